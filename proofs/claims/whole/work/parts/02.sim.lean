/-! THE SIMULATOR: a small interpreter of bytecode over a memory of cells by number (no machine, no heap): what its answers mean for the machine is said in the next parts -/
abbrev sm_M : Type := List va_E
abbrev sm_L : Type := List (Option Value)
abbrev sm_R : Type := Option (sm_M × Option Value)
/-- of a class: its field links (pool number, class, field, kind), its method links (pool number, kind, method, parameters, class of the receiver), its constants, what it makes -/
abbrev sm_LK : Type := List (Nat × Nat × Nat × Nat) × List (Nat × Nat × Nat × Nat × Nat) × List (Nat × Value) × List (Nat × Nat × List Value)
/-- of a method: name, bytes, locals, answer, instructions, which locals live at a loop's head, its class's links -/
abbrev sm_MI : Type := MethodName × ByteArray × Nat × Option FieldType × List (Nat × Instr) × List (Nat × List Bool) × sm_LK
def sm_fd {α : Type} : List (Nat × α) → Nat → Option α
  | [], _ => none
  | (q, a) :: t, k => match Nat.beq q k with
    | true => some a
    | false => sm_fd t k
def sm_msk : List Bool → sm_L → sm_L
  | b :: bs, v :: L => (match b with | true => v | false => none) :: sm_msk bs L
  | [], L => L
  | _ :: _, [] => []
def sm_kp (ks : List (Nat × List Bool)) (pc : Nat) (L : sm_L) : sm_L := match sm_fd ks pc with
  | none => L
  | some bs => sm_msk bs L
def sm_lg : sm_L → Nat → Option Value
  | [], _ => none
  | v :: _, 0 => v
  | _ :: t, i + 1 => sm_lg t i
def sm_is2 : Option Value → Bool
  | some (.long _) => true
  | some (.double _) => true
  | _ => false
def sm_cl (o : Option Value) : Option Value := match sm_is2 o with
  | true => none
  | false => o
def sm_s1 : sm_L → Nat → Value → sm_L
  | [], _, _ => []
  | _ :: t, 0, v => some v :: t
  | o :: t, i + 1, v => (match i with | 0 => sm_cl o | _ + 1 => o) :: sm_s1 t i v
def sm_s2 : sm_L → Nat → Value → sm_L
  | [], _, _ => []
  | _ :: t, 0, v => some v :: (match t with | [] => [] | _ :: t' => none :: t')
  | o :: t, i + 1, v => (match i with | 0 => sm_cl o | _ + 1 => o) :: sm_s2 t i v
def sm_get : sm_M → Nat → Option va_E
  | [], _ => none
  | e :: _, 0 => some e
  | _ :: t, i + 1 => sm_get t i
def sm_set : sm_M → Nat → va_E → sm_M
  | [], _, _ => []
  | _ :: t, 0, e => e :: t
  | c :: t, i + 1, e => c :: sm_set t i e
def sm_vg : List Value → Nat → Option Value
  | [], _ => none
  | v :: _, 0 => some v
  | _ :: t, i + 1 => sm_vg t i
def sm_vs : List Value → Nat → Value → List Value
  | [], _, _ => []
  | _ :: t, 0, v => v :: t
  | w :: t, i + 1, v => w :: sm_vs t i v
def sm_pt : Nat → Value → Bool
  | 0, .int _ => true
  | 1, .int x => x == 0 || x == 1
  | 2, .long _ => true
  | 3, .ref _ => true
  | _, _ => false
def sm_pop : Nat → List Value → List Value → Option (List Value × List Value)
  | 0, acc, st => some (acc, st)
  | n + 1, acc, v :: st => sm_pop n (v :: acc) st
  | _ + 1, _, [] => none
def sm_low (st : List Value) : Bool := Nat.ble ((st.map fun v => v.category).sum) 8
def sm_i1 (st : List Value) (f : Int32 → List Value → sm_R) : sm_R := match st with
  | .int x :: r => f x r
  | _ => none
def sm_i2 (st : List Value) (f : Int32 → Int32 → List Value → sm_R) : sm_R := match st with
  | .int y :: .int x :: r => f x y r
  | _ => none
def sm_l1 (st : List Value) (f : Int64 → List Value → sm_R) : sm_R := match st with
  | .long x :: r => f x r
  | _ => none
def sm_l2 (st : List Value) (f : Int64 → Int64 → List Value → sm_R) : sm_R := match st with
  | .long y :: .long x :: r => f x y r
  | _ => none
def sm_li (st : List Value) (f : Int64 → Int32 → List Value → sm_R) : sm_R := match st with
  | .int y :: .long x :: r => f x y r
  | _ => none
def sm_r1 (st : List Value) (f : Nat → List Value → sm_R) : sm_R := match st with
  | .ref x :: r => f x r
  | _ => none
def sm_tg (pc : Nat) (off : Int) (f : Nat → sm_R) : sm_R := match (pc : Int) + off with
  | .ofNat t => f t
  | .negSucc _ => none
def sm_li1 (L : sm_L) (i : Nat) (f : Int32 → sm_R) : sm_R := match sm_lg L i with
  | some (.int x) => f x
  | _ => none
def sm_ll1 (L : sm_L) (i : Nat) (f : Int64 → sm_R) : sm_R := match sm_lg L i with
  | some (.long x) => f x
  | _ => none
def sm_lr1 (L : sm_L) (i : Nat) (f : Nat → sm_R) : sm_R := match sm_lg L i with
  | some (.ref x) => f x
  | _ => none
/-- an index: in its row, or nothing -/
def sm_ix (i : Int32) (n : Nat) (f : Nat → sm_R) : sm_R := if i < 0 ∨ n ≤ i.toNatClampNeg then none else f i.toNatClampNeg
def sm_obj (M : sm_M) (o : Nat) (f : Nat → List Value → sm_R) : sm_R := match sm_get M o with
  | some (.inr (ci, fs)) => f ci fs
  | _ => none
def sm_ia (M : sm_M) (o : Nat) (f : Nat → (Nat → Int32) → sm_R) : sm_R := match sm_get M o with
  | some (.inl (0, n, .inl g)) => f n g
  | _ => none
def sm_la (M : sm_M) (o : Nat) (f : Nat → (Nat → Int64) → sm_R) : sm_R := match sm_get M o with
  | some (.inl (1, n, .inr (.inl g))) => f n g
  | _ => none
def sm_len (M : sm_M) (o : Nat) (f : Nat → sm_R) : sm_R := match sm_get M o with
  | some (.inl (0, n, .inl _)) => f n
  | some (.inl (1, n, .inr (.inl _))) => f n
  | _ => none
/-- the script's own number -/
def sm_SC : Nat := 1000
def sm_st1 (L : sm_L) (i : Nat) (v : Value) (f : sm_L → sm_R) : sm_R := match Nat.blt i L.length with
  | true => f (sm_s1 L i v)
  | false => none
def sm_st2 (L : sm_L) (i : Nat) (v : Value) (f : sm_L → sm_R) : sm_R := match Nat.blt (i + 1) L.length with
  | true => f (sm_s2 L i v)
  | false => none
def sm_ret (v : Option Value) (M : sm_M) (st : List Value) : sm_R := match st with
  | [] => some (M, v)
  | _ :: _ => none
def sm_zr (rt : Option FieldType) (x : Int32) : Bool := match rt with
  | some .int => true
  | some .boolean => x == 0 || x == 1
  | _ => false
def sm_inv (f : Nat → sm_L → List Value → sm_M → sm_R) (pc : Nat) (L : sm_L) (r : List Value) (a : sm_R) : sm_R := match a with
  | some (M, v) => f (pc + 3) L (v.toList ++ r) M
  | none => none
/-- one instruction; k: what comes behind it -/
def sm_ex (cal : Nat → List Value → sm_M → sm_R) (sc : Option (Nat × (Nat → Int32))) (mi : sm_MI) (k : Nat → sm_L → List Value → sm_M → sm_R) (pc : Nat) (L : sm_L) (st : List Value) (M : sm_M) (i : Instr) : sm_R :=
  match i with
  | .iconst n => k (pc + 1) L (.int (Int32.ofInt n) :: st) M
  | .bipush n => k (pc + 2) L (.int (Int8.ofInt n).toInt32 :: st) M
  | .sipush n => k (pc + 3) L (.int (Int16.ofInt n).toInt32 :: st) M
  | .lconst n => k (pc + 1) L (.long (Int64.ofNat (n : Nat)) :: st) M
  | .ldc x => (match sm_fd mi.2.2.2.2.2.2.2.2.1 x with | some (.int v) => k (pc + 2) L (.int v :: st) M | some (.ref v) => k (pc + 2) L (.ref v :: st) M | _ => none)
  | .ldc_w x => (match sm_fd mi.2.2.2.2.2.2.2.2.1 x with | some (.int v) => k (pc + 3) L (.int v :: st) M | _ => none)
  | .ldc2_w x => (match sm_fd mi.2.2.2.2.2.2.2.2.1 x with | some (.long v) => k (pc + 3) L (.long v :: st) M | _ => none)
  | .iload_n j => sm_li1 L j.val (fun x => k (pc + 1) L (.int x :: st) M)
  | .iload j => sm_li1 L j (fun x => k (pc + 2) L (.int x :: st) M)
  | .lload_n j => sm_ll1 L j.val (fun x => k (pc + 1) L (.long x :: st) M)
  | .lload j => sm_ll1 L j (fun x => k (pc + 2) L (.long x :: st) M)
  | .aload_n j => sm_lr1 L j.val (fun x => k (pc + 1) L (.ref x :: st) M)
  | .aload j => sm_lr1 L j (fun x => k (pc + 2) L (.ref x :: st) M)
  | .istore_n j => sm_i1 st (fun x r => sm_st1 L j.val (.int x) (fun L' => k (pc + 1) L' r M))
  | .istore j => sm_i1 st (fun x r => sm_st1 L j (.int x) (fun L' => k (pc + 2) L' r M))
  | .lstore_n j => sm_l1 st (fun x r => sm_st2 L j.val (.long x) (fun L' => k (pc + 1) L' r M))
  | .lstore j => sm_l1 st (fun x r => sm_st2 L j (.long x) (fun L' => k (pc + 2) L' r M))
  | .astore_n j => sm_r1 st (fun x r => sm_st1 L j.val (.ref x) (fun L' => k (pc + 1) L' r M))
  | .astore j => sm_r1 st (fun x r => sm_st1 L j (.ref x) (fun L' => k (pc + 2) L' r M))
  | .iinc j n => sm_li1 L j (fun x => sm_st1 L j (.int (x + Int32.ofInt n)) (fun L' => k (pc + 3) L' st M))
  | .iadd => sm_i2 st (fun x y r => k (pc + 1) L (.int (x + y) :: r) M)
  | .isub => sm_i2 st (fun x y r => k (pc + 1) L (.int (x - y) :: r) M)
  | .imul => sm_i2 st (fun x y r => k (pc + 1) L (.int (x * y) :: r) M)
  | .iand => sm_i2 st (fun x y r => k (pc + 1) L (.int (x &&& y) :: r) M)
  | .ior => sm_i2 st (fun x y r => k (pc + 1) L (.int (x ||| y) :: r) M)
  | .ixor => sm_i2 st (fun x y r => k (pc + 1) L (.int (x ^^^ y) :: r) M)
  | .idiv => sm_i2 st (fun x y r => if y = 0 then none else k (pc + 1) L (.int (x / y) :: r) M)
  | .irem => sm_i2 st (fun x y r => if y = 0 then none else k (pc + 1) L (.int (x - x / y * y) :: r) M)
  | .ishl => sm_i2 st (fun x y r => k (pc + 1) L (.int (x <<< (y &&& 31)) :: r) M)
  | .ishr => sm_i2 st (fun x y r => k (pc + 1) L (.int (x >>> (y &&& 31)) :: r) M)
  | .iushr => sm_i2 st (fun x y r => k (pc + 1) L (.int (x.toUInt32 >>> (y.toUInt32 &&& Int32.toUInt32 31)).toInt32 :: r) M)
  | .ineg => sm_i1 st (fun x r => k (pc + 1) L (.int (-x) :: r) M)
  | .ladd => sm_l2 st (fun x y r => k (pc + 1) L (.long (x + y) :: r) M)
  | .lsub => sm_l2 st (fun x y r => k (pc + 1) L (.long (x - y) :: r) M)
  | .land => sm_l2 st (fun x y r => k (pc + 1) L (.long (x &&& y) :: r) M)
  | .lor => sm_l2 st (fun x y r => k (pc + 1) L (.long (x ||| y) :: r) M)
  | .lxor => sm_l2 st (fun x y r => k (pc + 1) L (.long (x ^^^ y) :: r) M)
  | .lshl => sm_li st (fun x y r => k (pc + 1) L (.long (x <<< (y.toInt64 &&& 63)) :: r) M)
  | .lshr => sm_li st (fun x y r => k (pc + 1) L (.long (x >>> (y.toInt64 &&& 63)) :: r) M)
  | .lushr => sm_li st (fun x y r => k (pc + 1) L (.long (x.toUInt64 >>> (y.toInt64.toUInt64 &&& Int64.toUInt64 63)).toInt64 :: r) M)
  | .lcmp => sm_l2 st (fun x y r => k (pc + 1) L (.int (lg_cmp x y) :: r) M)
  | .i2l => sm_i1 st (fun x r => k (pc + 1) L (.long x.toInt64 :: r) M)
  | .l2i => sm_l1 st (fun x r => k (pc + 1) L (.int x.toInt32 :: r) M)
  | .dup => (match st with
    | .int x :: r => k (pc + 1) L (.int x :: .int x :: r) M
    | .ref x :: r => k (pc + 1) L (.ref x :: .ref x :: r) M
    | _ => none)
  | .dup2 => (match st with
    | .int x :: .ref y :: r => k (pc + 1) L (.int x :: .ref y :: .int x :: .ref y :: r) M
    | .long x :: r => k (pc + 1) L (.long x :: .long x :: r) M
    | _ => none)
  | .goto off => sm_tg pc off (fun t => k t L st M)
  | .ifCond c off => sm_tg pc off (fun t => sm_i1 st (fun x r => match c with
    | .eq => if x = 0 then k t L r M else k (pc + 3) L r M
    | .ne => if x = 0 then k (pc + 3) L r M else k t L r M
    | .lt => if x < 0 then k t L r M else k (pc + 3) L r M
    | .ge => if 0 ≤ x then k t L r M else k (pc + 3) L r M
    | .gt => if 0 < x then k t L r M else k (pc + 3) L r M
    | .le => if x ≤ 0 then k t L r M else k (pc + 3) L r M))
  | .if_icmp c off => sm_tg pc off (fun t => sm_i2 st (fun x y r => match c with
    | .eq => if x = y then k t L r M else k (pc + 3) L r M
    | .ne => if x = y then k (pc + 3) L r M else k t L r M
    | .lt => if x < y then k t L r M else k (pc + 3) L r M
    | .ge => if y ≤ x then k t L r M else k (pc + 3) L r M
    | .gt => if y < x then k t L r M else k (pc + 3) L r M
    | .le => if x ≤ y then k t L r M else k (pc + 3) L r M))
  | .tableswitch dflt lo hi offs => sm_i1 st (fun x r => if x.toInt < lo ∨ hi < x.toInt then sm_tg pc dflt (fun t => k t L r M) else (match offs[(x.toInt - lo).toNat]? with
    | some off => sm_tg pc off (fun t => k t L r M)
    | none => none))
  | .lookupswitch dflt ps => (match (ps.toList.zip (ps.toList.drop 1)).all (fun (a, next) => a.1 < next.1) with
    | true => sm_i1 st (fun x r => sm_tg pc (Op.lookupswitch.offset ps.toList dflt x.toInt) (fun t => k t L r M))
    | false => none)
  | .getfield x => (match sm_fd mi.2.2.2.2.2.2.1 x with
    | some (ci, j, _) => sm_r1 st (fun o r => sm_obj M o (fun cj fs => match Nat.beq cj ci with
      | true => (match sm_vg fs j with | some v => k (pc + 3) L (v :: r) M | none => none)
      | false => none))
    | none => none)
  | .putfield x => (match sm_fd mi.2.2.2.2.2.2.1 x with
    | some (ci, j, t) => (match st with
      | v :: .ref o :: r => sm_obj M o (fun cj fs => match Nat.beq cj ci && sm_pt t v && Nat.blt j fs.length with
        | true => k (pc + 3) L r (sm_set M o (.inr (cj, sm_vs fs j v)))
        | false => none)
      | _ => none)
    | none => none)
  | .iaload => (match st with
    | .int i :: .ref a :: r => (match Nat.beq a sm_SC with
      | true => (match sc with | some (n, g) => sm_ix i n (fun j => k (pc + 1) L (.int (g j) :: r) M) | none => none)
      | false => sm_ia M a (fun n g => sm_ix i n (fun j => k (pc + 1) L (.int (g j) :: r) M)))
    | _ => none)
  | .laload => (match st with
    | .int i :: .ref a :: r => sm_la M a (fun n g => sm_ix i n (fun j => k (pc + 1) L (.long (g j) :: r) M))
    | _ => none)
  | .iastore => (match st with
    | .int x :: .int i :: .ref a :: r => sm_ia M a (fun n g => sm_ix i n (fun j => k (pc + 1) L r (sm_set M a (.inl (0, n, .inl (upd g j x))))))
    | _ => none)
  | .lastore => (match st with
    | .long x :: .int i :: .ref a :: r => sm_la M a (fun n g => sm_ix i n (fun j => k (pc + 1) L r (sm_set M a (.inl (1, n, .inr (.inl (vp_updL g j x)))))))
    | _ => none)
  | .arraylength => sm_r1 st (fun a r => match Nat.beq a sm_SC with
    | true => (match sc with | some (n, _) => k (pc + 1) L (.int (Int32.ofNat n) :: r) M | none => none)
    | false => sm_len M a (fun n => k (pc + 1) L (.int (Int32.ofNat n) :: r) M))
  | .newarray t => sm_i1 st (fun x r => if x < 0 then none else (match Nat.ble x.toNatClampNeg 100000 && Nat.blt M.length 1000 with
    | true => (match t with
      | .int => k (pc + 2) L (.ref M.length :: r) (M ++ [.inl (0, x.toNatClampNeg, .inl (fun _ => 0))])
      | .long => k (pc + 2) L (.ref M.length :: r) (M ++ [.inl (1, x.toNatClampNeg, .inr (.inl (fun _ => 0)))])
      | _ => none)
    | false => none))
  | .new x => (match sm_fd mi.2.2.2.2.2.2.2.2.2 x with
    | some (ci, fs) => (match Nat.blt M.length 1000 with
      | true => k (pc + 3) L (.ref M.length :: st) (M ++ [.inr (ci, fs)])
      | false => none)
    | none => none)
  | .invokestatic x => (match sm_fd mi.2.2.2.2.2.2.2.1 x with
    | some (0, y, n, _) => (match sm_pop n [] st with
      | some (as, r) => (match sm_low r with | true => sm_inv k pc L r (cal y as M) | false => none)
      | none => none)
    | some (5, _, _, _) => sm_i2 st (fun x y r => match sm_low r with | true => k (pc + 3) L (.int (if x < y then y else x) :: r) M | false => none)
    | some (6, _, _, _) => sm_i2 st (fun x y r => match sm_low r with | true => k (pc + 3) L (.int (if y < x then y else x) :: r) M | false => none)
    | some (7, _, _, _) => sm_i1 st (fun x r => match sm_low r with | true => k (pc + 3) L (.int (if 0 ≤ x then x else 0 - x) :: r) M | false => none)
    | _ => none)
  | .invokevirtual x => (match sm_fd mi.2.2.2.2.2.2.2.1 x with
    | some (1, y, n, ci) => (match sm_pop n [] st with
      | some (as, .ref b :: r) => (match sm_low r with
        | true => sm_obj M b (fun cj _ => match Nat.beq cj ci with | true => sm_inv k pc L r (cal y (.ref b :: as) M) | false => none)
        | false => none)
      | _ => none)
    | some (4, y, n, _) => (match sm_pop n [] st with
      | some (as, .ref b :: r) => (match sm_low r && (Nat.ble 1001 b && Nat.ble b 1008) with
        | true => sm_inv k pc L r (cal y (.ref b :: as) M)
        | false => none)
      | _ => none)
    | _ => none)
  | .invokespecial x => (match sm_fd mi.2.2.2.2.2.2.2.1 x with
    | some (2, y, n, _) => (match sm_pop n [] st with
      | some (as, .ref b :: r) => (match sm_low r with | true => sm_inv k pc L r (cal y (.ref b :: as) M) | false => none)
      | _ => none)
    | some (3, _, _, _) => sm_r1 st (fun _ r => match sm_low r with | true => k (pc + 3) L r M | false => none)
    | _ => none)
  | .ireturn => sm_i1 st (fun x r => match sm_zr mi.2.2.2.1 x with | true => sm_ret (some (.int x)) M r | false => none)
  | .lreturn => sm_l1 st (fun x r => match mi.2.2.2.1 with | some .long => sm_ret (some (.long x)) M r | _ => none)
  | .return_ => (match mi.2.2.2.1 with | none => sm_ret none M st | some _ => none)
  | _ => none
def sm_run (cal : Nat → List Value → sm_M → sm_R) (sc : Option (Nat × (Nat → Int32))) (mi : sm_MI) : Nat → Nat → sm_L → List Value → sm_M → sm_R
  | 0, _, _, _, _ => none
  | n + 1, pc, L, st, M => match sm_fd mi.2.2.2.2.1 pc with
    | none => none
    | some i => sm_ex cal sc mi (sm_run cal sc mi n) pc (sm_kp mi.2.2.2.2.2.1 pc L) st M i
def sm_ent : List Value → sm_L
  | [] => []
  | v :: t => match sm_is2 (some v) with
    | true => some v :: none :: sm_ent t
    | false => some v :: sm_ent t
def sm_pad : Nat → sm_L → sm_L
  | 0, _ => []
  | n + 1, [] => none :: sm_pad n []
  | n + 1, o :: t => o :: sm_pad n t
/-- calls down to depth d, N instructions in each -/
def sm_sim (pg : List (Nat × sm_MI)) (bi : Nat → List Value → sm_M → sm_R) (sc : Option (Nat × (Nat → Int32))) : Nat → Nat → Nat → List Value → sm_M → sm_R
  | 0, _, _, _, _ => none
  | d + 1, N, y, as, M => match sm_fd pg y with
    | some mi => (match Nat.ble (sm_ent as).length mi.2.2.1 with
      | true => sm_run (sm_sim pg bi sc d N) sc mi N 0 (sm_pad mi.2.2.1 (sm_ent as)) [] M
      | false => none)
    | none => (match Nat.ble 4 d with
      | true => bi y as M
      | false => none)

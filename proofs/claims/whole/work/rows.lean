section
/-! THE SIMULATOR: a small interpreter of bytecode over a memory of cells by number (no machine, no heap): what its answers mean for the machine is said in the next parts -/
abbrev sm_M : Type := List va_E
abbrev sm_L : Type := List (Option Value)
abbrev sm_R : Type := Option (sm_M × Option Value)
/-- of a class: its field links (pool number, class, field, kind), its method links (pool number, kind, method, parameters, class of the receiver), its constants, what it makes -/
abbrev sm_LK : Type := List (Nat × Nat × Nat × Nat) × List (Nat × Nat × Nat × Nat × Nat) × List (Nat × Value) × List (Nat × Nat × List Value)
/-- of a method: name, bytes, locals, answer, instructions, which locals live at a loop's head, its class's links -/
abbrev sm_MI : Type := MethodName × ByteArray × Nat × Option FieldType × List (Nat × Instr) × List (Nat × List Bool) × sm_LK
def sm_fd {α : Type} : List (Nat × α) → Nat → Option α
  | [], _ => none
  | (q, a) :: t, k => match Nat.beq q k with
    | true => some a
    | false => sm_fd t k
def sm_msk : List Bool → sm_L → sm_L
  | b :: bs, v :: L => (match b with | true => v | false => none) :: sm_msk bs L
  | [], L => L
  | _ :: _, [] => []
def sm_kp (ks : List (Nat × List Bool)) (pc : Nat) (L : sm_L) : sm_L := match sm_fd ks pc with
  | none => L
  | some bs => sm_msk bs L
def sm_lg : sm_L → Nat → Option Value
  | [], _ => none
  | v :: _, 0 => v
  | _ :: t, i + 1 => sm_lg t i
def sm_is2 : Option Value → Bool
  | some (.long _) => true
  | some (.double _) => true
  | _ => false
def sm_cl (o : Option Value) : Option Value := match sm_is2 o with
  | true => none
  | false => o
def sm_s1 : sm_L → Nat → Value → sm_L
  | [], _, _ => []
  | _ :: t, 0, v => some v :: t
  | o :: t, i + 1, v => (match i with | 0 => sm_cl o | _ + 1 => o) :: sm_s1 t i v
def sm_s2 : sm_L → Nat → Value → sm_L
  | [], _, _ => []
  | _ :: t, 0, v => some v :: (match t with | [] => [] | _ :: t' => none :: t')
  | o :: t, i + 1, v => (match i with | 0 => sm_cl o | _ + 1 => o) :: sm_s2 t i v
def sm_get : sm_M → Nat → Option va_E
  | [], _ => none
  | e :: _, 0 => some e
  | _ :: t, i + 1 => sm_get t i
def sm_set : sm_M → Nat → va_E → sm_M
  | [], _, _ => []
  | _ :: t, 0, e => e :: t
  | c :: t, i + 1, e => c :: sm_set t i e
def sm_vg : List Value → Nat → Option Value
  | [], _ => none
  | v :: _, 0 => some v
  | _ :: t, i + 1 => sm_vg t i
def sm_vs : List Value → Nat → Value → List Value
  | [], _, _ => []
  | _ :: t, 0, v => v :: t
  | w :: t, i + 1, v => w :: sm_vs t i v
def sm_pt : Nat → Value → Bool
  | 0, .int _ => true
  | 1, .int x => x == 0 || x == 1
  | 2, .long _ => true
  | 3, .ref _ => true
  | _, _ => false
def sm_pop : Nat → List Value → List Value → Option (List Value × List Value)
  | 0, acc, st => some (acc, st)
  | n + 1, acc, v :: st => sm_pop n (v :: acc) st
  | _ + 1, _, [] => none
def sm_low (st : List Value) : Bool := Nat.ble ((st.map fun v => v.category).sum) 8
def sm_i1 (st : List Value) (f : Int32 → List Value → sm_R) : sm_R := match st with
  | .int x :: r => f x r
  | _ => none
def sm_i2 (st : List Value) (f : Int32 → Int32 → List Value → sm_R) : sm_R := match st with
  | .int y :: .int x :: r => f x y r
  | _ => none
def sm_l1 (st : List Value) (f : Int64 → List Value → sm_R) : sm_R := match st with
  | .long x :: r => f x r
  | _ => none
def sm_l2 (st : List Value) (f : Int64 → Int64 → List Value → sm_R) : sm_R := match st with
  | .long y :: .long x :: r => f x y r
  | _ => none
def sm_li (st : List Value) (f : Int64 → Int32 → List Value → sm_R) : sm_R := match st with
  | .int y :: .long x :: r => f x y r
  | _ => none
def sm_r1 (st : List Value) (f : Nat → List Value → sm_R) : sm_R := match st with
  | .ref x :: r => f x r
  | _ => none
def sm_tg (pc : Nat) (off : Int) (f : Nat → sm_R) : sm_R := match (pc : Int) + off with
  | .ofNat t => f t
  | .negSucc _ => none
def sm_li1 (L : sm_L) (i : Nat) (f : Int32 → sm_R) : sm_R := match sm_lg L i with
  | some (.int x) => f x
  | _ => none
def sm_ll1 (L : sm_L) (i : Nat) (f : Int64 → sm_R) : sm_R := match sm_lg L i with
  | some (.long x) => f x
  | _ => none
def sm_lr1 (L : sm_L) (i : Nat) (f : Nat → sm_R) : sm_R := match sm_lg L i with
  | some (.ref x) => f x
  | _ => none
/-- an index: in its row, or nothing -/
def sm_ix (i : Int32) (n : Nat) (f : Nat → sm_R) : sm_R := if i < 0 ∨ n ≤ i.toNatClampNeg then none else f i.toNatClampNeg
def sm_obj (M : sm_M) (o : Nat) (f : Nat → List Value → sm_R) : sm_R := match sm_get M o with
  | some (.inr (ci, fs)) => f ci fs
  | _ => none
def sm_ia (M : sm_M) (o : Nat) (f : Nat → (Nat → Int32) → sm_R) : sm_R := match sm_get M o with
  | some (.inl (0, n, .inl g)) => f n g
  | _ => none
def sm_la (M : sm_M) (o : Nat) (f : Nat → (Nat → Int64) → sm_R) : sm_R := match sm_get M o with
  | some (.inl (1, n, .inr (.inl g))) => f n g
  | _ => none
def sm_len (M : sm_M) (o : Nat) (f : Nat → sm_R) : sm_R := match sm_get M o with
  | some (.inl (0, n, .inl _)) => f n
  | some (.inl (1, n, .inr (.inl _))) => f n
  | _ => none
/-- the script's own number -/
def sm_SC : Nat := 1000
def sm_st1 (L : sm_L) (i : Nat) (v : Value) (f : sm_L → sm_R) : sm_R := match Nat.blt i L.length with
  | true => f (sm_s1 L i v)
  | false => none
def sm_st2 (L : sm_L) (i : Nat) (v : Value) (f : sm_L → sm_R) : sm_R := match Nat.blt (i + 1) L.length with
  | true => f (sm_s2 L i v)
  | false => none
def sm_ret (v : Option Value) (M : sm_M) (st : List Value) : sm_R := match st with
  | [] => some (M, v)
  | _ :: _ => none
def sm_zr (rt : Option FieldType) (x : Int32) : Bool := match rt with
  | some .int => true
  | some .boolean => x == 0 || x == 1
  | _ => false
def sm_inv (f : Nat → sm_L → List Value → sm_M → sm_R) (pc : Nat) (L : sm_L) (r : List Value) (a : sm_R) : sm_R := match a with
  | some (M, v) => f (pc + 3) L (v.toList ++ r) M
  | none => none
/-- one instruction; k: what comes behind it -/
def sm_ex (cal : Nat → List Value → sm_M → sm_R) (sc : Option (Nat × (Nat → Int32))) (mi : sm_MI) (k : Nat → sm_L → List Value → sm_M → sm_R) (pc : Nat) (L : sm_L) (st : List Value) (M : sm_M) (i : Instr) : sm_R :=
  match i with
  | .iconst n => k (pc + 1) L (.int (Int32.ofInt n) :: st) M
  | .bipush n => k (pc + 2) L (.int (Int8.ofInt n).toInt32 :: st) M
  | .sipush n => k (pc + 3) L (.int (Int16.ofInt n).toInt32 :: st) M
  | .lconst n => k (pc + 1) L (.long (Int64.ofNat (n : Nat)) :: st) M
  | .ldc x => (match sm_fd mi.2.2.2.2.2.2.2.2.1 x with | some (.int v) => k (pc + 2) L (.int v :: st) M | some (.ref v) => k (pc + 2) L (.ref v :: st) M | _ => none)
  | .ldc_w x => (match sm_fd mi.2.2.2.2.2.2.2.2.1 x with | some (.int v) => k (pc + 3) L (.int v :: st) M | _ => none)
  | .ldc2_w x => (match sm_fd mi.2.2.2.2.2.2.2.2.1 x with | some (.long v) => k (pc + 3) L (.long v :: st) M | _ => none)
  | .iload_n j => sm_li1 L j.val (fun x => k (pc + 1) L (.int x :: st) M)
  | .iload j => sm_li1 L j (fun x => k (pc + 2) L (.int x :: st) M)
  | .lload_n j => sm_ll1 L j.val (fun x => k (pc + 1) L (.long x :: st) M)
  | .lload j => sm_ll1 L j (fun x => k (pc + 2) L (.long x :: st) M)
  | .aload_n j => sm_lr1 L j.val (fun x => k (pc + 1) L (.ref x :: st) M)
  | .aload j => sm_lr1 L j (fun x => k (pc + 2) L (.ref x :: st) M)
  | .istore_n j => sm_i1 st (fun x r => sm_st1 L j.val (.int x) (fun L' => k (pc + 1) L' r M))
  | .istore j => sm_i1 st (fun x r => sm_st1 L j (.int x) (fun L' => k (pc + 2) L' r M))
  | .lstore_n j => sm_l1 st (fun x r => sm_st2 L j.val (.long x) (fun L' => k (pc + 1) L' r M))
  | .lstore j => sm_l1 st (fun x r => sm_st2 L j (.long x) (fun L' => k (pc + 2) L' r M))
  | .astore_n j => sm_r1 st (fun x r => sm_st1 L j.val (.ref x) (fun L' => k (pc + 1) L' r M))
  | .astore j => sm_r1 st (fun x r => sm_st1 L j (.ref x) (fun L' => k (pc + 2) L' r M))
  | .iinc j n => sm_li1 L j (fun x => sm_st1 L j (.int (x + Int32.ofInt n)) (fun L' => k (pc + 3) L' st M))
  | .iadd => sm_i2 st (fun x y r => k (pc + 1) L (.int (x + y) :: r) M)
  | .isub => sm_i2 st (fun x y r => k (pc + 1) L (.int (x - y) :: r) M)
  | .imul => sm_i2 st (fun x y r => k (pc + 1) L (.int (x * y) :: r) M)
  | .iand => sm_i2 st (fun x y r => k (pc + 1) L (.int (x &&& y) :: r) M)
  | .ior => sm_i2 st (fun x y r => k (pc + 1) L (.int (x ||| y) :: r) M)
  | .ixor => sm_i2 st (fun x y r => k (pc + 1) L (.int (x ^^^ y) :: r) M)
  | .idiv => sm_i2 st (fun x y r => if y = 0 then none else k (pc + 1) L (.int (x / y) :: r) M)
  | .irem => sm_i2 st (fun x y r => if y = 0 then none else k (pc + 1) L (.int (x - x / y * y) :: r) M)
  | .ishl => sm_i2 st (fun x y r => k (pc + 1) L (.int (x <<< (y &&& 31)) :: r) M)
  | .ishr => sm_i2 st (fun x y r => k (pc + 1) L (.int (x >>> (y &&& 31)) :: r) M)
  | .iushr => sm_i2 st (fun x y r => k (pc + 1) L (.int (x.toUInt32 >>> (y.toUInt32 &&& Int32.toUInt32 31)).toInt32 :: r) M)
  | .ineg => sm_i1 st (fun x r => k (pc + 1) L (.int (0 - x) :: r) M)
  | .ladd => sm_l2 st (fun x y r => k (pc + 1) L (.long (x + y) :: r) M)
  | .lsub => sm_l2 st (fun x y r => k (pc + 1) L (.long (x - y) :: r) M)
  | .land => sm_l2 st (fun x y r => k (pc + 1) L (.long (x &&& y) :: r) M)
  | .lor => sm_l2 st (fun x y r => k (pc + 1) L (.long (x ||| y) :: r) M)
  | .lxor => sm_l2 st (fun x y r => k (pc + 1) L (.long (x ^^^ y) :: r) M)
  | .lshl => sm_li st (fun x y r => k (pc + 1) L (.long (x <<< (y.toInt64 &&& 63)) :: r) M)
  | .lshr => sm_li st (fun x y r => k (pc + 1) L (.long (x >>> (y.toInt64 &&& 63)) :: r) M)
  | .lushr => sm_li st (fun x y r => k (pc + 1) L (.long (x.toUInt64 >>> (y.toInt64.toUInt64 &&& Int64.toUInt64 63)).toInt64 :: r) M)
  | .lcmp => sm_l2 st (fun x y r => k (pc + 1) L (.int (lg_cmp x y) :: r) M)
  | .i2l => sm_i1 st (fun x r => k (pc + 1) L (.long x.toInt64 :: r) M)
  | .l2i => sm_l1 st (fun x r => k (pc + 1) L (.int x.toInt32 :: r) M)
  | .dup => (match st with
    | .int x :: r => k (pc + 1) L (.int x :: .int x :: r) M
    | .ref x :: r => k (pc + 1) L (.ref x :: .ref x :: r) M
    | _ => none)
  | .dup2 => (match st with
    | .int x :: .ref y :: r => k (pc + 1) L (.int x :: .ref y :: .int x :: .ref y :: r) M
    | .long x :: r => k (pc + 1) L (.long x :: .long x :: r) M
    | _ => none)
  | .goto off => sm_tg pc off (fun t => k t L st M)
  | .ifCond c off => sm_tg pc off (fun t => sm_i1 st (fun x r => match c with
    | .eq => if x = 0 then k t L r M else k (pc + 3) L r M
    | .ne => if x = 0 then k (pc + 3) L r M else k t L r M
    | .lt => if x < 0 then k t L r M else k (pc + 3) L r M
    | .ge => if 0 ≤ x then k t L r M else k (pc + 3) L r M
    | .gt => if 0 < x then k t L r M else k (pc + 3) L r M
    | .le => if x ≤ 0 then k t L r M else k (pc + 3) L r M))
  | .if_icmp c off => sm_tg pc off (fun t => sm_i2 st (fun x y r => match c with
    | .eq => if x = y then k t L r M else k (pc + 3) L r M
    | .ne => if x = y then k (pc + 3) L r M else k t L r M
    | .lt => if x < y then k t L r M else k (pc + 3) L r M
    | .ge => if y ≤ x then k t L r M else k (pc + 3) L r M
    | .gt => if y < x then k t L r M else k (pc + 3) L r M
    | .le => if x ≤ y then k t L r M else k (pc + 3) L r M))
  | .tableswitch dflt lo hi offs => sm_i1 st (fun x r => if x.toInt < lo ∨ hi < x.toInt then sm_tg pc dflt (fun t => k t L r M) else (match offs[(x.toInt - lo).toNat]? with
    | some off => sm_tg pc off (fun t => k t L r M)
    | none => none))
  | .lookupswitch dflt ps => (match (ps.toList.zip (ps.toList.drop 1)).all (fun (a, next) => a.1 < next.1) with
    | true => sm_i1 st (fun x r => sm_tg pc (Op.lookupswitch.offset ps.toList dflt x.toInt) (fun t => k t L r M))
    | false => none)
  | .getfield x => (match sm_fd mi.2.2.2.2.2.2.1 x with
    | some (ci, j, _) => sm_r1 st (fun o r => sm_obj M o (fun cj fs => match Nat.beq cj ci with
      | true => (match sm_vg fs j with | some v => k (pc + 3) L (v :: r) M | none => none)
      | false => none))
    | none => none)
  | .putfield x => (match sm_fd mi.2.2.2.2.2.2.1 x with
    | some (ci, j, t) => (match st with
      | v :: .ref o :: r => sm_obj M o (fun cj fs => match Nat.beq cj ci && sm_pt t v && Nat.blt j fs.length with
        | true => k (pc + 3) L r (sm_set M o (.inr (cj, sm_vs fs j v)))
        | false => none)
      | _ => none)
    | none => none)
  | .iaload => (match st with
    | .int i :: .ref a :: r => (match Nat.beq a sm_SC with
      | true => (match sc with | some (n, g) => sm_ix i n (fun j => k (pc + 1) L (.int (g j) :: r) M) | none => none)
      | false => sm_ia M a (fun n g => sm_ix i n (fun j => k (pc + 1) L (.int (g j) :: r) M)))
    | _ => none)
  | .laload => (match st with
    | .int i :: .ref a :: r => sm_la M a (fun n g => sm_ix i n (fun j => k (pc + 1) L (.long (g j) :: r) M))
    | _ => none)
  | .iastore => (match st with
    | .int x :: .int i :: .ref a :: r => sm_ia M a (fun n g => sm_ix i n (fun j => k (pc + 1) L r (sm_set M a (.inl (0, n, .inl (upd g j x))))))
    | _ => none)
  | .lastore => (match st with
    | .long x :: .int i :: .ref a :: r => sm_la M a (fun n g => sm_ix i n (fun j => k (pc + 1) L r (sm_set M a (.inl (1, n, .inr (.inl (vp_updL g j x)))))))
    | _ => none)
  | .arraylength => sm_r1 st (fun a r => match Nat.beq a sm_SC with
    | true => (match sc with | some (n, _) => k (pc + 1) L (.int (Int32.ofNat n) :: r) M | none => none)
    | false => sm_len M a (fun n => k (pc + 1) L (.int (Int32.ofNat n) :: r) M))
  | .newarray t => sm_i1 st (fun x r => if x < 0 then none else (match Nat.ble x.toNatClampNeg 100000 && Nat.blt M.length 1000 with
    | true => (match t with
      | .int => k (pc + 2) L (.ref M.length :: r) (M ++ [.inl (0, x.toNatClampNeg, .inl (fun _ => 0))])
      | .long => k (pc + 2) L (.ref M.length :: r) (M ++ [.inl (1, x.toNatClampNeg, .inr (.inl (fun _ => 0)))])
      | _ => none)
    | false => none))
  | .new x => (match sm_fd mi.2.2.2.2.2.2.2.2.2 x with
    | some (ci, fs) => (match Nat.blt M.length 1000 with
      | true => k (pc + 3) L (.ref M.length :: st) (M ++ [.inr (ci, fs)])
      | false => none)
    | none => none)
  | .invokestatic x => (match sm_fd mi.2.2.2.2.2.2.2.1 x with
    | some (0, y, n, _) => (match sm_pop n [] st with
      | some (as, r) => (match sm_low r with | true => sm_inv k pc L r (cal y as M) | false => none)
      | none => none)
    | _ => none)
  | .invokevirtual x => (match sm_fd mi.2.2.2.2.2.2.2.1 x with
    | some (1, y, n, ci) => (match sm_pop n [] st with
      | some (as, .ref b :: r) => (match sm_low r with
        | true => sm_obj M b (fun cj _ => match Nat.beq cj ci with | true => sm_inv k pc L r (cal y (.ref b :: as) M) | false => none)
        | false => none)
      | _ => none)
    | _ => none)
  | .invokespecial x => (match sm_fd mi.2.2.2.2.2.2.2.1 x with
    | some (2, y, n, _) => (match sm_pop n [] st with
      | some (as, .ref b :: r) => (match sm_low r with | true => sm_inv k pc L r (cal y (.ref b :: as) M) | false => none)
      | _ => none)
    | some (3, _, _, _) => sm_r1 st (fun _ r => match sm_low r with | true => k (pc + 3) L r M | false => none)
    | _ => none)
  | .ireturn => sm_i1 st (fun x r => match sm_zr mi.2.2.2.1 x with | true => sm_ret (some (.int x)) M r | false => none)
  | .lreturn => sm_l1 st (fun x r => match mi.2.2.2.1 with | some .long => sm_ret (some (.long x)) M r | _ => none)
  | .return_ => (match mi.2.2.2.1 with | none => sm_ret none M st | some _ => none)
  | _ => none
def sm_run (cal : Nat → List Value → sm_M → sm_R) (sc : Option (Nat × (Nat → Int32))) (mi : sm_MI) : Nat → Nat → sm_L → List Value → sm_M → sm_R
  | 0, _, _, _, _ => none
  | n + 1, pc, L, st, M => match sm_fd mi.2.2.2.2.1 pc with
    | none => none
    | some i => sm_ex cal sc mi (sm_run cal sc mi n) pc (sm_kp mi.2.2.2.2.2.1 pc L) st M i
def sm_ent : List Value → sm_L
  | [] => []
  | v :: t => match sm_is2 (some v) with
    | true => some v :: none :: sm_ent t
    | false => some v :: sm_ent t
def sm_pad : Nat → sm_L → sm_L
  | 0, _ => []
  | n + 1, [] => none :: sm_pad n []
  | n + 1, o :: t => o :: sm_pad n t
/-- calls down to depth d, N instructions in each -/
def sm_sim (pg : List (Nat × sm_MI)) (bi : Nat → List Value → sm_M → sm_R) : Nat → Nat → Nat → List Value → sm_M → sm_R
  | 0, _, _, _, _ => none
  | d + 1, N, y, as, M => match sm_fd pg y with
    | some mi => sm_run (sm_sim pg bi d N) none mi N 0 (sm_pad mi.2.2.1 (sm_ent as)) [] M
    | none => bi y as M
end
section
/-! WHAT THE SIMULATOR'S NUMBERS MEAN: cells by their addresses (B + number, below 1000), locals, words -/
def sm_rho (B : Nat) (ad : Nat → Nat) (i : Nat) : Nat := if i < 1000 then B + i else ad i
def sm_cv (B : Nat) (ad : Nat → Nat) : Value → Value
  | .ref a => .ref (sm_rho B ad a)
  | v => v
def sm_ce (τ : Nat → ClassId) (B : Nat) (ad : Nat → Nat) : va_E → va_E
  | .inl (c, a) => .inl (τ c, a)
  | .inr (ci, fs) => .inr (ci, fs.map (sm_cv B ad))
def sm_w (τ : Nat → ClassId) (B : Nat) (ad : Nat → Nat) : Nat → sm_M → va_W
  | _, [] => []
  | j, e :: t => (sm_rho B ad j, sm_ce τ B ad e) :: sm_w τ B ad (j + 1) t
def sm_sz : va_E → Nat
  | .inl (_, n, _) => n
  | .inr (_, fs) => fs.length
def sm_sl : sm_M → Nat
  | [] => 0
  | e :: t => sm_sz e + sm_sl t
theorem sm_w_get (τ : Nat → ClassId) (B : Nat) (ad : Nat → Nat) : ∀ (M : sm_M) (j i : Nat), (sm_w τ B ad j M)[i]? = (sm_get M i).map (fun e => (sm_rho B ad (j + i), sm_ce τ B ad e)) := by
  intro M
  induction M with
  | nil => intro j i; rfl
  | cons e t ih =>
    intro j i
    cases i with
    | zero => rfl
    | succ i =>
      show (sm_w τ B ad (j + 1) t)[i]? = _
      rw [ih (j + 1) i, show j + 1 + i = j + (i + 1) by omega]
      rfl
theorem sm_w_set (τ : Nat → ClassId) (B : Nat) (ad : Nat → Nat) : ∀ (M : sm_M) (j i : Nat) (e : va_E), (sm_w τ B ad j M).set i (sm_rho B ad (j + i), sm_ce τ B ad e) = sm_w τ B ad j (sm_set M i e) := by
  intro M
  induction M with
  | nil => intro j i e; rfl
  | cons c t ih =>
    intro j i e
    cases i with
    | zero => rfl
    | succ i =>
      show _ :: (sm_w τ B ad (j + 1) t).set i _ = _ :: sm_w τ B ad (j + 1) (sm_set t i e)
      rw [← ih (j + 1) i e, show j + 1 + i = j + (i + 1) by omega]
theorem sm_w_app (τ : Nat → ClassId) (B : Nat) (ad : Nat → Nat) (e : va_E) : ∀ (M : sm_M) (j : Nat), sm_w τ B ad j (M ++ [e]) = sm_w τ B ad j M ++ [(sm_rho B ad (j + M.length), sm_ce τ B ad e)] := by
  intro M
  induction M with
  | nil => intro j; rfl
  | cons c t ih =>
    intro j
    show _ :: sm_w τ B ad (j + 1) (t ++ [e]) = _ :: (sm_w τ B ad (j + 1) t ++ _)
    rw [ih (j + 1), show j + 1 + t.length = j + (c :: t).length by simp; omega]
theorem sm_get_lt : ∀ {M : sm_M} {i : Nat} {e : va_E}, sm_get M i = some e → i < M.length := by
  intro M
  induction M with
  | nil => intro i e h; cases h
  | cons c t ih =>
    intro i e h
    cases i with
    | zero => simp
    | succ i => have := ih (i := i) h; simp; omega
theorem sm_set_len : ∀ (M : sm_M) (i : Nat) (e : va_E), (sm_set M i e).length = M.length := by
  intro M
  induction M with
  | nil => intro i e; rfl
  | cons c t ih =>
    intro i e
    cases i with
    | zero => rfl
    | succ i => simp [sm_set, ih]
theorem sm_set_sl : ∀ {M : sm_M} {i : Nat} {e e0 : va_E}, sm_get M i = some e0 → sm_sz e = sm_sz e0 → sm_sl (sm_set M i e) = sm_sl M := by
  intro M
  induction M with
  | nil => intro i e e0 h; cases h
  | cons c t ih =>
    intro i e e0 h hz
    cases i with
    | zero => cases h; simp [sm_set, sm_sl, hz]
    | succ i => simp [sm_set, sm_sl, ih (i := i) h hz]
theorem sm_sl_app (e : va_E) : ∀ (M : sm_M), sm_sl (M ++ [e]) = sm_sl M + sm_sz e := by
  intro M
  induction M with
  | nil => simp [sm_sl]
  | cons c t ih => simp [sm_sl, ih]; omega
theorem sm_rho_lt {B : Nat} {ad : Nat → Nat} {i : Nat} (h : i < 1000) : sm_rho B ad i = B + i := if_pos h
/-- the cells' addresses are apart, and from B on -/
theorem sm_D {τ : Nat → ClassId} {B : Nat} {ad : Nat → Nat} {M : sm_M} (h : M.length ≤ 1000) : va_D (fun q => B ≤ q) (sm_w τ B ad 0 M) := by
  have key : ∀ (i : Nat) (q : Nat × va_E), (sm_w τ B ad 0 M)[i]? = some q → q.1 = B + i := by
    intro i q hq
    rw [sm_w_get] at hq
    cases hg : sm_get M i with
    | none => rw [hg] at hq; cases hq
    | some e =>
      rw [hg] at hq
      have hlt := sm_get_lt hg
      have : q = (sm_rho B ad (0 + i), sm_ce τ B ad e) := (Option.some.inj hq).symm
      rw [this, Nat.zero_add, sm_rho_lt (by omega)]
  exact ⟨fun i j a b ha hb hab => by rw [key i a ha, key j b hb] at hab; omega, fun i q hq => by rw [key i q hq]; exact Nat.le_add_right _ _⟩
theorem sm_cv_cat (B : Nat) (ad : Nat → Nat) (v : Value) : (sm_cv B ad v).category = v.category := by cases v <;> rfl
/-- locals: what they hold, by their places -/
def sm_al (B : Nat) (ad : Nat → Nat) : Nat → sm_L → List (Nat × Value)
  | _, [] => []
  | j, none :: t => sm_al B ad (j + 1) t
  | j, some v :: t => (j, sm_cv B ad v) :: sm_al B ad (j + 1) t
theorem sm_al_in {B : Nat} {ad : Nat → Nat} : ∀ {L : sm_L} {i j : Nat} {v : Value}, sm_lg L i = some v → (j + i, sm_cv B ad v) ∈ sm_al B ad j L := by
  intro L
  induction L with
  | nil => intro i j v h; cases h
  | cons o t ih =>
    intro i j v h
    cases i with
    | zero =>
      have h : o = some v := h
      subst h
      exact List.mem_cons_self
    | succ i =>
      have h : sm_lg t i = some v := h
      have := ih (j := j + 1) h
      rw [show j + 1 + i = j + (i + 1) by omega] at this
      cases o with
      | none => exact this
      | some w => exact List.mem_cons_of_mem _ this
theorem sm_al_ge {B : Nat} {ad : Nat → Nat} : ∀ {L : sm_L} {j : Nat} {q : Nat × Value}, q ∈ sm_al B ad j L → j ≤ q.1 := by
  intro L
  induction L with
  | nil => intro j q h; cases h
  | cons o t ih =>
    intro j q h
    cases o with
    | none => exact Nat.le_of_succ_le (ih (j := j + 1) h)
    | some w =>
      rcases List.mem_cons.mp h with rfl | h
      · exact Nat.le_refl _
      · exact Nat.le_of_succ_le (ih (j := j + 1) h)
theorem sm_al_msk {B : Nat} {ad : Nat → Nat} : ∀ {L : sm_L} {bs : List Bool} {j : Nat} {q : Nat × Value}, q ∈ sm_al B ad j (sm_msk bs L) → q ∈ sm_al B ad j L := by
  intro L
  induction L with
  | nil => intro bs j q h; cases bs <;> cases h
  | cons o t ih =>
    intro bs j q h
    cases bs with
    | nil => exact h
    | cons b bs =>
      cases b with
      | true =>
        cases o with
        | none => exact ih (bs := bs) (j := j + 1) h
        | some w =>
          rcases List.mem_cons.mp h with h | h
          · exact List.mem_cons.mpr (Or.inl h)
          · exact List.mem_cons_of_mem _ (ih (bs := bs) (j := j + 1) h)
      | false =>
        have h2 := ih (bs := bs) (j := j + 1) h
        cases o with
        | none => exact h2
        | some w => exact List.mem_cons_of_mem _ h2
theorem sm_msk_len : ∀ (L : sm_L) (bs : List Bool), (sm_msk bs L).length = L.length := by
  intro L
  induction L with
  | nil => intro bs; cases bs <;> rfl
  | cons o t ih =>
    intro bs
    cases bs with
    | nil => rfl
    | cons b bs => simp [sm_msk, ih]
theorem sm_s1_len : ∀ (L : sm_L) (i : Nat) (v : Value), (sm_s1 L i v).length = L.length := by
  intro L
  induction L with
  | nil => intro i v; rfl
  | cons o t ih =>
    intro i v
    cases i with
    | zero => rfl
    | succ i => simp [sm_s1, ih]
theorem sm_s2_len : ∀ (L : sm_L) (i : Nat) (v : Value), (sm_s2 L i v).length = L.length := by
  intro L
  induction L with
  | nil => intro i v; rfl
  | cons o t ih =>
    intro i v
    cases i with
    | zero => cases t <;> rfl
    | succ i => simp [sm_s2, ih]
theorem sm_al_cl {B : Nat} {ad : Nat → Nat} {o : Option Value} {t : sm_L} {j : Nat} {q : Nat × Value} (h : q ∈ sm_al B ad j (sm_cl o :: t)) : (q ∈ sm_al B ad j [o] ∧ ¬ q.2.category = 2) ∨ q ∈ sm_al B ad (j + 1) t := by
  cases o with
  | none => exact Or.inr h
  | some v =>
    cases v <;> first
      | exact Or.inr h
      | (rcases List.mem_cons.mp h with rfl | h
         · exact Or.inl ⟨List.mem_cons_self, by simp [sm_cv, Value.category]⟩
         · exact Or.inr h)
theorem sm_al_one {B : Nat} {ad : Nat → Nat} {o : Option Value} {t : sm_L} {j : Nat} {q : Nat × Value} (h : q ∈ sm_al B ad j [o]) : q ∈ sm_al B ad j (o :: t) ∧ q.1 = j := by
  cases o with
  | none => cases h
  | some v =>
    rcases List.mem_cons.mp h with rfl | h
    · exact ⟨List.mem_cons_self, rfl⟩
    · cases h
theorem sm_al_tl {B : Nat} {ad : Nat → Nat} {o : Option Value} {t : sm_L} {j : Nat} {q : Nat × Value} (h : q ∈ sm_al B ad (j + 1) t) : q ∈ sm_al B ad j (o :: t) := by
  cases o with
  | none => exact h
  | some v => exact List.mem_cons_of_mem _ h
theorem sm_al_hd {B : Nat} {ad : Nat → Nat} {o : Option Value} {t : sm_L} {j : Nat} {q : Nat × Value} (h : q ∈ sm_al B ad j (o :: t)) : (q ∈ sm_al B ad j [o]) ∨ q ∈ sm_al B ad (j + 1) t := by
  cases o with
  | none => exact Or.inr h
  | some v =>
    rcases List.mem_cons.mp h with rfl | h
    · exact Or.inl List.mem_cons_self
    · exact Or.inr h
theorem sm_al_s1 {B : Nat} {ad : Nat → Nat} : ∀ {L : sm_L} {i j : Nat} {v : Value} {q : Nat × Value}, q ∈ sm_al B ad j (sm_s1 L i v) → q = (j + i, sm_cv B ad v) ∨ (q ∈ sm_al B ad j L ∧ ¬ q.1 = j + i ∧ ¬ (q.1 + 1 = j + i ∧ q.2.category = 2)) := by
  intro L
  induction L with
  | nil => intro i j v q h; cases h
  | cons o t ih =>
    intro i j v q h
    cases i with
    | zero =>
      rcases List.mem_cons.mp (show q ∈ (j, sm_cv B ad v) :: sm_al B ad (j + 1) t from h) with h | h
      · exact Or.inl h
      · have g := sm_al_ge h
        exact Or.inr ⟨sm_al_tl h, by omega, by omega⟩
    | succ i =>
      cases i with
      | zero =>
        rcases sm_al_cl (show q ∈ sm_al B ad j (sm_cl o :: sm_s1 t 0 v) from h) with ⟨h, hc⟩ | h
        · obtain ⟨h1, h2⟩ := sm_al_one (t := t) h
          exact Or.inr ⟨h1, by omega, fun z => hc z.2⟩
        · rcases ih (i := 0) (j := j + 1) h with h | ⟨h, h2, h3⟩
          · exact Or.inl (by rw [h])
          · exact Or.inr ⟨sm_al_tl h, by omega, fun z => h3 ⟨by omega, z.2⟩⟩
      | succ i =>
        rcases sm_al_hd (show q ∈ sm_al B ad j (o :: sm_s1 t (i + 1) v) from h) with h | h
        · obtain ⟨h1, h2⟩ := sm_al_one (t := t) h
          exact Or.inr ⟨h1, by omega, by omega⟩
        · rcases ih (i := i + 1) (j := j + 1) h with h | ⟨h, h2, h3⟩
          · exact Or.inl (by rw [h, show j + 1 + (i + 1) = j + (i + 1 + 1) by omega])
          · exact Or.inr ⟨sm_al_tl h, by omega, fun z => h3 ⟨by omega, z.2⟩⟩
theorem sm_al_s2 {B : Nat} {ad : Nat → Nat} : ∀ {L : sm_L} {i j : Nat} {v : Value} {q : Nat × Value}, q ∈ sm_al B ad j (sm_s2 L i v) → q = (j + i, sm_cv B ad v) ∨ (q ∈ sm_al B ad j L ∧ ¬ q.1 = j + i ∧ ¬ q.1 = j + i + 1 ∧ ¬ (q.1 + 1 = j + i ∧ q.2.category = 2)) := by
  intro L
  induction L with
  | nil => intro i j v q h; cases h
  | cons o t ih =>
    intro i j v q h
    cases i with
    | zero =>
      cases t with
      | nil =>
        rcases List.mem_cons.mp (show q ∈ (j, sm_cv B ad v) :: sm_al B ad (j + 1) [] from h) with h | h
        · exact Or.inl h
        · cases h
      | cons o2 t =>
        rcases List.mem_cons.mp (show q ∈ (j, sm_cv B ad v) :: sm_al B ad (j + 1 + 1) t from h) with h | h
        · exact Or.inl h
        · have g := sm_al_ge h
          exact Or.inr ⟨sm_al_tl (sm_al_tl h), by omega, by omega, by omega⟩
    | succ i =>
      cases i with
      | zero =>
        rcases sm_al_cl (show q ∈ sm_al B ad j (sm_cl o :: sm_s2 t 0 v) from h) with ⟨h, hc⟩ | h
        · obtain ⟨h1, h2⟩ := sm_al_one (t := t) h
          exact Or.inr ⟨h1, by omega, by omega, fun z => hc z.2⟩
        · rcases ih (i := 0) (j := j + 1) h with h | ⟨h, h2, h3, h4⟩
          · exact Or.inl (by rw [h])
          · exact Or.inr ⟨sm_al_tl h, by omega, by omega, fun z => h4 ⟨by omega, z.2⟩⟩
      | succ i =>
        rcases sm_al_hd (show q ∈ sm_al B ad j (o :: sm_s2 t (i + 1) v) from h) with h | h
        · obtain ⟨h1, h2⟩ := sm_al_one (t := t) h
          exact Or.inr ⟨h1, by omega, by omega, by omega⟩
        · rcases ih (i := i + 1) (j := j + 1) h with h | ⟨h, h2, h3, h4⟩
          · exact Or.inl (by rw [h, show j + 1 + (i + 1) = j + (i + 1 + 1) by omega])
          · exact Or.inr ⟨sm_al_tl h, by omega, by omega, fun z => h4 ⟨by omega, z.2⟩⟩
theorem sm_has_le {ls : Array Slot} {nL : Nat} {l l' : List (Nat × Value)} (h : lv_has ls nL l) (hs : ∀ q ∈ l', q ∈ l) : lv_has ls nL l' := ⟨h.1, h.2.1, fun q hq => h.2.2 q (hs q hq)⟩
theorem sm_has_kp {ls : Array Slot} {nL : Nat} {B : Nat} {ad : Nat → Nat} {L : sm_L} {ks : List (Nat × List Bool)} {pc : Nat} (h : lv_has ls nL (sm_al B ad 0 L)) : lv_has ls nL (sm_al B ad 0 (sm_kp ks pc L)) := by
  unfold sm_kp
  cases sm_fd ks pc with
  | none => exact h
  | some bs => exact sm_has_le h (fun q hq => sm_al_msk hq)
theorem sm_kp_len (ks : List (Nat × List Bool)) (pc : Nat) (L : sm_L) : (sm_kp ks pc L).length = L.length := by
  unfold sm_kp
  cases sm_fd ks pc with
  | none => rfl
  | some bs => exact sm_msk_len L bs
theorem sm_has_s1 {ls : Array Slot} {nL : Nat} {B : Nat} {ad : Nat → Nat} {L : sm_L} {i : Nat} {v : Value} (h : lv_has ls nL ((i, sm_cv B ad v) :: (sm_al B ad 0 L).filter (fun q => !(q.1 == i) && !(q.1 + 1 == i && q.2.category == 2)))) : lv_has ls nL (sm_al B ad 0 (sm_s1 L i v)) := by
  refine sm_has_le h (fun q hq => ?_)
  rcases sm_al_s1 hq with h | ⟨h1, h2, h3⟩
  · rw [h, Nat.zero_add]; exact List.mem_cons_self
  · refine List.mem_cons_of_mem _ (List.mem_filter.mpr ⟨h1, ?_⟩)
    rw [Nat.zero_add] at h2 h3
    simp only [Bool.and_eq_true, Bool.not_eq_true', beq_eq_false_iff_ne, ne_eq, Bool.and_eq_false_iff]
    refine ⟨h2, ?_⟩
    by_cases z : q.1 + 1 = i
    · exact Or.inr (fun y => h3 ⟨z, y⟩)
    · exact Or.inl z
theorem sm_has_s2 {ls : Array Slot} {nL : Nat} {B : Nat} {ad : Nat → Nat} {L : sm_L} {i : Nat} {v : Value} (h : lv_has ls nL ((i, sm_cv B ad v) :: (sm_al B ad 0 L).filter (fun q => !(q.1 == i) && (!(q.1 == i + 1) && !(q.1 + 1 == i && q.2.category == 2))))) : lv_has ls nL (sm_al B ad 0 (sm_s2 L i v)) := by
  refine sm_has_le h (fun q hq => ?_)
  rcases sm_al_s2 hq with h | ⟨h1, h2, h3, h4⟩
  · rw [h, Nat.zero_add]; exact List.mem_cons_self
  · refine List.mem_cons_of_mem _ (List.mem_filter.mpr ⟨h1, ?_⟩)
    rw [Nat.zero_add] at h2 h3 h4
    simp only [Bool.and_eq_true, Bool.not_eq_true', beq_eq_false_iff_ne, ne_eq, Bool.and_eq_false_iff]
    refine ⟨h2, h3, ?_⟩
    by_cases z : q.1 + 1 = i
    · exact Or.inr (fun y => h4 ⟨z, y⟩)
    · exact Or.inl z
theorem sm_lg_lt : ∀ {L : sm_L} {i : Nat} {v : Value}, sm_lg L i = some v → i < L.length := by
  intro L
  induction L with
  | nil => intro i v h; cases h
  | cons o t ih =>
    intro i v h
    cases i with
    | zero => simp
    | succ i => have := ih (i := i) h; simp; omega
theorem sm_has_at {ls : Array Slot} {nL : Nat} {B : Nat} {ad : Nat → Nat} {L : sm_L} {i : Nat} {v : Value} (h : lv_has ls nL (sm_al B ad 0 L)) (hv : sm_lg L i = some v) : ls[i]? = some (.val (sm_cv B ad v)) := by
  have := h.2.2 _ (sm_al_in (B := B) (ad := ad) (j := 0) hv)
  rw [Nat.zero_add] at this
  exact this
end

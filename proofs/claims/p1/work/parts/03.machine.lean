/-! THE PURE MACHINE: sizes, shapes of cells by address, their contents; a frame; one instruction at a time; its tables (zY, zCode, zFld ..) stand in the part ahead. A shape (c, n): c < 100 an object of class c, else an array of kind c - 100; n its fields or elements -/
abbrev zW : Type := (Nat × Nat) × (Nat → Option (Nat × Nat)) × (Nat → Nat → Value)
abbrev zS : Type := Nat × Nat × (Nat → Int32)
def zset (w : zW) (a k : Nat) (v : Value) : zW := (w.1, w.2.1, fun x j => if x = a ∧ j = k then v else w.2.2 x j)
def zpush (w : zW) (c n : Nat) (f : Nat → Value) : zW := ((w.1.1 + 1, w.1.2 + n), (fun x => if x = w.1.1 then some (c, n) else w.2.1 x), fun x j => if x = w.1.1 then f j else w.2.2 x j)
def zlk (i : Nat) : List (Nat × Value) → Option Value
  | [] => none
  | q :: t => if q.1 = i then some q.2 else zlk i t
/-- the locals lie by their numbers -/
def zins (i : Nat) (v : Value) : List (Nat × Value) → List (Nat × Value)
  | [] => [(i, v)]
  | q :: t => cond (Nat.ble i q.1) ((i, v) :: q :: t) (q :: zins i v t)
def zs1 (i : Nat) (v : Value) (L : List (Nat × Value)) : List (Nat × Value) := zins i v (L.filter (fun q => !(q.1 == i) && !(q.1 + 1 == i && q.2.category == 2)))
def zs2 (i : Nat) (v : Value) (L : List (Nat × Value)) : List (Nat × Value) := zins i v (L.filter (fun q => !(q.1 == i) && (!(q.1 == i + 1) && !(q.1 + 1 == i && q.2.category == 2))))
/-- which kind of step an instruction is: 0 the operand stack alone, 1 locals, 2 a branch, 3 the heap and constants, 4 a call, 5 a return -/
def zgr : Jvm.ClassFile.Instr → Nat
  | .iconst _ => 0 | .bipush _ => 0 | .sipush _ => 0 | .lconst _ => 0 | .aconst_null => 0
  | .iadd => 0 | .isub => 0 | .imul => 0 | .idiv => 0 | .irem => 0 | .ineg => 0 | .iand => 0 | .ior => 0 | .ixor => 0 | .ishl => 0 | .ishr => 0 | .iushr => 0
  | .ladd => 0 | .lsub => 0 | .lmul => 0 | .ldiv => 0 | .lrem => 0 | .lneg => 0 | .land => 0 | .lor => 0 | .lxor => 0 | .lshl => 0 | .lshr => 0 | .lushr => 0
  | .i2l => 0 | .l2i => 0 | .lcmp => 0 | .dup => 0 | .pop => 0 | .dup_x1 => 0 | .dup_x2 => 0 | .dup2 => 0 | .pop2 => 0
  | .iload _ => 1 | .iload_n _ => 1 | .lload _ => 1 | .lload_n _ => 1 | .aload _ => 1 | .aload_n _ => 1
  | .istore _ => 1 | .istore_n _ => 1 | .lstore _ => 1 | .lstore_n _ => 1 | .astore _ => 1 | .astore_n _ => 1 | .iinc _ _ => 1
  | .ifCond _ _ => 2 | .if_icmp _ _ => 2 | .if_acmp _ _ => 2 | .ifnull _ => 2 | .ifnonnull _ => 2 | .goto _ => 2 | .tableswitch _ _ _ _ => 2 | .lookupswitch _ _ => 2
  | .getfield _ => 3 | .putfield _ => 3 | .new _ => 3 | .newarray _ => 3 | .anewarray _ => 3 | .arraylength => 3
  | .iaload => 3 | .laload => 3 | .baload => 3 | .aaload => 3 | .iastore => 3 | .lastore => 3 | .bastore => 3 | .aastore => 3 | .ldc _ => 3 | .ldc2_w _ => 3
  | .invokevirtual _ => 4 | .invokespecial _ => 4 | .invokestatic _ => 4
  | .ireturn => 5 | .lreturn => 5 | .areturn => 5 | .return_ => 5
  | _ => 6
def zalu : Jvm.ClassFile.Instr → Nat → List Value → Option (List Value)
  | .iconst n, 1, r => some (.int (Int32.ofInt n) :: r)
  | .bipush n, 2, r => some (.int (Int8.ofInt n).toInt32 :: r)
  | .sipush n, 3, r => some (.int (Int16.ofInt n).toInt32 :: r)
  | .lconst n, 1, r => some (.long (Int64.ofNat (n : Nat)) :: r)
  | .aconst_null, 1, r => some (.null :: r)
  | .iadd, 1, .int y :: .int x :: r => some (.int (x + y) :: r)
  | .isub, 1, .int y :: .int x :: r => some (.int (x - y) :: r)
  | .imul, 1, .int y :: .int x :: r => some (.int (x * y) :: r)
  | .idiv, 1, .int y :: .int x :: r => if y = 0 then none else some (.int (x / y) :: r)
  | .irem, 1, .int y :: .int x :: r => if y = 0 then none else some (.int (x - x / y * y) :: r)
  | .ineg, 1, .int x :: r => some (.int (-x) :: r)
  | .iand, 1, .int y :: .int x :: r => some (.int (x &&& y) :: r)
  | .ior, 1, .int y :: .int x :: r => some (.int (x ||| y) :: r)
  | .ixor, 1, .int y :: .int x :: r => some (.int (x ^^^ y) :: r)
  | .ishl, 1, .int y :: .int x :: r => some (.int (x <<< (y &&& 31)) :: r)
  | .ishr, 1, .int y :: .int x :: r => some (.int (x >>> (y &&& 31)) :: r)
  | .iushr, 1, .int y :: .int x :: r => some (.int (x.toUInt32 >>> (y.toUInt32 &&& Int32.toUInt32 31)).toInt32 :: r)
  | .ladd, 1, .long y :: .long x :: r => some (.long (x + y) :: r)
  | .lsub, 1, .long y :: .long x :: r => some (.long (x - y) :: r)
  | .lmul, 1, .long y :: .long x :: r => some (.long (x * y) :: r)
  | .ldiv, 1, .long y :: .long x :: r => if y = 0 then none else some (.long (x / y) :: r)
  | .lrem, 1, .long y :: .long x :: r => if y = 0 then none else some (.long (x - x / y * y) :: r)
  | .lneg, 1, .long x :: r => some (.long (-x) :: r)
  | .land, 1, .long y :: .long x :: r => some (.long (x &&& y) :: r)
  | .lor, 1, .long y :: .long x :: r => some (.long (x ||| y) :: r)
  | .lxor, 1, .long y :: .long x :: r => some (.long (x ^^^ y) :: r)
  | .lshl, 1, .int y :: .long x :: r => some (.long (x <<< (y.toInt64 &&& 63)) :: r)
  | .lshr, 1, .int y :: .long x :: r => some (.long (x >>> (y.toInt64 &&& 63)) :: r)
  | .lushr, 1, .int y :: .long x :: r => some (.long (x.toUInt64 >>> (y.toInt64.toUInt64 &&& Int64.toUInt64 63)).toInt64 :: r)
  | .i2l, 1, .int x :: r => some (.long x.toInt64 :: r)
  | .l2i, 1, .long x :: r => some (.int x.toInt32 :: r)
  | .lcmp, 1, .long y :: .long x :: r => some (.int (lg_cmp x y) :: r)
  | .dup, 1, v :: r => if v.category = 1 then some (v :: v :: r) else none
  | .pop, 1, v :: r => if v.category = 1 then some r else none
  | .dup_x1, 1, v :: u :: r => if v.category = 1 ∧ u.category = 1 then some (v :: u :: v :: r) else none
  | .dup_x2, 1, v :: u :: t :: r => if v.category = 1 ∧ u.category = 1 ∧ t.category = 1 then some (v :: u :: t :: v :: r) else none
  | .dup2, 1, v :: u :: r => if v.category = 1 ∧ u.category = 1 then some (v :: u :: v :: u :: r) else none
  | _, _, _ => none
def zloc (nL : Nat) (ins : Jvm.ClassFile.Instr) (len : Nat) (L : List (Nat × Value)) (st : List Value) : Option (List (Nat × Value) × List Value) :=
  match ins, len, st with
  | .iload_n k, 1, r => (match zlk k.val L with | some (.int x) => some (L, .int x :: r) | _ => none)
  | .iload i, 2, r => (match zlk i L with | some (.int x) => some (L, .int x :: r) | _ => none)
  | .lload_n k, 1, r => (match zlk k.val L with | some (.long x) => some (L, .long x :: r) | _ => none)
  | .lload i, 2, r => (match zlk i L with | some (.long x) => some (L, .long x :: r) | _ => none)
  | .aload_n k, 1, r => (match zlk k.val L with | some (.ref x) => some (L, .ref x :: r) | some .null => some (L, .null :: r) | _ => none)
  | .aload i, 2, r => (match zlk i L with | some (.ref x) => some (L, .ref x :: r) | some .null => some (L, .null :: r) | _ => none)
  | .istore_n k, 1, .int x :: r => if k.val < nL then some (zs1 k.val (.int x) L, r) else none
  | .istore i, 2, .int x :: r => if i < nL then some (zs1 i (.int x) L, r) else none
  | .lstore_n k, 1, .long x :: r => if k.val + 1 < nL then some (zs2 k.val (.long x) L, r) else none
  | .lstore i, 2, .long x :: r => if i + 1 < nL then some (zs2 i (.long x) L, r) else none
  | .astore_n k, 1, .ref x :: r => if k.val < nL then some (zs1 k.val (.ref x) L, r) else none
  | .astore_n k, 1, .null :: r => if k.val < nL then some (zs1 k.val .null L, r) else none
  | .astore i, 2, .ref x :: r => if i < nL then some (zs1 i (.ref x) L, r) else none
  | .astore i, 2, .null :: r => if i < nL then some (zs1 i .null L, r) else none
  | .iinc i n, 3, r => (match zlk i L with | some (.int x) => if i < nL then some (zs1 i (.int (x + Int32.ofInt n)) L, r) else none | _ => none)
  | _, _, _ => none
/-- a jump's target -/
def ztg (pc : Nat) (off : Int) : Nat := ((pc : Int) + off).toNat
def zbc (pc : Nat) (off : Int) (r : List Value) (b : Bool) : Option (Nat × List Value) := if 0 ≤ (pc : Int) + off then some (if b = true then ztg pc off else pc + 3, r) else none
def zbr (ins : Jvm.ClassFile.Instr) (len pc : Nat) (st : List Value) : Option (Nat × List Value) :=
  match ins, len, st with
  | .ifCond .eq off, 3, .int x :: r => zbc pc off r (decide (x = 0))
  | .ifCond .ne off, 3, .int x :: r => zbc pc off r (decide (¬ x = 0))
  | .ifCond .lt off, 3, .int x :: r => zbc pc off r (decide (x < 0))
  | .ifCond .ge off, 3, .int x :: r => zbc pc off r (decide (0 ≤ x))
  | .ifCond .gt off, 3, .int x :: r => zbc pc off r (decide (0 < x))
  | .ifCond .le off, 3, .int x :: r => zbc pc off r (decide (x ≤ 0))
  | .if_icmp .eq off, 3, .int y :: .int x :: r => zbc pc off r (decide (x = y))
  | .if_icmp .ne off, 3, .int y :: .int x :: r => zbc pc off r (decide (¬ x = y))
  | .if_icmp .lt off, 3, .int y :: .int x :: r => zbc pc off r (decide (x < y))
  | .if_icmp .ge off, 3, .int y :: .int x :: r => zbc pc off r (decide (y ≤ x))
  | .if_icmp .gt off, 3, .int y :: .int x :: r => zbc pc off r (decide (y < x))
  | .if_icmp .le off, 3, .int y :: .int x :: r => zbc pc off r (decide (x ≤ y))
  | .ifnull off, 3, .ref _ :: r => zbc pc off r false
  | .ifnull off, 3, .null :: r => zbc pc off r true
  | .ifnonnull off, 3, .ref _ :: r => zbc pc off r true
  | .ifnonnull off, 3, .null :: r => zbc pc off r false
  | .goto off, 3, r => zbc pc off r true
  | .tableswitch dflt lo hi offs, _, .int x :: r => if x.toInt < lo ∨ hi < x.toInt then zbc pc dflt r true else (match offs[(x.toInt - lo).toNat]? with | some off => zbc pc off r true | none => none)
  | .lookupswitch dflt ps, _, .int x :: r => if (ps.toList.zip (ps.toList.drop 1)).all (fun (a, next) => a.1 < next.1) = true then zbc pc (Op.lookupswitch.offset ps.toList dflt x.toInt) r true else none
  | _, _, _ => none
/-- a field may take a value -/
abbrev zPf (mi ci k : Nat) (v : Value) : Prop := narrow (zFT ci k) v = v ∧ fits (zFT ci k) v = true ∧ (zFin ci k = false ∨ (zFin ci k = true ∧ zOC mi = ci ∧ (zY mi).name = "<init>"))
/-- an index within an array of kind k and length n -/
abbrev zix (i : Int32) (n : Nat) : Prop := ¬ (i < 0 ∨ n ≤ i.toNatClampNeg)
def zhp (S : zS) (mi : Nat) (ins : Jvm.ClassFile.Instr) (len : Nat) (st : List Value) (w : zW) : Option (List Value × zW) :=
  match ins, len, st with
  | .getfield idx, 3, .ref a :: r => (match zFld (zOC mi) idx, w.2.1 a with
    | some (ci, k), some (cj, _) => if cj = ci then some (w.2.2 a k :: r, w) else none
    | _, _ => none)
  | .putfield idx, 3, v :: .ref a :: r => (match zFld (zOC mi) idx, w.2.1 a with
    | some (ci, k), some (cj, _) => if cj = ci ∧ zPf mi ci k v then some (r, zset w a k v) else none
    | _, _ => none)
  | .new idx, 3, r => (match zNew (zOC mi) idx with
    | some ci => some (.ref w.1.1 :: r, zpush w ci (zN ci) (zBl ci))
    | none => none)
  | .newarray t, 2, .int n :: r => (match zNA t with
    | some k => if ¬ n < 0 ∧ n.toNatClampNeg ≤ 60000000 then some (.ref w.1.1 :: r, zpush w (100 + k) n.toNatClampNeg (fun _ => defaultValue (zAK k))) else none
    | none => none)
  | .anewarray idx, 3, .int n :: r => (match zAN (zOC mi) idx with
    | some k => if ¬ n < 0 ∧ n.toNatClampNeg ≤ 60000000 then some (.ref w.1.1 :: r, zpush w (100 + k) n.toNatClampNeg (fun _ => .null)) else none
    | none => none)
  | .arraylength, 1, .ref a :: r => (match w.2.1 a with
    | some (c, n) => if 100 ≤ c then some (.int (Int32.ofNat n) :: r, w) else none
    | none => if a = S.1 then some (.int (Int32.ofNat S.2.1) :: r, w) else none)
  | .iaload, 1, .int i :: .ref a :: r => (match w.2.1 a with
    | some (c, n) => if 100 ≤ c ∧ zAK (c - 100) = .int ∧ zix i n then some (w.2.2 a i.toNatClampNeg :: r, w) else none
    | none => if a = S.1 ∧ zix i S.2.1 then some (.int (S.2.2 i.toNatClampNeg) :: r, w) else none)
  | .laload, 1, .int i :: .ref a :: r => (match w.2.1 a with
    | some (c, n) => if 100 ≤ c ∧ zAK (c - 100) = .long ∧ zix i n then some (w.2.2 a i.toNatClampNeg :: r, w) else none
    | none => none)
  | .baload, 1, .int i :: .ref a :: r => (match w.2.1 a with
    | some (c, n) => if 100 ≤ c ∧ zAK (c - 100) = .boolean ∧ zix i n then some (w.2.2 a i.toNatClampNeg :: r, w) else none
    | none => none)
  | .aaload, 1, .int i :: .ref a :: r => (match w.2.1 a with
    | some (c, n) => if 100 ≤ c ∧ (zAc (c - 100)).isSome = true ∧ zix i n then some (w.2.2 a i.toNatClampNeg :: r, w) else none
    | none => none)
  | .iastore, 1, .int x :: .int i :: .ref a :: r => (match w.2.1 a with
    | some (c, n) => if 100 ≤ c ∧ zAK (c - 100) = .int ∧ zix i n then some (r, zset w a i.toNatClampNeg (.int x)) else none
    | none => none)
  | .lastore, 1, .long x :: .int i :: .ref a :: r => (match w.2.1 a with
    | some (c, n) => if 100 ≤ c ∧ zAK (c - 100) = .long ∧ zix i n then some (r, zset w a i.toNatClampNeg (.long x)) else none
    | none => none)
  | .bastore, 1, .int x :: .int i :: .ref a :: r => (match w.2.1 a with
    | some (c, n) => if 100 ≤ c ∧ zAK (c - 100) = .boolean ∧ narrow .boolean (.int x) = .int x ∧ zix i n then some (r, zset w a i.toNatClampNeg (.int x)) else none
    | none => none)
  | .aastore, 1, .ref v :: .int i :: .ref a :: r => (match w.2.1 a, w.2.1 v with
    | some (c, n), some (cj, _) => if 100 ≤ c ∧ zAc (c - 100) = some cj ∧ zix i n then some (r, zset w a i.toNatClampNeg (.ref v)) else none
    | _, _ => none)
  | .ldc idx, 2, r => (match zLd (zOC mi) idx with | some x => some (.int x :: r, w) | none => none)
  | .ldc2_w idx, 3, r => (match zLd2 (zOC mi) idx with | some x => some (.long x :: r, w) | none => none)
  | _, _, _ => none
def zcs (r : List Value) : Nat := (r.map fun v => v.category).sum
/-- a call: the method, its arguments, what stays on the stack -/
def zcl (mi : Nat) (ins : Jvm.ClassFile.Instr) (len : Nat) (st : List Value) (w : zW) : Option (Nat × List Value × List Value) :=
  match ins, len with
  | .invokevirtual idx, 3 => (match zMt (zOC mi) idx with
    | some (mj, n, 0) => (match st.drop n with
      | .ref b :: rest => (match w.2.1 b with
        | some (cj, _) => if zRC mj = some cj ∧ zcs rest ≤ 8 ∧ (lg_sl (.ref b :: (st.take n).reverse)).length ≤ zML mj then some (mj, .ref b :: (st.take n).reverse, rest) else none
        | none => none)
      | _ => none)
    | _ => none)
  | .invokespecial idx, 3 => (match zMt (zOC mi) idx with
    | some (mj, n, 1) => (match st.drop n with
      | .ref b :: rest => if zcs rest ≤ 8 ∧ (lg_sl (.ref b :: (st.take n).reverse)).length ≤ zML mj then some (mj, .ref b :: (st.take n).reverse, rest) else none
      | _ => none)
    | some (_, _, 3) => (match st with
      | .ref b :: rest => if zcs rest ≤ 8 then some (0, [.ref b], rest) else none
      | _ => none)
    | _ => none)
  | .invokestatic idx, 3 => (match zMt (zOC mi) idx with
    | some (mj, n, 2) => if n ≤ st.length ∧ zcs (st.drop n) ≤ 8 ∧ (lg_sl (st.take n).reverse).length ≤ zML mj then some (mj, (st.take n).reverse, st.drop n) else none
    | _ => none)
  | _, _ => none
def zrt (mi : Nat) (ins : Jvm.ClassFile.Instr) (len : Nat) (st : List Value) : Option (Option Value) :=
  match ins, len, st with
  | .ireturn, 1, [.int v] => (match zRT mi with | some ty => if narrow ty (.int v) = .int v then some (some (.int v)) else none | none => none)
  | .lreturn, 1, [.long v] => if zRT mi = some .long then some (some (.long v)) else none
  | .areturn, 1, [.ref v] => (match zRT mi with | some (.object _) => some (some (.ref v)) | some (.array _) => some (some (.ref v)) | _ => none)
  | .areturn, 1, [.null] => (match zRT mi with | some (.object _) => some (some .null) | some (.array _) => some (some .null) | _ => none)
  | .return_, 1, [] => if zRT mi = none then some none else none
  | _, _, _ => none
abbrev zR : Type := (Nat × List (Nat × Value) × List Value × zW) ⊕ ((Nat × List Value × List Value) ⊕ Option Value)
def zst (S : zS) (mi : Nat) (ins : Jvm.ClassFile.Instr) (len pc : Nat) (L : List (Nat × Value)) (st : List Value) (w : zW) : Option zR :=
  match zgr ins with
  | 0 => (zalu ins len st).map fun st' => .inl (pc + len, L, st', w)
  | 1 => (zloc (zML mi) ins len L st).map fun q => .inl (pc + len, q.1, q.2, w)
  | 2 => (zbr ins len pc st).map fun q => .inl (q.1, L, q.2, w)
  | 3 => (zhp S mi ins len st w).map fun q => .inl (pc + len, L, q.1, q.2)
  | 4 => (zcl mi ins len st w).map fun q => .inr (.inl q)
  | 5 => (zrt mi ins len st).map fun q => .inr (.inr q)
  | _ => none
/-- the run of a method from a point on: with n steps, d frames below it -/
def zgo (S : zS) : Nat → Nat → Nat → Nat → List (Nat × Value) → List Value → zW → Option (Option Value × zW)
  | 0, _, _, _, _, _, _ => none
  | n + 1, d, mi, pc, L, st, w =>
    match decode (zCode mi) pc with
    | .error _ => none
    | .ok (ins, len) => match zst S mi ins len pc L st w with
      | none => none
      | some (.inl (pc', L', st', w')) => zgo S n d mi pc' L' st' w'
      | some (.inr (.inr v)) => some (v, w)
      | some (.inr (.inl (mj, as, rest))) => match d with
        | 0 => none
        | d' + 1 => match zgo S n d' mj 0 (lv_args 0 as) [] w with
          | none => none
          | some (v, w') => zgo S n (d' + 1) mi (pc + 3) L (v.toList ++ rest) w'
/-- it comes to its end, with Post -/
def zOk (S : zS) (d mi pc : Nat) (L : List (Nat × Value)) (st : List Value) (w : zW) (Post : Option Value → zW → Prop) : Prop := ∃ n v w', zgo S n d mi pc L st w = some (v, w') ∧ Post v w'

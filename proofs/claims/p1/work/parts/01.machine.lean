/-! The small machine: a frame as (pc, locals, stack, cells, cells made, slots made); a reference is the number of a cell (0: the script). zstep does an instruction, zrun a method; behind it: what zrun answers, the machine does. -/
section ZMD
abbrev zC : Type := (Nat × List Value) ⊕ ((FieldType × List Int32) ⊕ (List Int64 ⊕ (FieldType × List Nat)))
abbrev zS : Type := Nat × List (Option Value) × List Value × List zC × Nat × Nat
abbrev zI : Type := Jvm.ClassFile.Instr × Nat × Nat × Nat × Nat
abbrev zM : Type := MethodName × ByteArray × Nat × Option FieldType × Nat × Nat × Nat × Nat × List (Nat × zI)
abbrev zO : Type := Option Value × List zC × Nat × Nat
def zv (ad : Nat → Nat) (v : Value) : Value := match v with
  | .ref k => .ref (ad k)
  | .int x => .int x
  | .long x => .long x
  | .float x => .float x
  | .double x => .double x
  | .null => .null
  | .retAddr x => .retAddr x
def zcz (cT : FieldType → ClassId) (ad : Nat → Nat) (c : zC) : va_E := match c with
  | .inl (ci, fs) => .inr (ci, fs.map (zv ad))
  | .inr (.inl (ty, l)) => .inl (cT ty, l.length, .inl (fun j => l.getD j 0))
  | .inr (.inr (.inl l)) => .inl (cT .long, l.length, .inr (.inl (fun j => l.getD j 0)))
  | .inr (.inr (.inr (ty, l))) => .inl (cT (.array ty), l.length, .inr (.inr (.inr (.inr (fun j => (l[j]?).map ad)))))
def zws (cT : FieldType → ClassId) (ad : Nat → Nat) (σ : List zC) : va_W := σ.mapIdx (fun k c => (ad (k + 1), zcz cT ad c))
def zcell (σ : List zC) (k : Nat) : Option zC := match k with
  | 0 => none
  | j + 1 => σ[j]?
def zput (σ : List zC) (k : Nat) (c : zC) : List zC := match k with
  | 0 => σ
  | j + 1 => σ.set j c
def zjmp (pc : Nat) (off : Int) : Option Nat := match (pc : Int) + off with
  | .ofNat t => some t
  | .negSucc _ => none
def zbr (cnd : Jvm.ClassFile.Cond) (x y : Int32) (t f : Nat) : Nat := match cnd with
  | .eq => if x = y then t else f
  | .ne => if x = y then f else t
  | .lt => if x < y then t else f
  | .ge => if y ≤ x then t else f
  | .gt => if y < x then t else f
  | .le => if x ≤ y then t else f
def zix (i : Int32) : Option Nat := if i < 0 then none else some i.toNatClampNeg
def zfit (ty : FieldType) (v : Value) : Bool := match ty with
  | .byte | .short | .float | .double => false
  | .int | .long | .boolean | .char | .object _ | .array _ => fits ty v
def zkill (L : List (Option Value)) (i : Nat) : List (Option Value) := match i with
  | 0 => L
  | j + 1 => match L[j]? with
    | some (some w) => if w.category = 2 then L.set j none else L
    | _ => L
def zset1 (L : List (Option Value)) (i : Nat) (v : Value) : List (Option Value) := (zkill L i).set i (some v)
def zset2 (L : List (Option Value)) (i : Nat) (v : Value) : List (Option Value) := ((zkill L i).set i (some v)).set (i + 1) none
def zvok (n : Nat) (v : Value) : Bool := match v with
  | .ref k => Nat.ble k n
  | _ => true
def zcok (n : Nat) (c : zC) : Bool := match c with
  | .inl (_, fs) => fs.all (zvok n)
  | .inr (.inr (.inr (_, l))) => l.all (fun k => Nat.ble k n)
  | _ => true
def zlok (n : Nat) (L : List (Option Value)) : Bool := L.all (fun o => match o with
  | some v => zvok n v
  | none => true)
def zclosed (n : Nat) (L : List (Option Value)) (st : List Value) (σ : List zC) : Bool := zlok n L && (st.all (zvok n) && σ.all (zcok n))
def zp2i (st : List Value) : Option (Int32 × Int32 × List Value) := match st with
  | .int y :: .int x :: r => some (x, y, r)
  | _ => none
def zp1i (st : List Value) : Option (Int32 × List Value) := match st with
  | .int x :: r => some (x, r)
  | _ => none
def zp2l (st : List Value) : Option (Int64 × Int64 × List Value) := match st with
  | .long y :: .long x :: r => some (x, y, r)
  | _ => none
def zp1l (st : List Value) : Option (Int64 × List Value) := match st with
  | .long x :: r => some (x, r)
  | _ => none
def zp1r (st : List Value) : Option (Nat × List Value) := match st with
  | .ref k :: r => some (k, r)
  | _ => none
/-- an array and an index: index, array -/
def zpir (st : List Value) : Option (Int32 × Nat × List Value) := match st with
  | .int i :: .ref k :: r => some (i, k, r)
  | _ => none
def zpiir (st : List Value) : Option (Int32 × Int32 × Nat × List Value) := match st with
  | .int x :: .int i :: .ref k :: r => some (x, i, k, r)
  | _ => none
def zplir (st : List Value) : Option (Int64 × Int32 × Nat × List Value) := match st with
  | .long x :: .int i :: .ref k :: r => some (x, i, k, r)
  | _ => none
def zprir (st : List Value) : Option (Nat × Int32 × Nat × List Value) := match st with
  | .ref x :: .int i :: .ref k :: r => some (x, i, k, r)
  | _ => none
def zpvr (st : List Value) : Option (Value × Nat × List Value) := match st with
  | v :: .ref k :: r => some (v, k, r)
  | _ => none
def zgi (L : List (Option Value)) (i : Nat) : Option Int32 := match L[i]? with
  | some (some (.int x)) => some x
  | _ => none
def zgl (L : List (Option Value)) (i : Nat) : Option Int64 := match L[i]? with
  | some (some (.long x)) => some x
  | _ => none
def zga (L : List (Option Value)) (i : Nat) : Option Nat := match L[i]? with
  | some (some (.ref x)) => some x
  | _ => none
/-- some () just if it holds -/
def zif (b : Bool) : Option Unit := match b with
  | true => some ()
  | false => none
def zcO (σ : List zC) (k : Nat) : Option (Nat × List Value) := match zcell σ k with
  | some (.inl q) => some q
  | _ => none
def zcI (σ : List zC) (k : Nat) : Option (List Int32) := match zcell σ k with
  | some (.inr (.inl (.int, l))) => some l
  | _ => none
def zcC (σ : List zC) (k : Nat) : Option (List Int32) := match zcell σ k with
  | some (.inr (.inl (.char, l))) => some l
  | _ => none
def zcZ (σ : List zC) (k : Nat) : Option (List Int32) := match zcell σ k with
  | some (.inr (.inl (.boolean, l))) => some l
  | _ => none
def zcJ (σ : List zC) (k : Nat) : Option (List Int64) := match zcell σ k with
  | some (.inr (.inr (.inl l))) => some l
  | _ => none
def zcR (σ : List zC) (k : Nat) : Option (Bool × List Nat) := match zcell σ k with
  | some (.inr (.inr (.inr (.int, l)))) => some (false, l)
  | some (.inr (.inr (.inr (.long, l)))) => some (true, l)
  | _ => none
def zsw (x lo hi : Int) (dflt : Int) (offs : Array Int) : Option Int := if x < lo ∨ hi < x then some dflt else offs[(x - lo).toNat]?
def znew (t : Jvm.ClassFile.ArrayType) (N : Nat) : Option zC := match t with
  | .int => some (.inr (.inl (.int, List.replicate N 0)))
  | .char => some (.inr (.inl (.char, List.replicate N 0)))
  | .boolean => some (.inr (.inl (.boolean, List.replicate N 0)))
  | .long => some (.inr (.inr (.inl (List.replicate N 0))))
  | _ => none
def zgrid (x1 : Nat) (n N K : Nat) : List zC := match x1 with
  | 0 => .inr (.inr (.inr (.int, (List.range N).map (fun j => n + 2 + j)))) :: List.replicate N (.inr (.inl (.int, List.replicate K 0)))
  | _ + 1 => .inr (.inr (.inr (.long, (List.range N).map (fun j => n + 2 + j)))) :: List.replicate N (.inr (.inr (.inl (List.replicate K 0))))
/-- one instruction that is no call and no return -/
def zstep (scr : Option (List Int32)) (fty : Nat → Nat → FieldType) (cd : List (List Value)) (ins : Jvm.ClassFile.Instr) (x1 x2 x3 : Nat) (pc : Nat) (L : List (Option Value)) (st : List Value) (σ : List zC) (nc ns : Nat) : Option zS := match ins with
  | .iconst n => some (pc + 1, L, .int (Int32.ofInt n) :: st, σ, nc, ns)
  | .bipush n => some (pc + 2, L, .int (Int8.ofInt n).toInt32 :: st, σ, nc, ns)
  | .sipush n => some (pc + 3, L, .int (Int16.ofInt n).toInt32 :: st, σ, nc, ns)
  | .lconst n => some (pc + 1, L, .long (Int64.ofNat n.val) :: st, σ, nc, ns)
  | .iload i => (zgi L i).bind fun x => some (pc + 2, L, .int x :: st, σ, nc, ns)
  | .iload_n i => (zgi L i.val).bind fun x => some (pc + 1, L, .int x :: st, σ, nc, ns)
  | .lload i => (zgl L i).bind fun x => some (pc + 2, L, .long x :: st, σ, nc, ns)
  | .lload_n i => (zgl L i.val).bind fun x => some (pc + 1, L, .long x :: st, σ, nc, ns)
  | .aload i => (zga L i).bind fun x => some (pc + 2, L, .ref x :: st, σ, nc, ns)
  | .aload_n i => (zga L i.val).bind fun x => some (pc + 1, L, .ref x :: st, σ, nc, ns)
  | .istore i => (zp1i st).bind fun (x, r) => (zif (Nat.blt i L.length)).bind fun _ => some (pc + 2, zset1 L i (.int x), r, σ, nc, ns)
  | .istore_n i => (zp1i st).bind fun (x, r) => (zif (Nat.blt i.val L.length)).bind fun _ => some (pc + 1, zset1 L i.val (.int x), r, σ, nc, ns)
  | .astore i => (zp1r st).bind fun (x, r) => (zif (Nat.blt i L.length)).bind fun _ => some (pc + 2, zset1 L i (.ref x), r, σ, nc, ns)
  | .astore_n i => (zp1r st).bind fun (x, r) => (zif (Nat.blt i.val L.length)).bind fun _ => some (pc + 1, zset1 L i.val (.ref x), r, σ, nc, ns)
  | .lstore i => (zp1l st).bind fun (x, r) => (zif (Nat.blt (i + 1) L.length)).bind fun _ => some (pc + 2, zset2 L i (.long x), r, σ, nc, ns)
  | .lstore_n i => (zp1l st).bind fun (x, r) => (zif (Nat.blt (i.val + 1) L.length)).bind fun _ => some (pc + 1, zset2 L i.val (.long x), r, σ, nc, ns)
  | .iinc i n => (zgi L i).bind fun x => some (pc + 3, zset1 L i (.int (x + Int32.ofInt n)), st, σ, nc, ns)
  | .iadd => (zp2i st).bind fun (x, y, r) => some (pc + 1, L, .int (x + y) :: r, σ, nc, ns)
  | .isub => (zp2i st).bind fun (x, y, r) => some (pc + 1, L, .int (x - y) :: r, σ, nc, ns)
  | .imul => (zp2i st).bind fun (x, y, r) => some (pc + 1, L, .int (x * y) :: r, σ, nc, ns)
  | .iand => (zp2i st).bind fun (x, y, r) => some (pc + 1, L, .int (x &&& y) :: r, σ, nc, ns)
  | .ior => (zp2i st).bind fun (x, y, r) => some (pc + 1, L, .int (x ||| y) :: r, σ, nc, ns)
  | .ixor => (zp2i st).bind fun (x, y, r) => some (pc + 1, L, .int (x ^^^ y) :: r, σ, nc, ns)
  | .ishl => (zp2i st).bind fun (x, y, r) => some (pc + 1, L, .int (x <<< (y &&& 31)) :: r, σ, nc, ns)
  | .ishr => (zp2i st).bind fun (x, y, r) => some (pc + 1, L, .int (x >>> (y &&& 31)) :: r, σ, nc, ns)
  | .iushr => (zp2i st).bind fun (x, y, r) => some (pc + 1, L, .int (x.toUInt32 >>> (y.toUInt32 &&& Int32.toUInt32 31)).toInt32 :: r, σ, nc, ns)
  | .ineg => (zp1i st).bind fun (x, r) => some (pc + 1, L, .int (-x) :: r, σ, nc, ns)
  | .lmul => (zp2l st).bind fun (x, y, r) => some (pc + 1, L, .long (x * y) :: r, σ, nc, ns)
  | .lsub => (zp2l st).bind fun (x, y, r) => some (pc + 1, L, .long (x - y) :: r, σ, nc, ns)
  | .lneg => (zp1l st).bind fun (x, r) => some (pc + 1, L, .long (-x) :: r, σ, nc, ns)
  | .ldiv => (zp2l st).bind fun (x, y, r) => if y = 0 then none else some (pc + 1, L, .long (x / y) :: r, σ, nc, ns)
  | .lrem => (zp2l st).bind fun (x, y, r) => if y = 0 then none else some (pc + 1, L, .long (x - x / y * y) :: r, σ, nc, ns)
  | .lcmp => (zp2l st).bind fun (x, y, r) => some (pc + 1, L, .int (lg_cmp x y) :: r, σ, nc, ns)
  | .i2l => (zp1i st).bind fun (x, r) => some (pc + 1, L, .long x.toInt64 :: r, σ, nc, ns)
  | .l2i => (zp1l st).bind fun (x, r) => some (pc + 1, L, .int x.toInt32 :: r, σ, nc, ns)
  | .i2c => (zp1i st).bind fun (x, r) => some (pc + 1, L, .int (x.toUInt32 % 65536).toInt32 :: r, σ, nc, ns)
  | .dup => match st with
    | .int x :: r => some (pc + 1, L, .int x :: .int x :: r, σ, nc, ns)
    | .ref x :: r => some (pc + 1, L, .ref x :: .ref x :: r, σ, nc, ns)
    | _ => none
  | .dup2 => (zpir st).bind fun (i, k, r) => some (pc + 1, L, .int i :: .ref k :: .int i :: .ref k :: r, σ, nc, ns)
  | .ifCond cnd off => (zp1i st).bind fun (x, r) => (zjmp pc off).bind fun t => some (zbr cnd x 0 t (pc + 3), L, r, σ, nc, ns)
  | .if_icmp cnd off => (zp2i st).bind fun (x, y, r) => (zjmp pc off).bind fun t => some (zbr cnd x y t (pc + 3), L, r, σ, nc, ns)
  | .goto off => (zjmp pc off).bind fun t => some (t, L, st, σ, nc, ns)
  | .tableswitch dflt lo hi offs => (zp1i st).bind fun (x, r) => (zsw x.toInt lo hi dflt offs).bind fun off => (zjmp pc off).bind fun t => some (t, L, r, σ, nc, ns)
  | .getfield _ => (zp1r st).bind fun (k, r) => (zcO σ k).bind fun (ci, fs) => (zif (Nat.beq ci x1)).bind fun _ => (fs[x2]?).bind fun v => some (pc + 3, L, v :: r, σ, nc, ns)
  | .putfield _ => (zpvr st).bind fun (v, k, r) => (zcO σ k).bind fun (ci, fs) => (zif (Nat.beq ci x1 && (Nat.blt x2 fs.length && zfit (fty x1 x2) v))).bind fun _ => some (pc + 3, L, r, zput σ k (.inl (ci, fs.set x2 v)), nc, ns)
  | .iaload => (zpir st).bind fun (i, k, r) => (match k with
    | 0 => scr
    | j + 1 => zcI σ (j + 1)).bind fun l => (zix i).bind fun j => (l[j]?).bind fun x => some (pc + 1, L, .int x :: r, σ, nc, ns)
  | .caload => (zpir st).bind fun (i, k, r) => (zcC σ k).bind fun l => (zix i).bind fun j => (l[j]?).bind fun x => some (pc + 1, L, .int x :: r, σ, nc, ns)
  | .baload => (zpir st).bind fun (i, k, r) => (zcZ σ k).bind fun l => (zix i).bind fun j => (l[j]?).bind fun x => some (pc + 1, L, .int x :: r, σ, nc, ns)
  | .laload => (zpir st).bind fun (i, k, r) => (zcJ σ k).bind fun l => (zix i).bind fun j => (l[j]?).bind fun x => some (pc + 1, L, .long x :: r, σ, nc, ns)
  | .aaload => (zpir st).bind fun (i, k, r) => (zcR σ k).bind fun (_, l) => (zix i).bind fun j => (l[j]?).bind fun x => some (pc + 1, L, .ref x :: r, σ, nc, ns)
  | .iastore => (zpiir st).bind fun (x, i, k, r) => (zcI σ k).bind fun l => (zix i).bind fun j => (zif (Nat.blt j l.length)).bind fun _ => some (pc + 1, L, r, zput σ k (.inr (.inl (.int, l.set j x))), nc, ns)
  | .castore => (zpiir st).bind fun (x, i, k, r) => (zcC σ k).bind fun l => (zix i).bind fun j => (zif (Nat.blt j l.length)).bind fun _ => some (pc + 1, L, r, zput σ k (.inr (.inl (.char, l.set j (vp_nar .char x)))), nc, ns)
  | .bastore => (zpiir st).bind fun (x, i, k, r) => (zcZ σ k).bind fun l => (zix i).bind fun j => (zif (Nat.blt j l.length)).bind fun _ => some (pc + 1, L, r, zput σ k (.inr (.inl (.boolean, l.set j (vp_nar .boolean x)))), nc, ns)
  | .lastore => (zplir st).bind fun (x, i, k, r) => (zcJ σ k).bind fun l => (zix i).bind fun j => (zif (Nat.blt j l.length)).bind fun _ => some (pc + 1, L, r, zput σ k (.inr (.inr (.inl (l.set j x)))), nc, ns)
  | .aastore => (zprir st).bind fun (x, i, k, r) => (zcR σ k).bind fun (b, l) => (zcJ σ x).bind fun _ => (zix i).bind fun j => (zif (b && Nat.blt j l.length)).bind fun _ => some (pc + 1, L, r, zput σ k (.inr (.inr (.inr (.long, l.set j x)))), nc, ns)
  | .arraylength => (zp1r st).bind fun (k, r) => (match k with
    | 0 => scr
    | _ + 1 => none).bind fun xs => some (pc + 1, L, .int (Int32.ofNat xs.length) :: r, σ, nc, ns)
  | .newarray t => (zp1i st).bind fun (n, r) => (zix n).bind fun N => (zif (zclosed σ.length L r σ && Nat.ble N 1000)).bind fun _ => (znew t N).bind fun x => some (pc + 2, L, .ref (σ.length + 1) :: r, σ ++ [x], nc + 1, ns + N)
  | .multianewarray _ d => (zp2i st).bind fun (n, k, r) => (zix n).bind fun N => (zix k).bind fun K => (zif (Nat.beq d 2 && (zclosed σ.length L r σ && (Nat.ble N 1000 && Nat.ble K 1000)))).bind fun _ => some (pc + 4, L, .ref (σ.length + 1) :: r, σ ++ zgrid x1 σ.length N K, nc + N + 1, ns + (N + N * K))
  | .ldc_w _ => some (pc + 3, L, .int (Int32.ofNat x1) :: st, σ, nc, ns)
  | .new _ => (cd[x1]?).bind fun fs => (zif (zclosed σ.length L st σ)).bind fun _ => some (pc + 3, L, .ref (σ.length + 1) :: st, σ ++ [.inl (x1, fs)], nc + 1, ns + fs.length)
  | .invokespecial _ => (zp1r st).bind fun (_, r) => (zif (Nat.beq x3 0 && Nat.ble (r.map fun v => v.category).sum 8)).bind fun _ => some (pc + 3, L, r, σ, nc, ns)
  | _ => none
def zlook {α : Type} (l : List (Nat × α)) (k : Nat) : Option α := match l with
  | [] => none
  | (j, x) :: t => match Nat.beq j k with
    | true => some x
    | false => zlook t k
def zent0 (vs : List Value) : List (Option Value) := vs.flatMap fun v => if v.category = 2 then [some v, none] else [some v]
def zent (vs : List Value) (n : Nat) : List (Option Value) := zent0 vs ++ List.replicate (n - (zent0 vs).length) none
/-- the stack's arguments, first one first, and the rest -/
def ztake (n : Nat) (st : List Value) : Option (List Value × List Value) := match Nat.ble n st.length && (Nat.ble ((st.drop n).map fun v => v.category).sum 8) with
  | true => some ((st.take n).reverse, st.drop n)
  | false => none
def znr (v : Value) : Bool := match v with
  | .ref _ => false
  | _ => true
def znrO (v : Option Value) : Bool := match v with
  | none => true
  | some w => znr w
/-- behind a call -/
def zback (rest : List Value) (pc : Nat) (L : List (Option Value)) (σ : List zC) (nc ns : Nat) (o : zO) : Option zS := match o with
  | (v, σ', dc, ds) => match znrO v, dc with
    | true, 0 => some (pc + 3, L, v.toList ++ rest, σ', nc + 0, ns + ds)
    | true, d + 1 => match zlok σ.length L && rest.all (zvok σ.length) with
      | true => some (pc + 3, L, v.toList ++ rest, σ', nc + (d + 1), ns + ds)
      | false => none
    | false, _ => none
/-- a return's answer -/
def zret (ret : Option FieldType) (ins : Jvm.ClassFile.Instr) (st : List Value) : Option (Option Value) := match ins with
  | .ireturn => match st, ret with
    | [.int v], some ty => match zfit ty (.int v) with
      | true => some (some (.int v))
      | false => none
    | _, _ => none
  | .lreturn => match st, ret with
    | [.long v], some .long => some (some (.long v))
    | _, _ => none
  | .return_ => match st, ret with
    | [], none => some none
    | _, _ => none
  | _ => none
/-- a call's arguments, the rest of the stack, the callee's room for locals -/
def zprep (P : List zM) (ins : Jvm.ClassFile.Instr) (x1 x2 x3 : Nat) (st : List Value) (σ : List zC) : Option (List Value × List Value × Nat) := match ins with
  | .invokestatic _ => match ztake x2 st, P[x1]? with
    | some (as, rest), some (_, _, mz, _, _, _, _, _, _) => match Nat.ble (zent0 as).length mz with
      | true => some (as, rest, mz)
      | false => none
    | _, _ => none
  | .invokespecial _ => match ztake x2 st, P[x1]? with
    | some (.ref k :: as, rest), some (_, _, mz, _, _, _, _, _, _) => match Nat.ble (zent0 (.ref k :: as)).length mz && Nat.ble 1 x3 with
      | true => some (.ref k :: as, rest, mz)
      | false => none
    | _, _ => none
  | .invokevirtual _ => match ztake x2 st, P[x1]? with
    | some (.ref k :: as, rest), some (_, _, mz, _, _, _, _, _, _) => match Nat.ble (zent0 (.ref k :: as)).length mz, zcell σ k with
      | true, some (.inl (ci, _)) => match Nat.beq ci x3 with
        | true => some (.ref k :: as, rest, mz)
        | false => none
      | _, _ => none
    | _, _ => none
  | _ => none
/-- one step of a frame, over what calls do -/
def zone (P : List zM) (fty : Nat → Nat → FieldType) (cd : List (List Value)) (ih : Option (List Int32) → Nat → zS → Option zO) (scr : Option (List Int32)) (y : Nat) (a : zS) : Option zO := match P[y]?, a with
  | some (_, _, _, ret, _, _, _, _, rows), (pc, L, st, σ, nc, ns) => match zlook rows pc with
    | some (ins, _, x1, x2, x3) => match zstep scr fty cd ins x1 x2 x3 pc L st σ nc ns with
      | some a' => ih scr y a'
      | none => match zret ret ins st with
        | some r => some (r, σ, nc, ns)
        | none => match zprep P ins x1 x2 x3 st σ with
          | some (as, rest, mz) => match ih none x1 (0, zent as mz, [], σ, 0, 0) with
            | some o => match zback rest pc L σ nc ns o with
              | some a' => ih scr y a'
              | none => none
            | none => none
          | none => none
    | none => none
  | _, _ => none
/-- a method from a frame of it to its return -/
def zrun (P : List zM) (fty : Nat → Nat → FieldType) (cd : List (List Value)) (n : Nat) : Option (List Int32) → Nat → zS → Option zO :=
  Nat.rec (motive := fun _ => Option (List Int32) → Nat → zS → Option zO) (fun _ _ _ => none) (fun _ ih => zone P fty cd ih) n
theorem zrun_s (P : List zM) (fty : Nat → Nat → FieldType) (cd : List (List Value)) (n : Nat) : zrun P fty cd (n + 1) = zone P fty cd (zrun P fty cd n) := rfl
end ZMD
/-! What the small machine's frame says of the machine's. -/
section ZMR
def zT (cT : FieldType → ClassId) : List (ClassId × FieldType) := [(cT .int, .int), (cT .long, .long), (cT .char, .char), (cT .boolean, .boolean), (cT (.array .int), .array .int), (cT (.array .long), .array .long)]
def zG (cT : FieldType → ClassId) (t : FieldType) (U : State) : Prop := ∃ (k kc : Class) (co : ClassId), U.vm.classes[cT (.array t)]? = some k ∧ k.kind = .array (cT t) (.array t) ∧ U.vm.classes[cT t]? = some kc ∧ kc.kind = .array co t
def zK (D : va_G) (cl : List vw_C) (cT : FieldType → ClassId) (U : State) : Prop := va_K D cl (zT cT) U ∧ zG cT .int U ∧ zG cT .long U
theorem zG.moved {cT : FieldType → ClassId} {t : FieldType} {u U : State} (hvm : u.vm.Alike U.vm) (h : zG cT t u) : zG cT t U := by
  obtain ⟨k, kc, co, h1, h2, h3, h4⟩ := h
  obtain ⟨k', hk', he⟩ := hvm.2.2 _ _ h1
  obtain ⟨kc', hkc', hec⟩ := hvm.2.2 _ _ h3
  exact ⟨k', kc', co, hk', by rw [he]; exact h2, hkc', by rw [hec]; exact h4⟩
theorem zK.moved {D : va_G} {cl : List vw_C} {cT : FieldType → ClassId} {u U : State} (hvm : u.vm.Alike U.vm) (h : zK D cl cT u) : zK D cl cT U := ⟨va_K.moved hvm h.1, h.2.1.moved hvm, h.2.2.moved hvm⟩
def zrel (D : va_G) (cl : List vw_C) (cT : FieldType → ClassId) (A : Nat → Prop) (H0 : Heap) (maxL : Nat) (ad0 : Nat → Nat) (n0 : Nat) (L : List (Option Value)) (σ : List zC) (nc : Nat) (ad : Nat → Nat) (H : Heap) (locs : List Loc) (ls : Array Slot) : Prop :=
  (ls.size = maxL ∧ lv_wf ls ∧ L.length = maxL ∧ ∀ (i : Nat) (v : Value), L[i]? = some (some v) → ls[i]? = some (.val (zv ad v))) ∧
  (va_P D cl (zws cT ad σ) H ∧ va_D A (zws cT ad σ) ∧ va_S A H0 H locs) ∧ (nc = 0 → ad = ad0) ∧ (∀ k, k ≤ n0 → ad k = ad0 k) ∧ n0 ≤ σ.length
def zW (p : Program) (l : Launch) (e : Env) (R : Room) (s : State) (m : MethodId) (args : Array Value) (below : List Frame) (meth : Method) (c : Code) (Q : State → Prop) (D : va_G) (cl : List vw_C) (cT : FieldType → ClassId) (A : Nat → Prop) (H0 : Heap) (maxL : Nat) (ad0 : Nat → Nat) (n0 : Nat) (a : zS) : Prop :=
  ∀ (ad : Nat → Nat) (H : Heap) (locs : List Loc) (ls : Array Slot), zrel D cl cT A H0 maxL ad0 n0 a.2.1 a.2.2.2.1 a.2.2.2.2.1 ad H locs ls → W p l e R s m args below meth c H locs a.2.2.2.2.1 a.2.2.2.2.2 Q (F0 m a.1 ls (a.2.2.1.map (zv ad)))
def zlv (ad : Nat → Nat) (L : List (Option Value)) : List (Nat × Value) := (List.range L.length).filterMap (fun i => match L[i]? with
  | some (some v) => some (i, zv ad v)
  | _ => none)
theorem zv_cat (ad : Nat → Nat) (v : Value) : (zv ad v).category = v.category := by cases v <;> rfl
theorem zlv_mem {ad : Nat → Nat} {L : List (Option Value)} {i : Nat} {v : Value} (h : L[i]? = some (some v)) : (i, zv ad v) ∈ zlv ad L :=
  List.mem_filterMap.mpr ⟨i, List.mem_range.mpr (List.getElem?_eq_some_iff.mp h).1, by rw [h]⟩
theorem zlv_at {ad : Nat → Nat} {L : List (Option Value)} {q : Nat × Value} (h : q ∈ zlv ad L) : ∃ v, L[q.1]? = some (some v) ∧ q.2 = zv ad v := by
  obtain ⟨i, -, hi⟩ := List.mem_filterMap.mp h
  split at hi
  · rename_i v hv
    cases hi
    exact ⟨v, hv, rfl⟩
  · cases hi
theorem zkill_at {L : List (Option Value)} {i j : Nat} {v : Value} (h : (zkill L i)[j]? = some (some v)) : L[j]? = some (some v) ∧ ¬ (j + 1 = i ∧ v.category = 2) := by
  cases i with
  | zero => exact ⟨h, fun q => by omega⟩
  | succ i =>
    simp only [zkill] at h
    split at h
    · rename_i w hw
      split at h
      · by_cases e : i = j
        · subst e
          simp [List.getElem?_set] at h
        · rw [List.getElem?_set_ne e] at h
          exact ⟨h, fun q => e (by omega)⟩
      · rename_i h2
        refine ⟨h, fun q => ?_⟩
        have e : j = i := by omega
        subst e
        rw [hw] at h
        cases h
        exact h2 q.2
    · rename_i hno
      refine ⟨h, fun q => ?_⟩
      have e : j = i := by omega
      subst e
      exact hno _ h
theorem zkill_len (L : List (Option Value)) (i : Nat) : (zkill L i).length = L.length := by
  cases i with
  | zero => rfl
  | succ i =>
    simp only [zkill]
    split
    · split
      · simp
      · rfl
    · rfl
theorem zws_get {cT : FieldType → ClassId} {ad : Nat → Nat} {σ : List zC} {k : Nat} {x : zC} (h : σ[k]? = some x) : (zws cT ad σ)[k]? = some (ad (k + 1), zcz cT ad x) := by
  simp [zws, h]
theorem zws_set {cT : FieldType → ClassId} {ad : Nat → Nat} {σ : List zC} {k : Nat} {x : zC} : (zws cT ad σ).set k (ad (k + 1), zcz cT ad x) = zws cT ad (σ.set k x) := by
  simp [zws, List.mapIdx_set]
theorem zws_app1 {cT : FieldType → ClassId} {ad : Nat → Nat} {σ : List zC} {x : zC} : zws cT ad (σ ++ [x]) = zws cT ad σ ++ [(ad (σ.length + 1), zcz cT ad x)] := by
  simp [zws, List.mapIdx_append]
theorem zv_congr {n : Nat} {ad ad' : Nat → Nat} (h : ∀ k, k ≤ n → ad' k = ad k) {v : Value} (hv : zvok n v = true) : zv ad' v = zv ad v := by
  cases v with
  | ref k => simp only [zv, h k (Nat.le_of_ble_eq_true hv)]
  | _ => rfl
theorem zmap_congr {n : Nat} {ad ad' : Nat → Nat} (h : ∀ k, k ≤ n → ad' k = ad k) {st : List Value} (hv : st.all (zvok n) = true) : st.map (zv ad') = st.map (zv ad) :=
  List.map_congr_left fun v hm => zv_congr h (List.all_eq_true.mp hv v hm)
theorem zcz_congr {n : Nat} {ad ad' : Nat → Nat} {cT : FieldType → ClassId} (h : ∀ k, k ≤ n → ad' k = ad k) {x : zC} (hv : zcok n x = true) : zcz cT ad' x = zcz cT ad x := by
  match x, hv with
  | .inl (ci, fs), hv => simp only [zcz, zmap_congr h (st := fs) hv]
  | .inr (.inl _), _ => rfl
  | .inr (.inr (.inl _)), _ => rfl
  | .inr (.inr (.inr (ty, l))), hv =>
    have hl : (fun j : Nat => (l[j]?).map ad') = (fun j : Nat => (l[j]?).map ad) := by
      funext j
      cases hj : l[j]? with
      | none => rfl
      | some k => simp only [Option.map_some, h k (Nat.le_of_ble_eq_true (List.all_eq_true.mp hv k (List.mem_of_getElem? hj)))]
    simp only [zcz, hl]
theorem zws_congr {ad ad' : Nat → Nat} {cT : FieldType → ClassId} {σ : List zC} (h : ∀ k, k ≤ σ.length → ad' k = ad k) (hv : σ.all (zcok σ.length) = true) : zws cT ad' σ = zws cT ad σ := by
  apply List.ext_getElem?
  intro k
  simp only [zws, List.getElem?_mapIdx]
  cases hk : σ[k]? with
  | none => rfl
  | some x =>
    have hlt : k < σ.length := (List.getElem?_eq_some_iff.mp hk).1
    simp only [Option.map_some]
    rw [h (k + 1) hlt, zcz_congr h (List.all_eq_true.mp hv x (List.mem_of_getElem? hk))]
theorem zv_nr {ad : Nat → Nat} {v : Value} (h : znr v = true) : zv ad v = v := by
  cases v <;> first | rfl | cases h
theorem zmap_nr {ad : Nat → Nat} {fs : List Value} (h : fs.all znr = true) : fs.map (zv ad) = fs := by
  induction fs with
  | nil => rfl
  | cons a t ih =>
    simp only [List.all_cons, Bool.and_eq_true] at h
    simp only [List.map_cons, zv_nr h.1, ih h.2]
theorem zfit_nar {ty : FieldType} {v : Value} (h : zfit ty v = true) : narrow ty v = v ∧ fits ty v = true := by
  cases ty with
  | int => cases v <;> first | exact ⟨rfl, rfl⟩ | cases h
  | long => cases v <;> first | exact ⟨rfl, rfl⟩ | cases h
  | object C => cases v <;> first | exact ⟨rfl, rfl⟩ | cases h
  | array t => cases v <;> first | exact ⟨rfl, rfl⟩ | cases h
  | boolean =>
    cases v with
    | int x =>
      have h' : (x == 0 || x == 1) = true := h
      rw [Bool.or_eq_true, beq_iff_eq, beq_iff_eq] at h'
      rcases h' with rfl | rfl
      · exact ⟨narrow_b0, rfl⟩
      · exact ⟨narrow_b1, rfl⟩
    | _ => cases h
  | char =>
    cases v with
    | int x =>
      have h' : (decide (0 ≤ x) && decide (x ≤ 65535)) = true := h
      rw [Bool.and_eq_true, decide_eq_true_eq, decide_eq_true_eq] at h'
      obtain ⟨j, hj, rfl⟩ := nI_of2 (x := x) (M := 65535) (n := 65535) (by decide +kernel) (k2_nlt h'.1) h'.2
      exact pk_charN (by omega)
    | _ => cases h
  | byte => cases h
  | short => cases h
  | float => cases h
  | double => cases h
theorem zjmp_eq {pc : Nat} {off : Int} {t : Nat} (h : zjmp pc off = some t) : (pc : Int) + off = (t : Int) := by
  unfold zjmp at h
  split at h
  · rename_i q hq
    cases h
    exact hq
  · cases h
theorem zix_in {i : Int32} {j n : Nat} (h : zix i = some j) (hj : j < n) : vp_in i n ∧ i.toNatClampNeg = j := by
  unfold zix at h
  split at h
  · cases h
  · rename_i h0
    cases h
    exact ⟨fun q => q.elim h0 (fun z => by omega), rfl⟩
theorem zcell_at {σ : List zC} {k : Nat} {x : zC} (h : zcell σ k = some x) : ∃ j, k = j + 1 ∧ σ[j]? = some x := by
  cases k with
  | zero => cases h
  | succ j => exact ⟨j, rfl, h⟩
theorem zlook_mem {α : Type} {l : List (Nat × α)} {k : Nat} {x : α} (h : zlook l k = some x) : (k, x) ∈ l := by
  induction l with
  | nil => cases h
  | cons a t ih =>
    obtain ⟨j, y⟩ := a
    simp only [zlook] at h
    split at h
    · rename_i e
      cases h
      rw [Nat.eq_of_beq_eq_true e]
      exact List.mem_cons_self
    · exact List.mem_cons_of_mem _ (ih h)
section
variable {D : va_G} {cl : List vw_C} {cT : FieldType → ClassId} {A : Nat → Prop} {H0 : Heap} {maxL : Nat} {ad0 : Nat → Nat} {n0 : Nat} {L : List (Option Value)} {σ : List zC} {nc : Nat} {ad : Nat → Nat} {H : Heap} {locs : List Loc} {ls : Array Slot}
theorem zrel.has (r : zrel D cl cT A H0 maxL ad0 n0 L σ nc ad H locs ls) : lv_has ls maxL (zlv ad L) := by
  refine ⟨r.1.1, r.1.2.1, fun q hq => ?_⟩
  obtain ⟨v, h1, h2⟩ := zlv_at hq
  rw [h2]
  exact r.1.2.2.2 _ _ h1
theorem zrel.set1 (r : zrel D cl cT A H0 maxL ad0 n0 L σ nc ad H locs ls) {i : Nat} {v : Value} (hi : i < maxL) {ls' : Array Slot} (h : lv_has ls' maxL ((i, zv ad v) :: (zlv ad L).filter (fun q => !(q.1 == i) && !(q.1 + 1 == i && q.2.category == 2)))) : zrel D cl cT A H0 maxL ad0 n0 (zset1 L i v) σ nc ad H locs ls' := by
  obtain ⟨⟨r1, r2, r3, r4⟩, r5⟩ := r
  refine ⟨⟨h.1, h.2.1, by simp [zset1, zkill_len, r3], fun j w hw => ?_⟩, r5⟩
  by_cases e : i = j
  · subst e
    rw [zset1, List.getElem?_set_self (by rw [zkill_len, r3]; exact hi)] at hw
    cases hw
    exact h.2.2 (i, zv ad v) List.mem_cons_self
  · rw [zset1, List.getElem?_set_ne e] at hw
    obtain ⟨h1, h2⟩ := zkill_at hw
    refine h.2.2 (j, zv ad w) (List.mem_cons_of_mem _ (List.mem_filter.mpr ⟨zlv_mem h1, ?_⟩))
    have e' : ¬ j = i := fun q => e q.symm
    by_cases q : j + 1 = i
    · have h3 : ¬ w.category = 2 := fun z => h2 ⟨q, z⟩
      simp [e', zv_cat, h3]
    · simp [e', q]
theorem zrel.set2 (r : zrel D cl cT A H0 maxL ad0 n0 L σ nc ad H locs ls) {i : Nat} {v : Value} (hi : i + 1 < maxL) {ls' : Array Slot} (h : lv_has ls' maxL ((i, zv ad v) :: (zlv ad L).filter (fun q => !(q.1 == i) && (!(q.1 == i + 1) && !(q.1 + 1 == i && q.2.category == 2))))) : zrel D cl cT A H0 maxL ad0 n0 (zset2 L i v) σ nc ad H locs ls' := by
  obtain ⟨⟨r1, r2, r3, r4⟩, r5⟩ := r
  refine ⟨⟨h.1, h.2.1, by simp [zset2, zkill_len, r3], fun j w hw => ?_⟩, r5⟩
  by_cases e1 : i + 1 = j
  · subst e1
    rw [zset2, List.getElem?_set_self (by rw [List.length_set, zkill_len, r3]; exact hi)] at hw
    cases hw
  · rw [zset2, List.getElem?_set_ne e1] at hw
    by_cases e : i = j
    · subst e
      rw [List.getElem?_set_self (by rw [zkill_len, r3]; omega)] at hw
      cases hw
      exact h.2.2 (i, zv ad v) List.mem_cons_self
    · rw [List.getElem?_set_ne e] at hw
      obtain ⟨h1, h2⟩ := zkill_at hw
      refine h.2.2 (j, zv ad w) (List.mem_cons_of_mem _ (List.mem_filter.mpr ⟨zlv_mem h1, ?_⟩))
      have e' : ¬ j = i := fun q => e q.symm
      have e1' : ¬ j = i + 1 := fun q => e1 q.symm
      by_cases q : j + 1 = i
      · have h3 : ¬ w.category = 2 := fun z => h2 ⟨q, z⟩
        simp [e', e1', zv_cat, h3]
      · simp [e', e1', q]
theorem zrel.put (r : zrel D cl cT A H0 maxL ad0 n0 L σ nc ad H locs ls) {k : Nat} {x : zC} {H1 : Heap} {locs1 : List Loc} (hP : va_P D cl ((zws cT ad σ).set k (ad (k + 1), zcz cT ad x)) H1) (hD : va_D A ((zws cT ad σ).set k (ad (k + 1), zcz cT ad x))) (hS : va_S A H0 H1 locs1) : zrel D cl cT A H0 maxL ad0 n0 L (σ.set k x) nc ad H1 locs1 ls := by
  rw [zws_set] at hP hD
  exact ⟨r.1, ⟨hP, hD, hS⟩, r.2.2.1, r.2.2.2.1, by simpa using r.2.2.2.2⟩
theorem zrel.push (r : zrel D cl cT A H0 maxL ad0 n0 L σ nc ad H locs ls) {τ : List zC} {st : List Value} (hc : zclosed σ.length L st σ = true) {ad' : Nat → Nat} (ha : ∀ k, k ≤ σ.length → ad' k = ad k) {H1 : Heap} {locs1 : List Loc} {d : Nat} (hP : va_P D cl (zws cT ad' (σ ++ τ)) H1) (hD : va_D A (zws cT ad' (σ ++ τ))) (hS : va_S A H0 H1 locs1) : zrel D cl cT A H0 maxL ad0 n0 L (σ ++ τ) (d + 1) ad' H1 locs1 ls ∧ st.map (zv ad') = st.map (zv ad) ∧ zws cT ad' σ = zws cT ad σ := by
  simp only [zclosed, Bool.and_eq_true] at hc
  obtain ⟨h1, h2, h3⟩ := hc
  obtain ⟨⟨r1, r2, r3, r4⟩, r5, r6, r7, r8⟩ := r
  refine ⟨⟨⟨r1, r2, r3, fun i v hv => ?_⟩, ⟨hP, hD, hS⟩, fun q => absurd q (Nat.succ_ne_zero d), fun k hk => ?_, ?_⟩, zmap_congr ha h2, zws_congr ha h3⟩
  · have hz : zvok σ.length v = true := List.all_eq_true.mp h1 (some v) (List.mem_of_getElem? hv)
    rw [zv_congr ha hz]
    exact r4 i v hv
  · rw [ha k (Nat.le_trans hk r8)]
    exact r7 k hk
  · rw [List.length_append]
    omega
end
end ZMR

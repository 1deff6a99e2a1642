section
/-! The small machine: a frame as (pc, locals, stack, cells, cells made, slots made); a reference is the number of a cell (0: the script). zstep does an instruction, zrun a method; behind it: what zrun answers, the machine does. -/
section ZMD
abbrev zC : Type := (Nat × List Value) ⊕ ((FieldType × List Int32) ⊕ (List Int64 ⊕ (FieldType × List Nat)))
abbrev zS : Type := Nat × List (Option Value) × List Value × List zC × Nat × Nat
abbrev zI : Type := Jvm.ClassFile.Instr × Nat × Nat × Nat × Nat
abbrev zM : Type := MethodName × ByteArray × Nat × Option FieldType × Nat × Nat × Nat × Nat × List (Nat × zI)
abbrev zO : Type := Option Value × List zC × Nat × Nat
def zv (ad : Nat → Nat) (v : Value) : Value := match v with
  | .ref k => .ref (ad k)
  | .int x => .int x
  | .long x => .long x
  | .float x => .float x
  | .double x => .double x
  | .null => .null
  | .retAddr x => .retAddr x
def zcz (cT : FieldType → ClassId) (ad : Nat → Nat) (c : zC) : va_E := match c with
  | .inl (ci, fs) => .inr (ci, fs.map (zv ad))
  | .inr (.inl (ty, l)) => .inl (cT ty, l.length, .inl (fun j => l.getD j 0))
  | .inr (.inr (.inl l)) => .inl (cT .long, l.length, .inr (.inl (fun j => l.getD j 0)))
  | .inr (.inr (.inr (ty, l))) => .inl (cT (.array ty), l.length, .inr (.inr (.inr (.inr (fun j => (l[j]?).map ad)))))
def zws (cT : FieldType → ClassId) (ad : Nat → Nat) (σ : List zC) : va_W := σ.mapIdx (fun k c => (ad (k + 1), zcz cT ad c))
def zcell (σ : List zC) (k : Nat) : Option zC := match k with
  | 0 => none
  | j + 1 => σ[j]?
def zput (σ : List zC) (k : Nat) (c : zC) : List zC := match k with
  | 0 => σ
  | j + 1 => σ.set j c
def zjmp (pc : Nat) (off : Int) : Option Nat := match (pc : Int) + off with
  | .ofNat t => some t
  | .negSucc _ => none
def zbr (cnd : Jvm.ClassFile.Cond) (x y : Int32) (t f : Nat) : Nat := match cnd with
  | .eq => if x = y then t else f
  | .ne => if x = y then f else t
  | .lt => if x < y then t else f
  | .ge => if y ≤ x then t else f
  | .gt => if y < x then t else f
  | .le => if x ≤ y then t else f
def zix (i : Int32) : Option Nat := if i < 0 then none else some i.toNatClampNeg
def zfit (ty : FieldType) (v : Value) : Bool := match ty with
  | .byte | .short | .float | .double => false
  | .int | .long | .boolean | .char | .object _ | .array _ => fits ty v
def zkill (L : List (Option Value)) (i : Nat) : List (Option Value) := match i with
  | 0 => L
  | j + 1 => match L[j]? with
    | some (some w) => if w.category = 2 then L.set j none else L
    | _ => L
def zset1 (L : List (Option Value)) (i : Nat) (v : Value) : List (Option Value) := (zkill L i).set i (some v)
def zset2 (L : List (Option Value)) (i : Nat) (v : Value) : List (Option Value) := ((zkill L i).set i (some v)).set (i + 1) none
def zvok (n : Nat) (v : Value) : Bool := match v with
  | .ref k => Nat.ble k n
  | _ => true
def zcok (n : Nat) (c : zC) : Bool := match c with
  | .inl (_, fs) => fs.all (zvok n)
  | .inr (.inr (.inr (_, l))) => l.all (fun k => Nat.ble k n)
  | _ => true
def zlok (n : Nat) (L : List (Option Value)) : Bool := L.all (fun o => match o with
  | some v => zvok n v
  | none => true)
def zclosed (n : Nat) (L : List (Option Value)) (st : List Value) (σ : List zC) : Bool := zlok n L && (st.all (zvok n) && σ.all (zcok n))
def zp2i (st : List Value) : Option (Int32 × Int32 × List Value) := match st with
  | .int y :: .int x :: r => some (x, y, r)
  | _ => none
def zp1i (st : List Value) : Option (Int32 × List Value) := match st with
  | .int x :: r => some (x, r)
  | _ => none
def zp2l (st : List Value) : Option (Int64 × Int64 × List Value) := match st with
  | .long y :: .long x :: r => some (x, y, r)
  | _ => none
def zp1l (st : List Value) : Option (Int64 × List Value) := match st with
  | .long x :: r => some (x, r)
  | _ => none
def zp1r (st : List Value) : Option (Nat × List Value) := match st with
  | .ref k :: r => some (k, r)
  | _ => none
/-- an array and an index: index, array -/
def zpir (st : List Value) : Option (Int32 × Nat × List Value) := match st with
  | .int i :: .ref k :: r => some (i, k, r)
  | _ => none
def zpiir (st : List Value) : Option (Int32 × Int32 × Nat × List Value) := match st with
  | .int x :: .int i :: .ref k :: r => some (x, i, k, r)
  | _ => none
def zplir (st : List Value) : Option (Int64 × Int32 × Nat × List Value) := match st with
  | .long x :: .int i :: .ref k :: r => some (x, i, k, r)
  | _ => none
def zprir (st : List Value) : Option (Nat × Int32 × Nat × List Value) := match st with
  | .ref x :: .int i :: .ref k :: r => some (x, i, k, r)
  | _ => none
def zpvr (st : List Value) : Option (Value × Nat × List Value) := match st with
  | v :: .ref k :: r => some (v, k, r)
  | _ => none
def zgi (L : List (Option Value)) (i : Nat) : Option Int32 := match L[i]? with
  | some (some (.int x)) => some x
  | _ => none
def zgl (L : List (Option Value)) (i : Nat) : Option Int64 := match L[i]? with
  | some (some (.long x)) => some x
  | _ => none
def zga (L : List (Option Value)) (i : Nat) : Option Nat := match L[i]? with
  | some (some (.ref x)) => some x
  | _ => none
/-- some () just if it holds -/
def zif (b : Bool) : Option Unit := match b with
  | true => some ()
  | false => none
def zcO (σ : List zC) (k : Nat) : Option (Nat × List Value) := match zcell σ k with
  | some (.inl q) => some q
  | _ => none
def zcI (σ : List zC) (k : Nat) : Option (List Int32) := match zcell σ k with
  | some (.inr (.inl (.int, l))) => some l
  | _ => none
def zcC (σ : List zC) (k : Nat) : Option (List Int32) := match zcell σ k with
  | some (.inr (.inl (.char, l))) => some l
  | _ => none
def zcZ (σ : List zC) (k : Nat) : Option (List Int32) := match zcell σ k with
  | some (.inr (.inl (.boolean, l))) => some l
  | _ => none
def zcJ (σ : List zC) (k : Nat) : Option (List Int64) := match zcell σ k with
  | some (.inr (.inr (.inl l))) => some l
  | _ => none
def zcR (σ : List zC) (k : Nat) : Option (Bool × List Nat) := match zcell σ k with
  | some (.inr (.inr (.inr (.int, l)))) => some (false, l)
  | some (.inr (.inr (.inr (.long, l)))) => some (true, l)
  | _ => none
def zsw (x lo hi : Int) (dflt : Int) (offs : Array Int) : Option Int := if x < lo ∨ hi < x then some dflt else offs[(x - lo).toNat]?
def znew (t : Jvm.ClassFile.ArrayType) (N : Nat) : Option zC := match t with
  | .int => some (.inr (.inl (.int, List.replicate N 0)))
  | .char => some (.inr (.inl (.char, List.replicate N 0)))
  | .boolean => some (.inr (.inl (.boolean, List.replicate N 0)))
  | .long => some (.inr (.inr (.inl (List.replicate N 0))))
  | _ => none
def zgrid (x1 : Nat) (n N K : Nat) : List zC := match x1 with
  | 0 => .inr (.inr (.inr (.int, (List.range N).map (fun j => n + 2 + j)))) :: List.replicate N (.inr (.inl (.int, List.replicate K 0)))
  | _ + 1 => .inr (.inr (.inr (.long, (List.range N).map (fun j => n + 2 + j)))) :: List.replicate N (.inr (.inr (.inl (List.replicate K 0))))
/-- one instruction that is no call and no return -/
def zstep (scr : Option (List Int32)) (fty : Nat → Nat → FieldType) (cd : List (List Value)) (ins : Jvm.ClassFile.Instr) (x1 x2 x3 : Nat) (pc : Nat) (L : List (Option Value)) (st : List Value) (σ : List zC) (nc ns : Nat) : Option zS := match ins with
  | .iconst n => some (pc + 1, L, .int (Int32.ofInt n) :: st, σ, nc, ns)
  | .bipush n => some (pc + 2, L, .int (Int8.ofInt n).toInt32 :: st, σ, nc, ns)
  | .sipush n => some (pc + 3, L, .int (Int16.ofInt n).toInt32 :: st, σ, nc, ns)
  | .lconst n => some (pc + 1, L, .long (Int64.ofNat n.val) :: st, σ, nc, ns)
  | .iload i => (zgi L i).bind fun x => some (pc + 2, L, .int x :: st, σ, nc, ns)
  | .iload_n i => (zgi L i.val).bind fun x => some (pc + 1, L, .int x :: st, σ, nc, ns)
  | .lload i => (zgl L i).bind fun x => some (pc + 2, L, .long x :: st, σ, nc, ns)
  | .lload_n i => (zgl L i.val).bind fun x => some (pc + 1, L, .long x :: st, σ, nc, ns)
  | .aload i => (zga L i).bind fun x => some (pc + 2, L, .ref x :: st, σ, nc, ns)
  | .aload_n i => (zga L i.val).bind fun x => some (pc + 1, L, .ref x :: st, σ, nc, ns)
  | .istore i => (zp1i st).bind fun (x, r) => (zif (Nat.blt i L.length)).bind fun _ => some (pc + 2, zset1 L i (.int x), r, σ, nc, ns)
  | .istore_n i => (zp1i st).bind fun (x, r) => (zif (Nat.blt i.val L.length)).bind fun _ => some (pc + 1, zset1 L i.val (.int x), r, σ, nc, ns)
  | .astore i => (zp1r st).bind fun (x, r) => (zif (Nat.blt i L.length)).bind fun _ => some (pc + 2, zset1 L i (.ref x), r, σ, nc, ns)
  | .astore_n i => (zp1r st).bind fun (x, r) => (zif (Nat.blt i.val L.length)).bind fun _ => some (pc + 1, zset1 L i.val (.ref x), r, σ, nc, ns)
  | .lstore i => (zp1l st).bind fun (x, r) => (zif (Nat.blt (i + 1) L.length)).bind fun _ => some (pc + 2, zset2 L i (.long x), r, σ, nc, ns)
  | .lstore_n i => (zp1l st).bind fun (x, r) => (zif (Nat.blt (i.val + 1) L.length)).bind fun _ => some (pc + 1, zset2 L i.val (.long x), r, σ, nc, ns)
  | .iinc i n => (zgi L i).bind fun x => some (pc + 3, zset1 L i (.int (x + Int32.ofInt n)), st, σ, nc, ns)
  | .iadd => (zp2i st).bind fun (x, y, r) => some (pc + 1, L, .int (x + y) :: r, σ, nc, ns)
  | .isub => (zp2i st).bind fun (x, y, r) => some (pc + 1, L, .int (x - y) :: r, σ, nc, ns)
  | .imul => (zp2i st).bind fun (x, y, r) => some (pc + 1, L, .int (x * y) :: r, σ, nc, ns)
  | .iand => (zp2i st).bind fun (x, y, r) => some (pc + 1, L, .int (x &&& y) :: r, σ, nc, ns)
  | .ior => (zp2i st).bind fun (x, y, r) => some (pc + 1, L, .int (x ||| y) :: r, σ, nc, ns)
  | .ixor => (zp2i st).bind fun (x, y, r) => some (pc + 1, L, .int (x ^^^ y) :: r, σ, nc, ns)
  | .ishl => (zp2i st).bind fun (x, y, r) => some (pc + 1, L, .int (x <<< (y &&& 31)) :: r, σ, nc, ns)
  | .ishr => (zp2i st).bind fun (x, y, r) => some (pc + 1, L, .int (x >>> (y &&& 31)) :: r, σ, nc, ns)
  | .iushr => (zp2i st).bind fun (x, y, r) => some (pc + 1, L, .int (x.toUInt32 >>> (y.toUInt32 &&& Int32.toUInt32 31)).toInt32 :: r, σ, nc, ns)
  | .ineg => (zp1i st).bind fun (x, r) => some (pc + 1, L, .int (-x) :: r, σ, nc, ns)
  | .lmul => (zp2l st).bind fun (x, y, r) => some (pc + 1, L, .long (x * y) :: r, σ, nc, ns)
  | .lsub => (zp2l st).bind fun (x, y, r) => some (pc + 1, L, .long (x - y) :: r, σ, nc, ns)
  | .lneg => (zp1l st).bind fun (x, r) => some (pc + 1, L, .long (-x) :: r, σ, nc, ns)
  | .ldiv => (zp2l st).bind fun (x, y, r) => if y = 0 then none else some (pc + 1, L, .long (x / y) :: r, σ, nc, ns)
  | .lrem => (zp2l st).bind fun (x, y, r) => if y = 0 then none else some (pc + 1, L, .long (x - x / y * y) :: r, σ, nc, ns)
  | .lcmp => (zp2l st).bind fun (x, y, r) => some (pc + 1, L, .int (lg_cmp x y) :: r, σ, nc, ns)
  | .i2l => (zp1i st).bind fun (x, r) => some (pc + 1, L, .long x.toInt64 :: r, σ, nc, ns)
  | .l2i => (zp1l st).bind fun (x, r) => some (pc + 1, L, .int x.toInt32 :: r, σ, nc, ns)
  | .i2c => (zp1i st).bind fun (x, r) => some (pc + 1, L, .int (x.toUInt32 % 65536).toInt32 :: r, σ, nc, ns)
  | .dup => match st with
    | .int x :: r => some (pc + 1, L, .int x :: .int x :: r, σ, nc, ns)
    | .ref x :: r => some (pc + 1, L, .ref x :: .ref x :: r, σ, nc, ns)
    | _ => none
  | .dup2 => (zpir st).bind fun (i, k, r) => some (pc + 1, L, .int i :: .ref k :: .int i :: .ref k :: r, σ, nc, ns)
  | .ifCond cnd off => (zp1i st).bind fun (x, r) => (zjmp pc off).bind fun t => some (zbr cnd x 0 t (pc + 3), L, r, σ, nc, ns)
  | .if_icmp cnd off => (zp2i st).bind fun (x, y, r) => (zjmp pc off).bind fun t => some (zbr cnd x y t (pc + 3), L, r, σ, nc, ns)
  | .goto off => (zjmp pc off).bind fun t => some (t, L, st, σ, nc, ns)
  | .tableswitch dflt lo hi offs => (zp1i st).bind fun (x, r) => (zsw x.toInt lo hi dflt offs).bind fun off => (zjmp pc off).bind fun t => some (t, L, r, σ, nc, ns)
  | .getfield _ => (zp1r st).bind fun (k, r) => (zcO σ k).bind fun (ci, fs) => (zif (Nat.beq ci x1)).bind fun _ => (fs[x2]?).bind fun v => some (pc + 3, L, v :: r, σ, nc, ns)
  | .putfield _ => (zpvr st).bind fun (v, k, r) => (zcO σ k).bind fun (ci, fs) => (zif (Nat.beq ci x1 && (Nat.blt x2 fs.length && zfit (fty x1 x2) v))).bind fun _ => some (pc + 3, L, r, zput σ k (.inl (ci, fs.set x2 v)), nc, ns)
  | .iaload => (zpir st).bind fun (i, k, r) => (match k with
    | 0 => scr
    | j + 1 => zcI σ (j + 1)).bind fun l => (zix i).bind fun j => (l[j]?).bind fun x => some (pc + 1, L, .int x :: r, σ, nc, ns)
  | .caload => (zpir st).bind fun (i, k, r) => (zcC σ k).bind fun l => (zix i).bind fun j => (l[j]?).bind fun x => some (pc + 1, L, .int x :: r, σ, nc, ns)
  | .baload => (zpir st).bind fun (i, k, r) => (zcZ σ k).bind fun l => (zix i).bind fun j => (l[j]?).bind fun x => some (pc + 1, L, .int x :: r, σ, nc, ns)
  | .laload => (zpir st).bind fun (i, k, r) => (zcJ σ k).bind fun l => (zix i).bind fun j => (l[j]?).bind fun x => some (pc + 1, L, .long x :: r, σ, nc, ns)
  | .aaload => (zpir st).bind fun (i, k, r) => (zcR σ k).bind fun (_, l) => (zix i).bind fun j => (l[j]?).bind fun x => some (pc + 1, L, .ref x :: r, σ, nc, ns)
  | .iastore => (zpiir st).bind fun (x, i, k, r) => (zcI σ k).bind fun l => (zix i).bind fun j => (zif (Nat.blt j l.length)).bind fun _ => some (pc + 1, L, r, zput σ k (.inr (.inl (.int, l.set j x))), nc, ns)
  | .castore => (zpiir st).bind fun (x, i, k, r) => (zcC σ k).bind fun l => (zix i).bind fun j => (zif (Nat.blt j l.length)).bind fun _ => some (pc + 1, L, r, zput σ k (.inr (.inl (.char, l.set j (vp_nar .char x)))), nc, ns)
  | .bastore => (zpiir st).bind fun (x, i, k, r) => (zcZ σ k).bind fun l => (zix i).bind fun j => (zif (Nat.blt j l.length)).bind fun _ => some (pc + 1, L, r, zput σ k (.inr (.inl (.boolean, l.set j (vp_nar .boolean x)))), nc, ns)
  | .lastore => (zplir st).bind fun (x, i, k, r) => (zcJ σ k).bind fun l => (zix i).bind fun j => (zif (Nat.blt j l.length)).bind fun _ => some (pc + 1, L, r, zput σ k (.inr (.inr (.inl (l.set j x)))), nc, ns)
  | .aastore => (zprir st).bind fun (x, i, k, r) => (zcR σ k).bind fun (b, l) => (zcJ σ x).bind fun _ => (zix i).bind fun j => (zif (b && Nat.blt j l.length)).bind fun _ => some (pc + 1, L, r, zput σ k (.inr (.inr (.inr (.long, l.set j x)))), nc, ns)
  | .arraylength => (zp1r st).bind fun (k, r) => (match k with
    | 0 => scr
    | _ + 1 => none).bind fun xs => some (pc + 1, L, .int (Int32.ofNat xs.length) :: r, σ, nc, ns)
  | .newarray t => (zp1i st).bind fun (n, r) => (zix n).bind fun N => (zif (zclosed σ.length L r σ && Nat.ble N 1000)).bind fun _ => (znew t N).bind fun x => some (pc + 2, L, .ref (σ.length + 1) :: r, σ ++ [x], nc + 1, ns + N)
  | .multianewarray _ d => (zp2i st).bind fun (n, k, r) => (zix n).bind fun N => (zix k).bind fun K => (zif (Nat.beq d 2 && (zclosed σ.length L r σ && (Nat.ble N 1000 && Nat.ble K 1000)))).bind fun _ => some (pc + 4, L, .ref (σ.length + 1) :: r, σ ++ zgrid x1 σ.length N K, nc + N + 1, ns + (N + N * K))
  | .ldc_w _ => some (pc + 3, L, .int (Int32.ofNat x1) :: st, σ, nc, ns)
  | .new _ => (cd[x1]?).bind fun fs => (zif (zclosed σ.length L st σ)).bind fun _ => some (pc + 3, L, .ref (σ.length + 1) :: st, σ ++ [.inl (x1, fs)], nc + 1, ns + fs.length)
  | .invokespecial _ => (zp1r st).bind fun (_, r) => (zif (Nat.beq x3 0 && Nat.ble (r.map fun v => v.category).sum 8)).bind fun _ => some (pc + 3, L, r, σ, nc, ns)
  | _ => none
def zlook {α : Type} (l : List (Nat × α)) (k : Nat) : Option α := match l with
  | [] => none
  | (j, x) :: t => match Nat.beq j k with
    | true => some x
    | false => zlook t k
def zent0 (vs : List Value) : List (Option Value) := vs.flatMap fun v => if v.category = 2 then [some v, none] else [some v]
def zent (vs : List Value) (n : Nat) : List (Option Value) := zent0 vs ++ List.replicate (n - (zent0 vs).length) none
/-- the stack's arguments, first one first, and the rest -/
def ztake (n : Nat) (st : List Value) : Option (List Value × List Value) := match Nat.ble n st.length && (Nat.ble ((st.drop n).map fun v => v.category).sum 8) with
  | true => some ((st.take n).reverse, st.drop n)
  | false => none
def znr (v : Value) : Bool := match v with
  | .ref _ => false
  | _ => true
def znrO (v : Option Value) : Bool := match v with
  | none => true
  | some w => znr w
/-- behind a call -/
def zback (rest : List Value) (pc : Nat) (L : List (Option Value)) (σ : List zC) (nc ns : Nat) (o : zO) : Option zS := match o with
  | (v, σ', dc, ds) => match znrO v, dc with
    | true, 0 => some (pc + 3, L, v.toList ++ rest, σ', nc + 0, ns + ds)
    | true, d + 1 => match zlok σ.length L && rest.all (zvok σ.length) with
      | true => some (pc + 3, L, v.toList ++ rest, σ', nc + (d + 1), ns + ds)
      | false => none
    | false, _ => none
/-- a return's answer -/
def zret (ret : Option FieldType) (ins : Jvm.ClassFile.Instr) (st : List Value) : Option (Option Value) := match ins with
  | .ireturn => match st, ret with
    | [.int v], some ty => match zfit ty (.int v) with
      | true => some (some (.int v))
      | false => none
    | _, _ => none
  | .lreturn => match st, ret with
    | [.long v], some .long => some (some (.long v))
    | _, _ => none
  | .return_ => match st, ret with
    | [], none => some none
    | _, _ => none
  | _ => none
/-- a call's arguments, the rest of the stack, the callee's room for locals -/
def zprep (P : List zM) (ins : Jvm.ClassFile.Instr) (x1 x2 x3 : Nat) (st : List Value) (σ : List zC) : Option (List Value × List Value × Nat) := match ins with
  | .invokestatic _ => match ztake x2 st, P[x1]? with
    | some (as, rest), some (_, _, mz, _, _, _, _, _, _) => match Nat.ble (zent0 as).length mz with
      | true => some (as, rest, mz)
      | false => none
    | _, _ => none
  | .invokespecial _ => match ztake x2 st, P[x1]? with
    | some (.ref k :: as, rest), some (_, _, mz, _, _, _, _, _, _) => match Nat.ble (zent0 (.ref k :: as)).length mz && Nat.ble 1 x3 with
      | true => some (.ref k :: as, rest, mz)
      | false => none
    | _, _ => none
  | .invokevirtual _ => match ztake x2 st, P[x1]? with
    | some (.ref k :: as, rest), some (_, _, mz, _, _, _, _, _, _) => match Nat.ble (zent0 (.ref k :: as)).length mz, zcell σ k with
      | true, some (.inl (ci, _)) => match Nat.beq ci x3 with
        | true => some (.ref k :: as, rest, mz)
        | false => none
      | _, _ => none
    | _, _ => none
  | _ => none
/-- one step of a frame, over what calls do -/
def zone (P : List zM) (fty : Nat → Nat → FieldType) (cd : List (List Value)) (ih : Option (List Int32) → Nat → zS → Option zO) (scr : Option (List Int32)) (y : Nat) (a : zS) : Option zO := match P[y]?, a with
  | some (_, _, _, ret, _, _, _, _, rows), (pc, L, st, σ, nc, ns) => match zlook rows pc with
    | some (ins, _, x1, x2, x3) => match zstep scr fty cd ins x1 x2 x3 pc L st σ nc ns with
      | some a' => ih scr y a'
      | none => match zret ret ins st with
        | some r => some (r, σ, nc, ns)
        | none => match zprep P ins x1 x2 x3 st σ with
          | some (as, rest, mz) => match ih none x1 (0, zent as mz, [], σ, 0, 0) with
            | some o => match zback rest pc L σ nc ns o with
              | some a' => ih scr y a'
              | none => none
            | none => none
          | none => none
    | none => none
  | _, _ => none
/-- a method from a frame of it to its return -/
def zrun (P : List zM) (fty : Nat → Nat → FieldType) (cd : List (List Value)) (n : Nat) : Option (List Int32) → Nat → zS → Option zO :=
  Nat.rec (motive := fun _ => Option (List Int32) → Nat → zS → Option zO) (fun _ _ _ => none) (fun _ ih => zone P fty cd ih) n
theorem zrun_s (P : List zM) (fty : Nat → Nat → FieldType) (cd : List (List Value)) (n : Nat) : zrun P fty cd (n + 1) = zone P fty cd (zrun P fty cd n) := rfl
end ZMD
/-! What the small machine's frame says of the machine's. -/
section ZMR
def zT (cT : FieldType → ClassId) : List (ClassId × FieldType) := [(cT .int, .int), (cT .long, .long), (cT .char, .char), (cT .boolean, .boolean), (cT (.array .int), .array .int), (cT (.array .long), .array .long)]
def zG (cT : FieldType → ClassId) (t : FieldType) (U : State) : Prop := ∃ (k kc : Class) (co : ClassId), U.vm.classes[cT (.array t)]? = some k ∧ k.kind = .array (cT t) (.array t) ∧ U.vm.classes[cT t]? = some kc ∧ kc.kind = .array co t
def zK (D : va_G) (cl : List vw_C) (cT : FieldType → ClassId) (U : State) : Prop := va_K D cl (zT cT) U ∧ zG cT .int U ∧ zG cT .long U
theorem zG.moved {cT : FieldType → ClassId} {t : FieldType} {u U : State} (hvm : u.vm.Alike U.vm) (h : zG cT t u) : zG cT t U := by
  obtain ⟨k, kc, co, h1, h2, h3, h4⟩ := h
  obtain ⟨k', hk', he⟩ := hvm.2.2 _ _ h1
  obtain ⟨kc', hkc', hec⟩ := hvm.2.2 _ _ h3
  exact ⟨k', kc', co, hk', by rw [he]; exact h2, hkc', by rw [hec]; exact h4⟩
theorem zK.moved {D : va_G} {cl : List vw_C} {cT : FieldType → ClassId} {u U : State} (hvm : u.vm.Alike U.vm) (h : zK D cl cT u) : zK D cl cT U := ⟨va_K.moved hvm h.1, h.2.1.moved hvm, h.2.2.moved hvm⟩
def zrel (D : va_G) (cl : List vw_C) (cT : FieldType → ClassId) (A : Nat → Prop) (H0 : Heap) (maxL : Nat) (ad0 : Nat → Nat) (n0 : Nat) (L : List (Option Value)) (σ : List zC) (nc : Nat) (ad : Nat → Nat) (H : Heap) (locs : List Loc) (ls : Array Slot) : Prop :=
  (ls.size = maxL ∧ lv_wf ls ∧ L.length = maxL ∧ ∀ (i : Nat) (v : Value), L[i]? = some (some v) → ls[i]? = some (.val (zv ad v))) ∧
  (va_P D cl (zws cT ad σ) H ∧ va_D A (zws cT ad σ) ∧ va_S A H0 H locs) ∧ (nc = 0 → ad = ad0) ∧ (∀ k, k ≤ n0 → ad k = ad0 k) ∧ n0 ≤ σ.length
def zW (p : Program) (l : Launch) (e : Env) (R : Room) (s : State) (m : MethodId) (args : Array Value) (below : List Frame) (meth : Method) (c : Code) (Q : State → Prop) (D : va_G) (cl : List vw_C) (cT : FieldType → ClassId) (A : Nat → Prop) (H0 : Heap) (maxL : Nat) (ad0 : Nat → Nat) (n0 : Nat) (a : zS) : Prop :=
  ∀ (ad : Nat → Nat) (H : Heap) (locs : List Loc) (ls : Array Slot), zrel D cl cT A H0 maxL ad0 n0 a.2.1 a.2.2.2.1 a.2.2.2.2.1 ad H locs ls → W p l e R s m args below meth c H locs a.2.2.2.2.1 a.2.2.2.2.2 Q (F0 m a.1 ls (a.2.2.1.map (zv ad)))
def zlv (ad : Nat → Nat) (L : List (Option Value)) : List (Nat × Value) := (List.range L.length).filterMap (fun i => match L[i]? with
  | some (some v) => some (i, zv ad v)
  | _ => none)
theorem zv_cat (ad : Nat → Nat) (v : Value) : (zv ad v).category = v.category := by cases v <;> rfl
theorem zlv_mem {ad : Nat → Nat} {L : List (Option Value)} {i : Nat} {v : Value} (h : L[i]? = some (some v)) : (i, zv ad v) ∈ zlv ad L :=
  List.mem_filterMap.mpr ⟨i, List.mem_range.mpr (List.getElem?_eq_some_iff.mp h).1, by rw [h]⟩
theorem zlv_at {ad : Nat → Nat} {L : List (Option Value)} {q : Nat × Value} (h : q ∈ zlv ad L) : ∃ v, L[q.1]? = some (some v) ∧ q.2 = zv ad v := by
  obtain ⟨i, -, hi⟩ := List.mem_filterMap.mp h
  split at hi
  · rename_i v hv
    cases hi
    exact ⟨v, hv, rfl⟩
  · cases hi
theorem zkill_at {L : List (Option Value)} {i j : Nat} {v : Value} (h : (zkill L i)[j]? = some (some v)) : L[j]? = some (some v) ∧ ¬ (j + 1 = i ∧ v.category = 2) := by
  cases i with
  | zero => exact ⟨h, fun q => by omega⟩
  | succ i =>
    simp only [zkill] at h
    split at h
    · rename_i w hw
      split at h
      · by_cases e : i = j
        · subst e
          simp [List.getElem?_set] at h
        · rw [List.getElem?_set_ne e] at h
          exact ⟨h, fun q => e (by omega)⟩
      · rename_i h2
        refine ⟨h, fun q => ?_⟩
        have e : j = i := by omega
        subst e
        rw [hw] at h
        cases h
        exact h2 q.2
    · rename_i hno
      refine ⟨h, fun q => ?_⟩
      have e : j = i := by omega
      subst e
      exact hno _ h
theorem zkill_len (L : List (Option Value)) (i : Nat) : (zkill L i).length = L.length := by
  cases i with
  | zero => rfl
  | succ i =>
    simp only [zkill]
    split
    · split
      · simp
      · rfl
    · rfl
theorem zws_get {cT : FieldType → ClassId} {ad : Nat → Nat} {σ : List zC} {k : Nat} {x : zC} (h : σ[k]? = some x) : (zws cT ad σ)[k]? = some (ad (k + 1), zcz cT ad x) := by
  simp [zws, h]
theorem zws_set {cT : FieldType → ClassId} {ad : Nat → Nat} {σ : List zC} {k : Nat} {x : zC} : (zws cT ad σ).set k (ad (k + 1), zcz cT ad x) = zws cT ad (σ.set k x) := by
  simp [zws, List.mapIdx_set]
theorem zws_app1 {cT : FieldType → ClassId} {ad : Nat → Nat} {σ : List zC} {x : zC} : zws cT ad (σ ++ [x]) = zws cT ad σ ++ [(ad (σ.length + 1), zcz cT ad x)] := by
  simp [zws, List.mapIdx_append]
theorem zv_congr {n : Nat} {ad ad' : Nat → Nat} (h : ∀ k, k ≤ n → ad' k = ad k) {v : Value} (hv : zvok n v = true) : zv ad' v = zv ad v := by
  cases v with
  | ref k => simp only [zv, h k (Nat.le_of_ble_eq_true hv)]
  | _ => rfl
theorem zmap_congr {n : Nat} {ad ad' : Nat → Nat} (h : ∀ k, k ≤ n → ad' k = ad k) {st : List Value} (hv : st.all (zvok n) = true) : st.map (zv ad') = st.map (zv ad) :=
  List.map_congr_left fun v hm => zv_congr h (List.all_eq_true.mp hv v hm)
theorem zcz_congr {n : Nat} {ad ad' : Nat → Nat} {cT : FieldType → ClassId} (h : ∀ k, k ≤ n → ad' k = ad k) {x : zC} (hv : zcok n x = true) : zcz cT ad' x = zcz cT ad x := by
  match x, hv with
  | .inl (ci, fs), hv => simp only [zcz, zmap_congr h (st := fs) hv]
  | .inr (.inl _), _ => rfl
  | .inr (.inr (.inl _)), _ => rfl
  | .inr (.inr (.inr (ty, l))), hv =>
    have hl : (fun j : Nat => (l[j]?).map ad') = (fun j : Nat => (l[j]?).map ad) := by
      funext j
      cases hj : l[j]? with
      | none => rfl
      | some k => simp only [Option.map_some, h k (Nat.le_of_ble_eq_true (List.all_eq_true.mp hv k (List.mem_of_getElem? hj)))]
    simp only [zcz, hl]
theorem zws_congr {ad ad' : Nat → Nat} {cT : FieldType → ClassId} {σ : List zC} (h : ∀ k, k ≤ σ.length → ad' k = ad k) (hv : σ.all (zcok σ.length) = true) : zws cT ad' σ = zws cT ad σ := by
  apply List.ext_getElem?
  intro k
  simp only [zws, List.getElem?_mapIdx]
  cases hk : σ[k]? with
  | none => rfl
  | some x =>
    have hlt : k < σ.length := (List.getElem?_eq_some_iff.mp hk).1
    simp only [Option.map_some]
    rw [h (k + 1) hlt, zcz_congr h (List.all_eq_true.mp hv x (List.mem_of_getElem? hk))]
theorem zv_nr {ad : Nat → Nat} {v : Value} (h : znr v = true) : zv ad v = v := by
  cases v <;> first | rfl | cases h
theorem zmap_nr {ad : Nat → Nat} {fs : List Value} (h : fs.all znr = true) : fs.map (zv ad) = fs := by
  induction fs with
  | nil => rfl
  | cons a t ih =>
    simp only [List.all_cons, Bool.and_eq_true] at h
    simp only [List.map_cons, zv_nr h.1, ih h.2]
theorem zfit_nar {ty : FieldType} {v : Value} (h : zfit ty v = true) : narrow ty v = v ∧ fits ty v = true := by
  cases ty with
  | int => cases v <;> first | exact ⟨rfl, rfl⟩ | cases h
  | long => cases v <;> first | exact ⟨rfl, rfl⟩ | cases h
  | object C => cases v <;> first | exact ⟨rfl, rfl⟩ | cases h
  | array t => cases v <;> first | exact ⟨rfl, rfl⟩ | cases h
  | boolean =>
    cases v with
    | int x =>
      have h' : (x == 0 || x == 1) = true := h
      rw [Bool.or_eq_true, beq_iff_eq, beq_iff_eq] at h'
      rcases h' with rfl | rfl
      · exact ⟨narrow_b0, rfl⟩
      · exact ⟨narrow_b1, rfl⟩
    | _ => cases h
  | char =>
    cases v with
    | int x =>
      have h' : (decide (0 ≤ x) && decide (x ≤ 65535)) = true := h
      rw [Bool.and_eq_true, decide_eq_true_eq, decide_eq_true_eq] at h'
      obtain ⟨j, hj, rfl⟩ := nI_of2 (x := x) (M := 65535) (n := 65535) (by decide +kernel) (k2_nlt h'.1) h'.2
      exact pk_charN (by omega)
    | _ => cases h
  | byte => cases h
  | short => cases h
  | float => cases h
  | double => cases h
theorem zjmp_eq {pc : Nat} {off : Int} {t : Nat} (h : zjmp pc off = some t) : (pc : Int) + off = (t : Int) := by
  unfold zjmp at h
  split at h
  · rename_i q hq
    cases h
    exact hq
  · cases h
theorem zix_in {i : Int32} {j n : Nat} (h : zix i = some j) (hj : j < n) : vp_in i n ∧ i.toNatClampNeg = j := by
  unfold zix at h
  split at h
  · cases h
  · rename_i h0
    cases h
    exact ⟨fun q => q.elim h0 (fun z => by omega), rfl⟩
theorem zcell_at {σ : List zC} {k : Nat} {x : zC} (h : zcell σ k = some x) : ∃ j, k = j + 1 ∧ σ[j]? = some x := by
  cases k with
  | zero => cases h
  | succ j => exact ⟨j, rfl, h⟩
theorem zlook_mem {α : Type} {l : List (Nat × α)} {k : Nat} {x : α} (h : zlook l k = some x) : (k, x) ∈ l := by
  induction l with
  | nil => cases h
  | cons a t ih =>
    obtain ⟨j, y⟩ := a
    simp only [zlook] at h
    split at h
    · rename_i e
      cases h
      rw [Nat.eq_of_beq_eq_true e]
      exact List.mem_cons_self
    · exact List.mem_cons_of_mem _ (ih h)
section
variable {D : va_G} {cl : List vw_C} {cT : FieldType → ClassId} {A : Nat → Prop} {H0 : Heap} {maxL : Nat} {ad0 : Nat → Nat} {n0 : Nat} {L : List (Option Value)} {σ : List zC} {nc : Nat} {ad : Nat → Nat} {H : Heap} {locs : List Loc} {ls : Array Slot}
theorem zrel.has (r : zrel D cl cT A H0 maxL ad0 n0 L σ nc ad H locs ls) : lv_has ls maxL (zlv ad L) := by
  refine ⟨r.1.1, r.1.2.1, fun q hq => ?_⟩
  obtain ⟨v, h1, h2⟩ := zlv_at hq
  rw [h2]
  exact r.1.2.2.2 _ _ h1
theorem zrel.set1 (r : zrel D cl cT A H0 maxL ad0 n0 L σ nc ad H locs ls) {i : Nat} {v : Value} (hi : i < maxL) {ls' : Array Slot} (h : lv_has ls' maxL ((i, zv ad v) :: (zlv ad L).filter (fun q => !(q.1 == i) && !(q.1 + 1 == i && q.2.category == 2)))) : zrel D cl cT A H0 maxL ad0 n0 (zset1 L i v) σ nc ad H locs ls' := by
  obtain ⟨⟨r1, r2, r3, r4⟩, r5⟩ := r
  refine ⟨⟨h.1, h.2.1, by simp [zset1, zkill_len, r3], fun j w hw => ?_⟩, r5⟩
  by_cases e : i = j
  · subst e
    rw [zset1, List.getElem?_set_self (by rw [zkill_len, r3]; exact hi)] at hw
    cases hw
    exact h.2.2 (i, zv ad v) List.mem_cons_self
  · rw [zset1, List.getElem?_set_ne e] at hw
    obtain ⟨h1, h2⟩ := zkill_at hw
    refine h.2.2 (j, zv ad w) (List.mem_cons_of_mem _ (List.mem_filter.mpr ⟨zlv_mem h1, ?_⟩))
    have e' : ¬ j = i := fun q => e q.symm
    by_cases q : j + 1 = i
    · have h3 : ¬ w.category = 2 := fun z => h2 ⟨q, z⟩
      simp [e', zv_cat, h3]
    · simp [e', q]
theorem zrel.set2 (r : zrel D cl cT A H0 maxL ad0 n0 L σ nc ad H locs ls) {i : Nat} {v : Value} (hi : i + 1 < maxL) {ls' : Array Slot} (h : lv_has ls' maxL ((i, zv ad v) :: (zlv ad L).filter (fun q => !(q.1 == i) && (!(q.1 == i + 1) && !(q.1 + 1 == i && q.2.category == 2))))) : zrel D cl cT A H0 maxL ad0 n0 (zset2 L i v) σ nc ad H locs ls' := by
  obtain ⟨⟨r1, r2, r3, r4⟩, r5⟩ := r
  refine ⟨⟨h.1, h.2.1, by simp [zset2, zkill_len, r3], fun j w hw => ?_⟩, r5⟩
  by_cases e1 : i + 1 = j
  · subst e1
    rw [zset2, List.getElem?_set_self (by rw [List.length_set, zkill_len, r3]; exact hi)] at hw
    cases hw
  · rw [zset2, List.getElem?_set_ne e1] at hw
    by_cases e : i = j
    · subst e
      rw [List.getElem?_set_self (by rw [zkill_len, r3]; omega)] at hw
      cases hw
      exact h.2.2 (i, zv ad v) List.mem_cons_self
    · rw [List.getElem?_set_ne e] at hw
      obtain ⟨h1, h2⟩ := zkill_at hw
      refine h.2.2 (j, zv ad w) (List.mem_cons_of_mem _ (List.mem_filter.mpr ⟨zlv_mem h1, ?_⟩))
      have e' : ¬ j = i := fun q => e q.symm
      have e1' : ¬ j = i + 1 := fun q => e1 q.symm
      by_cases q : j + 1 = i
      · have h3 : ¬ w.category = 2 := fun z => h2 ⟨q, z⟩
        simp [e', e1', zv_cat, h3]
      · simp [e', e1', q]
theorem zrel.put (r : zrel D cl cT A H0 maxL ad0 n0 L σ nc ad H locs ls) {k : Nat} {x : zC} {H1 : Heap} {locs1 : List Loc} (hP : va_P D cl ((zws cT ad σ).set k (ad (k + 1), zcz cT ad x)) H1) (hD : va_D A ((zws cT ad σ).set k (ad (k + 1), zcz cT ad x))) (hS : va_S A H0 H1 locs1) : zrel D cl cT A H0 maxL ad0 n0 L (σ.set k x) nc ad H1 locs1 ls := by
  rw [zws_set] at hP hD
  exact ⟨r.1, ⟨hP, hD, hS⟩, r.2.2.1, r.2.2.2.1, by simpa using r.2.2.2.2⟩
theorem zrel.push (r : zrel D cl cT A H0 maxL ad0 n0 L σ nc ad H locs ls) {τ : List zC} {st : List Value} (hc : zclosed σ.length L st σ = true) {ad' : Nat → Nat} (ha : ∀ k, k ≤ σ.length → ad' k = ad k) {H1 : Heap} {locs1 : List Loc} {d : Nat} (hP : va_P D cl (zws cT ad' (σ ++ τ)) H1) (hD : va_D A (zws cT ad' (σ ++ τ))) (hS : va_S A H0 H1 locs1) : zrel D cl cT A H0 maxL ad0 n0 L (σ ++ τ) (d + 1) ad' H1 locs1 ls ∧ st.map (zv ad') = st.map (zv ad) ∧ zws cT ad' σ = zws cT ad σ := by
  simp only [zclosed, Bool.and_eq_true] at hc
  obtain ⟨h1, h2, h3⟩ := hc
  obtain ⟨⟨r1, r2, r3, r4⟩, r5, r6, r7, r8⟩ := r
  refine ⟨⟨⟨r1, r2, r3, fun i v hv => ?_⟩, ⟨hP, hD, hS⟩, fun q => absurd q (Nat.succ_ne_zero d), fun k hk => ?_, ?_⟩, zmap_congr ha h2, zws_congr ha h3⟩
  · have hz : zvok σ.length v = true := List.all_eq_true.mp h1 (some v) (List.mem_of_getElem? hv)
    rw [zv_congr ha hz]
    exact r4 i v hv
  · rw [ha k (Nat.le_trans hk r8)]
    exact r7 k hk
  · rw [List.length_append]
    omega
end
end ZMR
end
section
/-! An instruction of the small machine is the machine's. -/
section ZMI
theorem zp2i_eq {st : List Value} {x y : Int32} {r : List Value} (h : zp2i st = some (x, y, r)) : st = .int y :: .int x :: r := by
  unfold zp2i at h
  split at h
  · cases h
    rfl
  · cases h
theorem zp1i_eq {st : List Value} {x : Int32} {r : List Value} (h : zp1i st = some (x, r)) : st = .int x :: r := by
  unfold zp1i at h
  split at h
  · cases h
    rfl
  · cases h
theorem zp2l_eq {st : List Value} {x y : Int64} {r : List Value} (h : zp2l st = some (x, y, r)) : st = .long y :: .long x :: r := by
  unfold zp2l at h
  split at h
  · cases h
    rfl
  · cases h
theorem zp1l_eq {st : List Value} {x : Int64} {r : List Value} (h : zp1l st = some (x, r)) : st = .long x :: r := by
  unfold zp1l at h
  split at h
  · cases h
    rfl
  · cases h
theorem zp1r_eq {st : List Value} {x : Nat} {r : List Value} (h : zp1r st = some (x, r)) : st = .ref x :: r := by
  unfold zp1r at h
  split at h
  · cases h
    rfl
  · cases h
theorem zpir_eq {st : List Value} {i : Int32} {k : Nat} {r : List Value} (h : zpir st = some (i, k, r)) : st = .int i :: .ref k :: r := by
  unfold zpir at h
  split at h
  · cases h
    rfl
  · cases h
theorem zpiir_eq {st : List Value} {x i : Int32} {k : Nat} {r : List Value} (h : zpiir st = some (x, i, k, r)) : st = .int x :: .int i :: .ref k :: r := by
  unfold zpiir at h
  split at h
  · cases h
    rfl
  · cases h
theorem zplir_eq {st : List Value} {x : Int64} {i : Int32} {k : Nat} {r : List Value} (h : zplir st = some (x, i, k, r)) : st = .long x :: .int i :: .ref k :: r := by
  unfold zplir at h
  split at h
  · cases h
    rfl
  · cases h
theorem zprir_eq {st : List Value} {x : Nat} {i : Int32} {k : Nat} {r : List Value} (h : zprir st = some (x, i, k, r)) : st = .ref x :: .int i :: .ref k :: r := by
  unfold zprir at h
  split at h
  · cases h
    rfl
  · cases h
theorem zpvr_eq {st : List Value} {v : Value} {k : Nat} {r : List Value} (h : zpvr st = some (v, k, r)) : st = v :: .ref k :: r := by
  unfold zpvr at h
  split at h
  · cases h
    rfl
  · cases h
theorem zgi_eq {L : List (Option Value)} {i : Nat} {x : Int32} (h : zgi L i = some x) : L[i]? = some (some (.int x)) := by
  unfold zgi at h
  split at h
  · rename_i hq
    cases h
    exact hq
  · cases h
theorem zgl_eq {L : List (Option Value)} {i : Nat} {x : Int64} (h : zgl L i = some x) : L[i]? = some (some (.long x)) := by
  unfold zgl at h
  split at h
  · rename_i hq
    cases h
    exact hq
  · cases h
theorem zga_eq {L : List (Option Value)} {i : Nat} {x : Nat} (h : zga L i = some x) : L[i]? = some (some (.ref x)) := by
  unfold zga at h
  split at h
  · rename_i hq
    cases h
    exact hq
  · cases h
theorem zif_eq {b : Bool} {u : Unit} (h : zif b = some u) : b = true := by
  cases b with
  | true => rfl
  | false => cases h
theorem zcO_eq {σ : List zC} {k : Nat} {x : Nat × List Value} (h : zcO σ k = some x) : ∃ j, k = j + 1 ∧ σ[j]? = some (.inl x) := by
  unfold zcO at h
  split at h
  · rename_i hq
    cases h
    exact zcell_at hq
  · cases h
theorem zcI_eq {σ : List zC} {k : Nat} {x : List Int32} (h : zcI σ k = some x) : ∃ j, k = j + 1 ∧ σ[j]? = some (.inr (.inl (.int, x))) := by
  unfold zcI at h
  split at h
  · rename_i hq
    cases h
    exact zcell_at hq
  · cases h
theorem zcC_eq {σ : List zC} {k : Nat} {x : List Int32} (h : zcC σ k = some x) : ∃ j, k = j + 1 ∧ σ[j]? = some (.inr (.inl (.char, x))) := by
  unfold zcC at h
  split at h
  · rename_i hq
    cases h
    exact zcell_at hq
  · cases h
theorem zcZ_eq {σ : List zC} {k : Nat} {x : List Int32} (h : zcZ σ k = some x) : ∃ j, k = j + 1 ∧ σ[j]? = some (.inr (.inl (.boolean, x))) := by
  unfold zcZ at h
  split at h
  · rename_i hq
    cases h
    exact zcell_at hq
  · cases h
theorem zcJ_eq {σ : List zC} {k : Nat} {x : List Int64} (h : zcJ σ k = some x) : ∃ j, k = j + 1 ∧ σ[j]? = some (.inr (.inr (.inl x))) := by
  unfold zcJ at h
  split at h
  · rename_i hq
    cases h
    exact zcell_at hq
  · cases h
theorem zcR_eq {σ : List zC} {k : Nat} {b : Bool} {x : List Nat} (h : zcR σ k = some (b, x)) : ∃ j, k = j + 1 ∧ ((b = false ∧ σ[j]? = some (.inr (.inr (.inr (.int, x))))) ∨ (b = true ∧ σ[j]? = some (.inr (.inr (.inr (.long, x)))))) := by
  unfold zcR at h
  split at h
  · rename_i hq
    cases h
    obtain ⟨j, h1, h2⟩ := zcell_at hq
    exact ⟨j, h1, Or.inl ⟨rfl, h2⟩⟩
  · rename_i hq
    cases h
    obtain ⟨j, h1, h2⟩ := zcell_at hq
    exact ⟨j, h1, Or.inr ⟨rfl, h2⟩⟩
  · cases h
theorem zgetD {α : Type} {l : List α} {j : Nat} {x d : α} (h : l[j]? = some x) : x = l.getD j d := by
  rw [List.getD_eq_getElem?_getD, h]; rfl
theorem z_upd {l : List Int32} {j : Nat} {x : Int32} (h : j < l.length) : (fun q => (l.set j x).getD q 0) = upd (fun q => l.getD q 0) j x := by
  funext q
  simp only [upd, List.getD_eq_getElem?_getD]
  by_cases e : q = j
  · subst e
    rw [List.getElem?_set_self h, if_pos rfl]; rfl
  · rw [List.getElem?_set_ne (Ne.symm e), if_neg e]
theorem z_updL {l : List Int64} {j : Nat} {x : Int64} (h : j < l.length) : (fun q => (l.set j x).getD q 0) = vp_updL (fun q => l.getD q 0) j x := by
  funext q
  simp only [vp_updL, List.getD_eq_getElem?_getD]
  by_cases e : q = j
  · subst e
    rw [List.getElem?_set_self h, if_pos rfl]; rfl
  · rw [List.getElem?_set_ne (Ne.symm e), if_neg e]
theorem z_updR {l : List Nat} {j x : Nat} {ad : Nat → Nat} (h : j < l.length) : (fun q => ((l.set j x)[q]?).map ad) = va_up (fun q => (l[q]?).map ad) j (some (ad x)) := by
  funext q
  simp only [va_up]
  by_cases e : q = j
  · subst e
    rw [List.getElem?_set_self h, if_pos rfl]; rfl
  · rw [List.getElem?_set_ne (Ne.symm e), if_neg e]
theorem z_rep {N j : Nat} : (List.replicate N (0 : Int32)).getD j 0 = 0 := by
  rw [List.getD_eq_getElem?_getD, List.getElem?_replicate]; split <;> rfl
theorem z_repL {N j : Nat} : (List.replicate N (0 : Int64)).getD j 0 = 0 := by
  rw [List.getD_eq_getElem?_getD, List.getElem?_replicate]; split <;> rfl
/-- what a frame's method gives: the machine, its code, the tables' words, the nest's words -/
def zctx (p : Program) (s : State) (m : MethodId) (args : Array Value) (meth : Method) (c : Code) (cc : ByteArray) (maxL : Nat) (own nm : String) (Ts Ns : List Cond) (D : va_G) (cl : List vw_C) (cT : FieldType → ClassId) (A : Nat → Prop) (H0 : Heap) : Prop :=
  p.tables.exec = Jvm.exec ∧ c.code = cc ∧ c.maxLocals = maxL ∧ s.vm.findClass own = some m.cls ∧ (∀ w ∈ Ts, w.before args s = true) ∧ (∀ w ∈ Ns, va_Nw w s) ∧ zK D cl cT s ∧ (∀ q, H0.size ≤ q → A q) ∧ (nm = "<init>" → meth.name = "<init>")
def zcls (Ts : List Cond) (fty : Nat → Nat → FieldType) (cd : List (List Value)) (ci : Nat) (q : vw_C) : Prop :=
  (∀ w ∈ u_ws q.1 q.2.1 q.2.2, w ∈ Ts) ∧ (∀ k, k < q.2.2 → parseFieldDescriptor (q.2.1 k).2.2.1 = some (fty ci k)) ∧ (∀ a, a < q.2.2 → ∀ b, b < q.2.2 → a ≠ b → (q.2.1 a).2.1 ≠ (q.2.1 b).2.1) ∧
  ∀ fs, cd[ci]? = some fs → fs.length = q.2.2 ∧ fs.all znr = true ∧ ∀ j, j < q.2.2 → defaultValue (fty ci j) = vp_V fs j
def zcl (Ts : List Cond) (fty : Nat → Nat → FieldType) (cd : List (List Value)) (cl : List vw_C) : Prop := ∀ (ci : Nat) (q : vw_C), cl[ci]? = some q → zcls Ts fty cd ci q
def zscr (scr : Option (List Int32)) (s : State) (H0 : Heap) (A : Nat → Prop) (ad0 : Nat → Nat) : Prop := ∀ xs : List Int32, scr = some xs → va_X (ad0 0) xs.length (fun j => xs.getD j 0) s H0 ∧ ad0 0 < H0.size ∧ ¬ A (ad0 0)
def zfl (host own : String) (Ts Ns : List Cond) (idx : Nat) (T : u_T) (k : Nat) : Prop := Cond.fieldLink own idx (T k).1 (T k).2.1 (T k).2.2.1 ∈ Ts ∨ Cond.fieldLinkNest own idx (T k).1 (T k).2.1 (T k).2.2.1 host ∈ Ns
def zlen (ins : Jvm.ClassFile.Instr) (len : Nat) : Nat := match ins with
  | .iconst _ | .lconst _ | .iload_n _ | .lload_n _ | .aload_n _ | .istore_n _ | .lstore_n _ | .astore_n _ | .iadd | .isub | .imul | .iand | .ior | .ixor | .ishl | .ishr | .iushr | .ineg | .lmul | .lsub | .lneg | .ldiv | .lrem | .lcmp | .i2l | .l2i | .i2c | .dup | .dup2 | .iaload | .caload | .baload | .laload | .aaload | .iastore | .castore | .bastore | .lastore | .aastore | .arraylength | .ireturn | .lreturn | .return_ => 1
  | .bipush _ | .iload _ | .lload _ | .aload _ | .istore _ | .lstore _ | .astore _ | .newarray _ => 2
  | .sipush _ | .ldc_w _ | .iinc _ _ | .ifCond _ _ | .if_icmp _ _ | .goto _ | .getfield _ | .putfield _ | .new _ | .invokespecial _ | .invokevirtual _ | .invokestatic _ => 3
  | .multianewarray _ _ => 4
  | _ => len
/-- what an instruction that links asks of the words -/
def zoki (host own nm : String) (Ts Ns : List Cond) (cl : List vw_C) (fr lo : Nat) (ins : Jvm.ClassFile.Instr) (x1 x2 x3 : Nat) : Prop := match ins with
  | .getfield idx => ∃ q, cl[x1]? = some q ∧ x2 < q.2.2 ∧ zfl host own Ts Ns idx q.2.1 x2
  | .putfield idx => ∃ q, cl[x1]? = some q ∧ x2 < q.2.2 ∧ (((q.2.1 x2).2.2.2 = true ∧ nm = "<init>" ∧ (q.2.1 x2).1 = own ∧ Cond.fieldLink own idx (q.2.1 x2).1 (q.2.1 x2).2.1 (q.2.1 x2).2.2.1 ∈ Ts) ∨ ((q.2.1 x2).2.2.2 = false ∧ zfl host own Ts Ns idx q.2.1 x2))
  | .new idx => ∃ q, cl[x1]? = some q ∧ Cond.classLink own idx q.1 ∈ Ts ∧ Cond.instantiable q.1 q.2.2 ∈ Ts ∧ Cond.initialized q.1 ∈ Ts
  | .newarray t => Cond.arrayClass (newarray.typeOf t) ∈ Ts
  | .ldc_w idx => Cond.constant own idx (Int32.ofNat x1) ∈ Ts
  | .multianewarray idx _ => Cond.classLink own idx ("[" ++ (FieldType.array (match x1 with | 0 => FieldType.int | _ + 1 => FieldType.long)).toString) ∈ Ts
  | .invokespecial idx => x3 = 0 → Cond.methodLink own idx objectInit ∈ Ts ∧ Cond.instanceMethod objectInit ∈ Ts ∧ Cond.code objectInit ⟨#[0xb1]⟩ 1 none ∈ Ts ∧ 1 ≤ fr ∧ 20 ≤ lo
  | _ => True
variable {p : Program} {l : Launch} {e : Env} {R : Room} {s : State} {m : MethodId} {args : Array Value} {below : List Frame} {meth : Method} {c : Code} {Q : State → Prop} {D : va_G} {cl : List vw_C} {cT : FieldType → ClassId} {A : Nat → Prop} {H0 : Heap} {maxL : Nat} {ad0 : Nat → Nat} {n0 : Nat}
variable {cc : ByteArray} {own nm : String} {Ts Ns : List Cond} {L : List (Option Value)} {σ : List zC} {pc nc ns : Nat} {st : List Value}
theorem z_icmp (hx : p.tables.exec = Jvm.exec) (hb : c.code = cc) (cnd : Jvm.ClassFile.Cond) {x y : Int32} {off : Int} {t : Nat} (hd : decode cc pc = .ok (.if_icmp cnd off, 3)) (ht : (pc : Int) + off = (t : Int)) (k : zW p l e R s m args below meth c Q D cl cT A H0 maxL ad0 n0 (zbr cnd x y t (pc + 3), L, st, σ, nc, ns)) : zW p l e R s m args below meth c Q D cl cT A H0 maxL ad0 n0 (pc, L, .int y :: .int x :: st, σ, nc, ns) := by
  intro ad H locs ls r
  have k' : W p l e R s m args below meth c H locs nc ns Q (F0 m (zbr cnd x y t (pc + 3)) ls (st.map (zv ad))) := k ad H locs ls r
  cases cnd
  · exact lv_icmp_eq hx hb hd ht (fun h => by rw [show zbr .eq x y t (pc + 3) = t from if_pos h] at k'; exact k') (fun h => by rw [show zbr .eq x y t (pc + 3) = pc + 3 from if_neg h] at k'; exact k')
  · exact lv_icmp_ne hx hb hd ht (fun h => by rw [show zbr .ne x y t (pc + 3) = t from if_neg h] at k'; exact k') (fun h => by rw [show zbr .ne x y t (pc + 3) = pc + 3 from if_pos h] at k'; exact k')
  · exact lv_icmp_lt hx hb hd ht (fun h => by rw [show zbr .lt x y t (pc + 3) = t from if_pos h] at k'; exact k') (fun h => by rw [show zbr .lt x y t (pc + 3) = pc + 3 from if_neg h] at k'; exact k')
  · exact lv_icmp_ge hx hb hd ht (fun h => by rw [show zbr .ge x y t (pc + 3) = t from if_pos h] at k'; exact k') (fun h => by rw [show zbr .ge x y t (pc + 3) = pc + 3 from if_neg h] at k'; exact k')
  · exact lv_icmp_gt hx hb hd ht (fun h => by rw [show zbr .gt x y t (pc + 3) = t from if_pos h] at k'; exact k') (fun h => by rw [show zbr .gt x y t (pc + 3) = pc + 3 from if_neg h] at k'; exact k')
  · exact lv_icmp_le hx hb hd ht (fun h => by rw [show zbr .le x y t (pc + 3) = t from if_pos h] at k'; exact k') (fun h => by rw [show zbr .le x y t (pc + 3) = pc + 3 from if_neg h] at k'; exact k')
theorem z_ifc (hx : p.tables.exec = Jvm.exec) (hb : c.code = cc) (cnd : Jvm.ClassFile.Cond) {x : Int32} {off : Int} {t : Nat} (hd : decode cc pc = .ok (.ifCond cnd off, 3)) (ht : (pc : Int) + off = (t : Int)) (k : zW p l e R s m args below meth c Q D cl cT A H0 maxL ad0 n0 (zbr cnd x 0 t (pc + 3), L, st, σ, nc, ns)) : zW p l e R s m args below meth c Q D cl cT A H0 maxL ad0 n0 (pc, L, .int x :: st, σ, nc, ns) := by
  intro ad H locs ls r
  have k' : W p l e R s m args below meth c H locs nc ns Q (F0 m (zbr cnd x 0 t (pc + 3)) ls (st.map (zv ad))) := k ad H locs ls r
  cases cnd
  · exact lv_if_eq hx hb hd ht (fun h => by rw [show zbr .eq x 0 t (pc + 3) = t from if_pos h] at k'; exact k') (fun h => by rw [show zbr .eq x 0 t (pc + 3) = pc + 3 from if_neg h] at k'; exact k')
  · exact lv_if_ne hx hb hd ht (fun h => by rw [show zbr .ne x 0 t (pc + 3) = t from if_neg h] at k'; exact k') (fun h => by rw [show zbr .ne x 0 t (pc + 3) = pc + 3 from if_pos h] at k'; exact k')
  · exact lv_if_lt hx hb hd ht (fun h => by rw [show zbr .lt x 0 t (pc + 3) = t from if_pos h] at k'; exact k') (fun h => by rw [show zbr .lt x 0 t (pc + 3) = pc + 3 from if_neg h] at k'; exact k')
  · exact lv_if_ge hx hb hd ht (fun h => by rw [show zbr .ge x 0 t (pc + 3) = t from if_pos h] at k'; exact k') (fun h => by rw [show zbr .ge x 0 t (pc + 3) = pc + 3 from if_neg h] at k'; exact k')
  · exact lv_if_gt hx hb hd ht (fun h => by rw [show zbr .gt x 0 t (pc + 3) = t from if_pos h] at k'; exact k') (fun h => by rw [show zbr .gt x 0 t (pc + 3) = pc + 3 from if_neg h] at k'; exact k')
  · exact lv_if_le hx hb hd ht (fun h => by rw [show zbr .le x 0 t (pc + 3) = t from if_pos h] at k'; exact k') (fun h => by rw [show zbr .le x 0 t (pc + 3) = pc + 3 from if_neg h] at k'; exact k')
theorem z_get (X : zctx p s m args meth c cc maxL own nm Ts Ns D cl cT A H0) {fty : Nat → Nat → FieldType} {cd : List (List Value)} (hCl : zcl Ts fty cd cl) {host : String} {idx ci x2 k : Nat} {q : vw_C} {fs : List Value} {v : Value} (hq : cl[ci]? = some q) (h2 : x2 < q.2.2) (hl : zfl host own Ts Ns idx q.2.1 x2) (hd : decode cc pc = .ok (.getfield idx, 3)) (hσ : σ[k]? = some (.inl (ci, fs))) (hv : fs[x2]? = some v) (kk : zW p l e R s m args below meth c Q D cl cT A H0 maxL ad0 n0 (pc + 3, L, v :: st, σ, nc, ns)) : zW p l e R s m args below meth c Q D cl cT A H0 maxL ad0 n0 (pc, L, .ref (k + 1) :: st, σ, nc, ns) := by
  obtain ⟨hx, hb, hml, hown, hts, hns, hK, hA, hnm⟩ := X
  intro ad H locs ls r
  obtain ⟨C, T, N⟩ := q
  have hv' : (fs.map (zv ad))[x2]? = some (zv ad v) := by rw [List.getElem?_map, hv]; rfl
  rcases hl with hl | hl
  · exact va_get (D := D) (cl := cl) (tys := zT cT) (ws := zws cT ad σ) hx hb hts (hCl ci _ hq).1 hown hK.1 r.2.1.1 k (zws_get hσ) hq x2 h2 (hts _ hl) (fun _ h => h) hv' hd (kk ad H locs ls r)
  · exact va_getN (D := D) (cl := cl) (tys := zT cT) (ws := zws cT ad σ) hx hb hts (hCl ci _ hq).1 hown hK.1 r.2.1.1 k (zws_get hσ) hq x2 h2 (va_Nw.use rfl (hns _ hl)) (fun _ h => h) hv' hd (kk ad H locs ls r)
theorem z_put (X : zctx p s m args meth c cc maxL own nm Ts Ns D cl cT A H0) {fty : Nat → Nat → FieldType} {cd : List (List Value)} (hCl : zcl Ts fty cd cl) {host : String} {fr lo idx ci x2 x3 k : Nat} {fs : List Value} {v : Value} (hok : zoki host own nm Ts Ns cl fr lo (.putfield idx) ci x2 x3) (hd : decode cc pc = .ok (.putfield idx, 3)) (hσ : σ[k]? = some (.inl (ci, fs))) (hv : x2 < fs.length) (hf : zfit (fty ci x2) v = true) (kk : zW p l e R s m args below meth c Q D cl cT A H0 maxL ad0 n0 (pc + 3, L, st, σ.set k (.inl (ci, fs.set x2 v)), nc, ns)) : zW p l e R s m args below meth c Q D cl cT A H0 maxL ad0 n0 (pc, L, v :: .ref (k + 1) :: st, σ, nc, ns) := by
  obtain ⟨hx, hb, hml, hown, hts, hns, hK, hA, hnm⟩ := X
  intro ad H locs ls r
  have hf2 := zfit_nar hf
  have hzv : zfit (fty ci x2) (zv ad v) = true := by
    cases v with
    | ref a => cases hty : fty ci x2 <;> rw [hty] at hf <;> first | rfl | cases hf
    | _ => exact hf
  have hf3 := zfit_nar hzv
  have hlen : x2 < (fs.map (zv ad)).length := by rw [List.length_map]; exact hv
  have e1 : zcz cT ad (.inl (ci, fs.set x2 v)) = .inr (ci, (fs.map (zv ad)).set x2 (zv ad v)) := by simp only [zcz, List.map_set]
  have fin : ∀ (H1 : Heap) (locs1 : List Loc), va_P D cl ((zws cT ad σ).set k (ad (k + 1), .inr (ci, (fs.map (zv ad)).set x2 (zv ad v)))) H1 → va_D A ((zws cT ad σ).set k (ad (k + 1), .inr (ci, (fs.map (zv ad)).set x2 (zv ad v)))) → va_S A H0 H1 locs1 → W p l e R s m args below meth c H1 locs1 nc ns Q (F0 m (pc + 3) ls (st.map (zv ad))) := fun H1 locs1 hP hD hS => kk ad H1 locs1 ls (r.put (by rw [e1]; exact hP) (by rw [e1]; exact hD) hS)
  obtain ⟨⟨C, T, N⟩, hq, h2, hl⟩ := hok
  obtain ⟨c1, c2, c3, -⟩ := hCl ci _ hq
  rcases hl with ⟨hfin, g1, g2, g3⟩ | ⟨hfin, hl⟩
  · exact va_putF (D := D) (cl := cl) (tys := zT cT) (ws := zws cT ad σ) hx hb hts c1 (fty ci) c2 c3 hown hK.1 r.2.1.1 r.2.1.2.1 r.2.1.2.2 k (zws_get hσ) hq x2 h2 (hts _ g3) (fun _ h => h) hfin (hnm g1) g2 (c2 x2 h2) hf3.1 hf3.2 hlen hd fin
  · rcases hl with hl | hl
    · exact va_put (D := D) (cl := cl) (tys := zT cT) (ws := zws cT ad σ) hx hb hts c1 (fty ci) c2 c3 hown hK.1 r.2.1.1 r.2.1.2.1 r.2.1.2.2 k (zws_get hσ) hq x2 h2 (hts _ hl) (fun _ h => h) hfin (c2 x2 h2) hf3.1 hf3.2 hlen hd fin
    · exact va_putN (D := D) (cl := cl) (tys := zT cT) (ws := zws cT ad σ) hx hb hts c1 (fty ci) c2 c3 hown hK.1 r.2.1.1 r.2.1.2.1 r.2.1.2.2 k (zws_get hσ) hq x2 h2 (va_Nw.use rfl (hns _ hl)) (fun _ h => h) hfin (c2 x2 h2) hf3.1 hf3.2 hlen hd fin
theorem z_new (X : zctx p s m args meth c cc maxL own nm Ts Ns D cl cT A H0) {fty : Nat → Nat → FieldType} {cd : List (List Value)} (hCl : zcl Ts fty cd cl) {host : String} {fr lo idx ci x2 x3 : Nat} {fs : List Value} (hok : zoki host own nm Ts Ns cl fr lo (.new idx) ci x2 x3) (hd : decode cc pc = .ok (.new idx, 3)) (hcd : cd[ci]? = some fs) (hc : zclosed σ.length L st σ = true) (hr : nc + 1 ≤ R.cells ∧ ns + fs.length ≤ R.slots) (kk : zW p l e R s m args below meth c Q D cl cT A H0 maxL ad0 n0 (pc + 3, L, .ref (σ.length + 1) :: st, σ ++ [.inl (ci, fs)], nc + 1, ns + fs.length)) : zW p l e R s m args below meth c Q D cl cT A H0 maxL ad0 n0 (pc, L, st, σ, nc, ns) := by
  obtain ⟨hx, hb, hml, hown, hts, hns, hK, hA, hnm⟩ := X
  intro ad H locs ls r
  obtain ⟨⟨C, T, N⟩, hq, hok⟩ := hok
  obtain ⟨c1, c2, c3, c4⟩ := hCl ci _ hq
  obtain ⟨d1, d2, d3⟩ := c4 fs hcd
  have d1 : fs.length = N := d1
  subst d1
  refine va_new (D := D) (cl := cl) (tys := zT cT) (ws := zws cT ad σ) hx hb hts c1 (fty ci) c2 hown (hts _ hok.1) (hts _ hok.2.1) (hts _ hok.2.2) hK.1 r.2.1.1 r.2.1.2.1 r.2.1.2.2 hA hq d3 hr.1 hr.2 hd fun q H1 hP hD hS => ?_
  have ha : ∀ k, k ≤ σ.length → (fun k => if k ≤ σ.length then ad k else q) k = ad k := fun k hk => if_pos hk
  have e0 : zws cT (fun k => if k ≤ σ.length then ad k else q) (σ ++ [.inl (ci, fs)]) = zws cT ad σ ++ [(q, .inr (ci, fs))] := by
    rw [zws_app1, zws_congr ha (by simp only [zclosed, Bool.and_eq_true] at hc; exact hc.2.2)]
    simp only [zcz, zmap_nr d2]
    rw [if_neg (Nat.not_succ_le_self _)]
  obtain ⟨r1, r2, -⟩ := r.push (τ := [.inl (ci, fs)]) (d := nc) hc ha (by rw [e0]; exact hP) (by rw [e0]; exact hD) hS
  have k' := kk _ H1 locs ls r1
  simp only [List.map_cons, zv] at k'
  rw [if_neg (Nat.not_succ_le_self _), r2] at k'
  exact k'
theorem z_newa (X : zctx p s m args meth c cc maxL own nm Ts Ns D cl cT A H0) {t : Jvm.ClassFile.ArrayType} {n : Int32} {N : Nat} {x : zC} (hT : Cond.arrayClass (newarray.typeOf t) ∈ Ts) (hd : decode cc pc = .ok (.newarray t, 2)) (hn : zix n = some N) (hN : N ≤ 1000) (hx9 : znew t N = some x) (hc : zclosed σ.length L st σ = true) (hr : nc + 1 ≤ R.cells ∧ ns + N ≤ R.slots) (kk : zW p l e R s m args below meth c Q D cl cT A H0 maxL ad0 n0 (pc + 2, L, .ref (σ.length + 1) :: st, σ ++ [x], nc + 1, ns + N)) : zW p l e R s m args below meth c Q D cl cT A H0 maxL ad0 n0 (pc, L, .int n :: st, σ, nc, ns) := by
  obtain ⟨hx, hb, hml, hown, hts, hns, hK, hA, hnm⟩ := X
  intro ad H locs ls r
  have hn0 : ¬ n < 0 ∧ n.toNatClampNeg = N := by
    unfold zix at hn
    split at hn
    · cases hn
    · rename_i h0
      exact ⟨h0, Option.some.inj hn⟩
  have main : ∀ (ty : FieldType) (t0 : Nat) (a0 : vp_A), newarray.typeOf t = ty → (zT cT)[t0]? = some (cT ty, ty) → (∀ ad' : Nat → Nat, zcz cT ad' x = .inl (cT ty, a0)) → (∀ cA : ClassId, vp_cell cA a0 = arrV cA N (fun _ => defaultValue ty)) → N * componentBytes ty ≤ 536870912 → (∀ (cA : ClassId), va_RA s cA ty → va_RA s (cT ty) ty → cA = cT ty) → W p l e R s m args below meth c H locs nc ns Q (F0 m pc ls (.int n :: st.map (zv ad))) := by
    intro ty t0 a0 h1 h2 h3 h4 h5 h6
    refine va_newa (D := D) (cl := cl) (tys := zT cT) (ws := zws cT ad σ) hx hb (hts _ hT) h1 hK.1 r.2.1.1 r.2.1.2.1 r.2.1.2.2 hA h4 hn0.1 hn0.2 h5 hr.1 hr.2 hd fun q cA H1 hK2 hP hD hS => ?_
    have hcA : cA = cT ty := h6 cA (hK2.2 (zT cT).length (cA, ty) (by rw [List.getElem?_append_right (Nat.le_refl _), Nat.sub_self]; rfl)).2 (hK.1.2 t0 _ h2).2
    subst hcA
    have ha : ∀ k, k ≤ σ.length → (fun k => if k ≤ σ.length then ad k else q) k = ad k := fun k hk => if_pos hk
    have e0 : zws cT (fun k => if k ≤ σ.length then ad k else q) (σ ++ [x]) = zws cT ad σ ++ [(q, .inl (cT ty, a0))] := by
      rw [zws_app1, zws_congr ha (by simp only [zclosed, Bool.and_eq_true] at hc; exact hc.2.2), h3]
      rw [if_neg (Nat.not_succ_le_self _)]
    obtain ⟨r1, r2, -⟩ := r.push (τ := [x]) (d := nc) hc ha (by rw [e0]; exact hP) (by rw [e0]; exact hD) hS
    have k' := kk _ H1 locs ls r1
    simp only [List.map_cons, zv] at k'
    rw [if_neg (Nat.not_succ_le_self _), r2] at k'
    exact k'
  cases t with
  | int =>
    cases Option.some.inj hx9
    exact main .int 0 ((List.replicate N (0 : Int32)).length, .inl (fun j => (List.replicate N (0 : Int32)).getD j 0)) rfl rfl (fun _ => rfl) (fun cA => by rw [vp_cell_i, List.length_replicate]; congr 1; funext j; rw [z_rep]; rfl) (by show N * 4 ≤ _; omega) (fun cA h h' => Option.some.inj (h.symm.trans h'))
  | char =>
    cases Option.some.inj hx9
    exact main .char 2 ((List.replicate N (0 : Int32)).length, .inl (fun j => (List.replicate N (0 : Int32)).getD j 0)) rfl rfl (fun _ => rfl) (fun cA => by rw [vp_cell_i, List.length_replicate]; congr 1; funext j; rw [z_rep]; rfl) (by show N * 2 ≤ _; omega) (fun cA h h' => Option.some.inj (h.symm.trans h'))
  | boolean =>
    cases Option.some.inj hx9
    exact main .boolean 3 ((List.replicate N (0 : Int32)).length, .inl (fun j => (List.replicate N (0 : Int32)).getD j 0)) rfl rfl (fun _ => rfl) (fun cA => by rw [vp_cell_i, List.length_replicate]; congr 1; funext j; rw [z_rep]; rfl) (by show N * 1 ≤ _; omega) (fun cA h h' => Option.some.inj (h.symm.trans h'))
  | long =>
    cases Option.some.inj hx9
    exact main .long 1 ((List.replicate N (0 : Int64)).length, .inr (.inl (fun j => (List.replicate N (0 : Int64)).getD j 0))) rfl rfl (fun _ => rfl) (fun cA => by rw [vp_cell_l, List.length_replicate]; congr 1; funext j; rw [z_repL]; rfl) (by show N * 8 ≤ _; omega) (fun cA h h' => Option.some.inj (h.symm.trans h'))
  | _ => cases hx9
theorem z_iald (X : zctx p s m args meth c cc maxL own nm Ts Ns D cl cT A H0) {i : Int32} {k j : Nat} {l1 : List Int32} {x : Int32} (hd : decode cc pc = .ok (.iaload, 1)) (hσ : σ[k]? = some (.inr (.inl (.int, l1)))) (hi : zix i = some j) (hj : l1[j]? = some x) (kk : zW p l e R s m args below meth c Q D cl cT A H0 maxL ad0 n0 (pc + 1, L, .int x :: st, σ, nc, ns)) : zW p l e R s m args below meth c Q D cl cT A H0 maxL ad0 n0 (pc, L, .int i :: .ref (k + 1) :: st, σ, nc, ns) := by
  obtain ⟨hx, hb, hml, hown, hts, hns, hK, hA, hnm⟩ := X
  intro ad H locs ls r
  obtain ⟨h1, h2⟩ := zix_in hi (List.getElem?_eq_some_iff.mp hj).1
  subst h2
  obtain rfl : x = l1.getD i.toNatClampNeg 0 := zgetD hj
  exact va_iald (D := D) (cl := cl) (tys := zT cT) (ws := zws cT ad σ) hx hb hK.1 r.2.1.1 k 0 (zws_get hσ) rfl h1 hd (kk ad H locs ls r)
theorem z_cald (X : zctx p s m args meth c cc maxL own nm Ts Ns D cl cT A H0) {i : Int32} {k j : Nat} {l1 : List Int32} {x : Int32} (hd : decode cc pc = .ok (.caload, 1)) (hσ : σ[k]? = some (.inr (.inl (.char, l1)))) (hi : zix i = some j) (hj : l1[j]? = some x) (kk : zW p l e R s m args below meth c Q D cl cT A H0 maxL ad0 n0 (pc + 1, L, .int x :: st, σ, nc, ns)) : zW p l e R s m args below meth c Q D cl cT A H0 maxL ad0 n0 (pc, L, .int i :: .ref (k + 1) :: st, σ, nc, ns) := by
  obtain ⟨hx, hb, hml, hown, hts, hns, hK, hA, hnm⟩ := X
  intro ad H locs ls r
  obtain ⟨h1, h2⟩ := zix_in hi (List.getElem?_eq_some_iff.mp hj).1
  subst h2
  obtain rfl : x = l1.getD i.toNatClampNeg 0 := zgetD hj
  exact va_cald (D := D) (cl := cl) (tys := zT cT) (ws := zws cT ad σ) hx hb hK.1 r.2.1.1 k 2 (zws_get hσ) rfl h1 hd (kk ad H locs ls r)
theorem z_zald (X : zctx p s m args meth c cc maxL own nm Ts Ns D cl cT A H0) {i : Int32} {k j : Nat} {l1 : List Int32} {x : Int32} (hd : decode cc pc = .ok (.baload, 1)) (hσ : σ[k]? = some (.inr (.inl (.boolean, l1)))) (hi : zix i = some j) (hj : l1[j]? = some x) (kk : zW p l e R s m args below meth c Q D cl cT A H0 maxL ad0 n0 (pc + 1, L, .int x :: st, σ, nc, ns)) : zW p l e R s m args below meth c Q D cl cT A H0 maxL ad0 n0 (pc, L, .int i :: .ref (k + 1) :: st, σ, nc, ns) := by
  obtain ⟨hx, hb, hml, hown, hts, hns, hK, hA, hnm⟩ := X
  intro ad H locs ls r
  obtain ⟨h1, h2⟩ := zix_in hi (List.getElem?_eq_some_iff.mp hj).1
  subst h2
  obtain rfl : x = l1.getD i.toNatClampNeg 0 := zgetD hj
  exact va_zald (D := D) (cl := cl) (tys := zT cT) (ws := zws cT ad σ) hx hb hK.1 r.2.1.1 k 3 (zws_get hσ) rfl h1 hd (kk ad H locs ls r)
theorem z_lald (X : zctx p s m args meth c cc maxL own nm Ts Ns D cl cT A H0) {i : Int32} {k j : Nat} {l1 : List Int64} {x : Int64} (hd : decode cc pc = .ok (.laload, 1)) (hσ : σ[k]? = some (.inr (.inr (.inl l1)))) (hi : zix i = some j) (hj : l1[j]? = some x) (kk : zW p l e R s m args below meth c Q D cl cT A H0 maxL ad0 n0 (pc + 1, L, .long x :: st, σ, nc, ns)) : zW p l e R s m args below meth c Q D cl cT A H0 maxL ad0 n0 (pc, L, .int i :: .ref (k + 1) :: st, σ, nc, ns) := by
  obtain ⟨hx, hb, hml, hown, hts, hns, hK, hA, hnm⟩ := X
  intro ad H locs ls r
  obtain ⟨h1, h2⟩ := zix_in hi (List.getElem?_eq_some_iff.mp hj).1
  subst h2
  obtain rfl : x = l1.getD i.toNatClampNeg 0 := zgetD hj
  exact va_lald (D := D) (cl := cl) (tys := zT cT) (ws := zws cT ad σ) hx hb hK.1 r.2.1.1 k 1 (zws_get hσ) rfl h1 hd (kk ad H locs ls r)
theorem z_iast (X : zctx p s m args meth c cc maxL own nm Ts Ns D cl cT A H0) {i : Int32} {k j : Nat} {l1 : List Int32} {x : Int32} (hd : decode cc pc = .ok (.iastore, 1)) (hσ : σ[k]? = some (.inr (.inl (.int, l1)))) (hi : zix i = some j) (hj : j < l1.length) (kk : zW p l e R s m args below meth c Q D cl cT A H0 maxL ad0 n0 (pc + 1, L, st, σ.set k (.inr (.inl (.int, l1.set j x))), nc, ns)) : zW p l e R s m args below meth c Q D cl cT A H0 maxL ad0 n0 (pc, L, .int x :: .int i :: .ref (k + 1) :: st, σ, nc, ns) := by
  obtain ⟨hx, hb, hml, hown, hts, hns, hK, hA, hnm⟩ := X
  intro ad H locs ls r
  obtain ⟨h1, h2⟩ := zix_in hi hj
  subst h2
  have e1 : zcz cT ad (.inr (.inl (.int, l1.set i.toNatClampNeg x))) = .inl (cT .int, l1.length, .inl (upd (fun q => l1.getD q 0) i.toNatClampNeg x)) := by
    simp only [zcz, List.length_set]
    rw [z_upd hj]
  exact va_iast (D := D) (cl := cl) (tys := zT cT) (ws := zws cT ad σ) hx hb hK.1 r.2.1.1 r.2.1.2.1 r.2.1.2.2 k 0 (zws_get hσ) rfl h1 hd fun H1 locs1 hP hD hS => kk ad H1 locs1 ls (r.put (by rw [e1]; exact hP) (by rw [e1]; exact hD) hS)
theorem z_cast (X : zctx p s m args meth c cc maxL own nm Ts Ns D cl cT A H0) {i : Int32} {k j : Nat} {l1 : List Int32} {x : Int32} (hd : decode cc pc = .ok (.castore, 1)) (hσ : σ[k]? = some (.inr (.inl (.char, l1)))) (hi : zix i = some j) (hj : j < l1.length) (kk : zW p l e R s m args below meth c Q D cl cT A H0 maxL ad0 n0 (pc + 1, L, st, σ.set k (.inr (.inl (.char, l1.set j (vp_nar .char x)))), nc, ns)) : zW p l e R s m args below meth c Q D cl cT A H0 maxL ad0 n0 (pc, L, .int x :: .int i :: .ref (k + 1) :: st, σ, nc, ns) := by
  obtain ⟨hx, hb, hml, hown, hts, hns, hK, hA, hnm⟩ := X
  intro ad H locs ls r
  obtain ⟨h1, h2⟩ := zix_in hi hj
  subst h2
  have e1 : zcz cT ad (.inr (.inl (.char, l1.set i.toNatClampNeg (vp_nar .char x)))) = .inl (cT .char, l1.length, .inl (upd (fun q => l1.getD q 0) i.toNatClampNeg (vp_nar .char x))) := by
    simp only [zcz, List.length_set]
    rw [z_upd hj]
  exact va_cast (D := D) (cl := cl) (tys := zT cT) (ws := zws cT ad σ) hx hb hK.1 r.2.1.1 r.2.1.2.1 r.2.1.2.2 k 2 (zws_get hσ) rfl h1 hd fun H1 locs1 hP hD hS => kk ad H1 locs1 ls (r.put (by rw [e1]; exact hP) (by rw [e1]; exact hD) hS)
theorem z_zast (X : zctx p s m args meth c cc maxL own nm Ts Ns D cl cT A H0) {i : Int32} {k j : Nat} {l1 : List Int32} {x : Int32} (hd : decode cc pc = .ok (.bastore, 1)) (hσ : σ[k]? = some (.inr (.inl (.boolean, l1)))) (hi : zix i = some j) (hj : j < l1.length) (kk : zW p l e R s m args below meth c Q D cl cT A H0 maxL ad0 n0 (pc + 1, L, st, σ.set k (.inr (.inl (.boolean, l1.set j (vp_nar .boolean x)))), nc, ns)) : zW p l e R s m args below meth c Q D cl cT A H0 maxL ad0 n0 (pc, L, .int x :: .int i :: .ref (k + 1) :: st, σ, nc, ns) := by
  obtain ⟨hx, hb, hml, hown, hts, hns, hK, hA, hnm⟩ := X
  intro ad H locs ls r
  obtain ⟨h1, h2⟩ := zix_in hi hj
  subst h2
  have e1 : zcz cT ad (.inr (.inl (.boolean, l1.set i.toNatClampNeg (vp_nar .boolean x)))) = .inl (cT .boolean, l1.length, .inl (upd (fun q => l1.getD q 0) i.toNatClampNeg (vp_nar .boolean x))) := by
    simp only [zcz, List.length_set]
    rw [z_upd hj]
  exact va_zast (D := D) (cl := cl) (tys := zT cT) (ws := zws cT ad σ) hx hb hK.1 r.2.1.1 r.2.1.2.1 r.2.1.2.2 k 3 (zws_get hσ) rfl h1 hd fun H1 locs1 hP hD hS => kk ad H1 locs1 ls (r.put (by rw [e1]; exact hP) (by rw [e1]; exact hD) hS)
theorem z_last (X : zctx p s m args meth c cc maxL own nm Ts Ns D cl cT A H0) {i : Int32} {k j : Nat} {l1 : List Int64} {x : Int64} (hd : decode cc pc = .ok (.lastore, 1)) (hσ : σ[k]? = some (.inr (.inr (.inl l1)))) (hi : zix i = some j) (hj : j < l1.length) (kk : zW p l e R s m args below meth c Q D cl cT A H0 maxL ad0 n0 (pc + 1, L, st, σ.set k (.inr (.inr (.inl (l1.set j x)))), nc, ns)) : zW p l e R s m args below meth c Q D cl cT A H0 maxL ad0 n0 (pc, L, .long x :: .int i :: .ref (k + 1) :: st, σ, nc, ns) := by
  obtain ⟨hx, hb, hml, hown, hts, hns, hK, hA, hnm⟩ := X
  intro ad H locs ls r
  obtain ⟨h1, h2⟩ := zix_in hi hj
  subst h2
  have e1 : zcz cT ad (.inr (.inr (.inl (l1.set i.toNatClampNeg x)))) = .inl (cT .long, l1.length, .inr (.inl (vp_updL (fun q => l1.getD q 0) i.toNatClampNeg x))) := by
    simp only [zcz, List.length_set]
    rw [z_updL hj]
  exact va_last (D := D) (cl := cl) (tys := zT cT) (ws := zws cT ad σ) hx hb hK.1 r.2.1.1 r.2.1.2.1 r.2.1.2.2 k 1 (zws_get hσ) rfl h1 hd fun H1 locs1 hP hD hS => kk ad H1 locs1 ls (r.put (by rw [e1]; exact hP) (by rw [e1]; exact hD) hS)
theorem z_aald (X : zctx p s m args meth c cc maxL own nm Ts Ns D cl cT A H0) {t : FieldType} {t0 : Nat} (ht : (zT cT)[t0]? = some (cT (.array t), .array t)) {i : Int32} {k j x : Nat} {l1 : List Nat} (hd : decode cc pc = .ok (.aaload, 1)) (hσ : σ[k]? = some (.inr (.inr (.inr (t, l1))))) (hi : zix i = some j) (hj : l1[j]? = some x) (kk : zW p l e R s m args below meth c Q D cl cT A H0 maxL ad0 n0 (pc + 1, L, .ref x :: st, σ, nc, ns)) : zW p l e R s m args below meth c Q D cl cT A H0 maxL ad0 n0 (pc, L, .int i :: .ref (k + 1) :: st, σ, nc, ns) := by
  obtain ⟨hx, hb, hml, hown, hts, hns, hK, hA, hnm⟩ := X
  intro ad H locs ls r
  obtain ⟨h1, h2⟩ := zix_in hi (List.getElem?_eq_some_iff.mp hj).1
  subst h2
  have hlt : i.toNatClampNeg < l1.length := (List.getElem?_eq_some_iff.mp hj).1
  exact W.aald (v := .ref (ad x)) (ty := .array t) hx hb (r.2.1.1 k _ (zws_get hσ)) ((hK.1.2 t0 _ ht).1 l1.length (fun q => va_rf ((l1[q]?).map ad))) rfl (fun q => by cases q) (by show ¬ (i < 0 ∨ (arrV _ _ _).slots.size ≤ _); rw [arrV_size]; exact h1) (by show (arrV _ _ _).slots[_]? = _; rw [arrV_read _ _ hlt]; show some (va_rf ((l1[i.toNatClampNeg]?).map ad)) = _; rw [hj]; rfl) rfl rfl hd (kk ad H locs ls r)
theorem z_aast (X : zctx p s m args meth c cc maxL own nm Ts Ns D cl cT A H0) {i : Int32} {k j x : Nat} {l1 : List Nat} {l2 : List Int64} (hd : decode cc pc = .ok (.aastore, 1)) (hσ : σ[k]? = some (.inr (.inr (.inr (.long, l1))))) (hσ2 : σ[x]? = some (.inr (.inr (.inl l2)))) (hi : zix i = some j) (hj : j < l1.length) (kk : zW p l e R s m args below meth c Q D cl cT A H0 maxL ad0 n0 (pc + 1, L, st, σ.set k (.inr (.inr (.inr (.long, l1.set j (x + 1))))), nc, ns)) : zW p l e R s m args below meth c Q D cl cT A H0 maxL ad0 n0 (pc, L, .ref (x + 1) :: .int i :: .ref (k + 1) :: st, σ, nc, ns) := by
  obtain ⟨hx, hb, hml, hown, hts, hns, hK, hA, hnm⟩ := X
  intro ad H locs ls r
  obtain ⟨h1, h2⟩ := zix_in hi hj
  subst h2
  have h0 : ¬ i < 0 := fun q => h1 (Or.inl q)
  obtain ⟨kA, kc, co, g1, g2, g3, g4⟩ := hK.2.2
  have e1 : zcz cT ad (.inr (.inr (.inr (.long, l1.set i.toNatClampNeg (x + 1))))) = .inl (cT (.array .long), l1.length, .inr (.inr (.inr (.inr (va_up (fun q => (l1[q]?).map ad) i.toNatClampNeg (some (ad (x + 1)))))))) := by
    simp only [zcz, List.length_set]
    rw [z_updR hj]
  refine W.aast (v := ad (x + 1)) (t := .array .long) hx hb (r.2.1.1 k _ (zws_get hσ)) (fun q h => by cases h) (fun h => by cases h) g1 g2 rfl g3 ⟨h0, by show _ < (arrV _ _ _).slots.size; rw [arrV_size]; exact hj⟩ (r.2.1.1 x _ (zws_get hσ2)) (fun q h => by cases h) g3 (by show Vm.assignableAux s.vm (255 + 1) (cT .long) (cT .long) = true; rw [Vm.assignableAux, beq_self_eq_true, Bool.true_or]) rfl rfl hd fun H1 ee z oq => ?_
  refine kk ad H1 _ ls (r.put (x := .inr (.inr (.inr (.long, l1.set i.toNatClampNeg (x + 1))))) ?_ ?_ (r.2.1.2.2.put z oq (r.2.1.2.1.2 k _ (zws_get hσ))))
  · rw [e1]
    refine r.2.1.1.set r.2.1.2.1 (zws_get hσ) ?_ oq
    show H1[ad (k + 1)]? = some (vp_cell _ _)
    rw [ee]
    show some ((vp_cell (cT (.array .long)) (l1.length, .inr (.inr (.inr (.inr (fun q => (l1[q]?).map ad)))))).setSlot _ _) = _
    rw [vp_cell_q, vp_cell_q, arrV_store]
    congr 2
    funext q
    by_cases hq : q = i.toNatClampNeg
    · subst hq
      simp [updV, va_up, va_rf]
    · simp [updV, va_up, hq]
  · rw [e1]
    exact r.2.1.2.1.set (zws_get hσ)
end ZMI
/-! multianewarray of two dimensions. -/
section ZMM
def zoc (cA : ClassId) (N h i : Nat) : Cell := arrV cA N (fun j => if j < i then .ref (h + 1 + j) else .null)
def zic (co : ClassId) (K : Nat) (dv : Value) : Cell := arrV co K (fun _ => dv)
def zmk (T : State) (cA co : ClassId) (N K : Nat) (dv : Value) : Nat → State
  | 0 => T.pushCell (zoc cA N T.heap.size 0)
  | i + 1 => ((zmk T cA co N K dv i).pushCell (zic co K dv)).setCell T.heap.size (zoc cA N T.heap.size (i + 1))
theorem zoc_set (cA : ClassId) (N h i : Nat) : (zoc cA N h i).setSlot i (.ref (h + 1 + i)) = zoc cA N h (i + 1) := by
  unfold zoc
  rw [arrV_store]
  congr 1
  funext j
  simp only [updV]
  by_cases e : j = i
  · subst e
    rw [if_pos rfl, if_pos (Nat.lt_succ_self _)]
  · rw [if_neg e]
    by_cases h2 : j < i
    · rw [if_pos h2, if_pos (by omega)]
    · rw [if_neg h2, if_neg (by omega)]
theorem zoc_0 (cA : ClassId) (N h : Nat) : ({ cls := cA, slots := Array.replicate N .null, vm := .none } : Cell) = zoc cA N h 0 := by
  rw [arrV_new]
  unfold zoc
  congr 1
theorem zmk_at (T : State) (cA co : ClassId) (N K : Nat) (dv : Value) : ∀ i, (zmk T cA co N K dv i).heap.size = T.heap.size + 1 + i ∧ (zmk T cA co N K dv i).heap[T.heap.size]? = some (zoc cA N T.heap.size i) ∧ (zmk T cA co N K dv i).vm = T.vm ∧ (zmk T cA co N K dv i).slotsUsed = T.slotsUsed + N + i * K
  | 0 => ⟨by simp [zmk], by simp [zmk], rfl, by simp [zmk, zoc, arrV]⟩
  | i + 1 => by
    obtain ⟨a, b, d, u⟩ := zmk_at T cA co N K dv i
    have hlt : T.heap.size < (zmk T cA co N K dv i).heap.size := by omega
    have hb : ((zmk T cA co N K dv i).pushCell (zic co K dv)).heap[T.heap.size]? = some (zoc cA N T.heap.size i) := by
      rw [State.heap_pushCell_of_lt (h := hlt)]; exact b
    refine ⟨?_, ?_, by simp [zmk, d], ?_⟩
    · simp [zmk, State.setCell, a]; omega
    · exact State.heap_setCell_self hb
    · simp [zmk, u, zic, arrV, Nat.succ_mul]; omega
theorem zmk_old (T : State) (cA co : ClassId) (N K : Nat) (dv : Value) {a : Addr} (ha : a < T.heap.size) : ∀ i, (zmk T cA co N K dv i).heap[a]? = T.heap[a]?
  | 0 => State.heap_pushCell_of_lt _ _ ha
  | i + 1 => by
    have f1 := (zmk_at T cA co N K dv i).1
    have hlt : a < (zmk T cA co N K dv i).heap.size := Nat.lt_of_lt_of_le ha (by rw [f1]; omega)
    show (((zmk T cA co N K dv i).pushCell (zic co K dv)).setCell T.heap.size _).heap[a]? = _
    rw [State.heap_setCell_other (Nat.ne_of_gt ha), State.heap_pushCell_of_lt (h := hlt)]
    exact zmk_old T cA co N K dv ha i
theorem zmk_in (T : State) (cA co : ClassId) (N K : Nat) (dv : Value) : ∀ i j, j < i → (zmk T cA co N K dv i).heap[T.heap.size + 1 + j]? = some (zic co K dv)
  | 0, _, h => absurd h (Nat.not_lt_zero _)
  | i + 1, j, h => by
    have f1 := (zmk_at T cA co N K dv i).1
    show (((zmk T cA co N K dv i).pushCell (zic co K dv)).setCell T.heap.size _).heap[T.heap.size + 1 + j]? = _
    rw [State.heap_setCell_other (show T.heap.size ≠ T.heap.size + 1 + j by omega)]
    rcases Nat.lt_or_ge j i with hj | hj
    · have hl9 : T.heap.size + 1 + j < (zmk T cA co N K dv i).heap.size := by rw [f1]; omega
      rw [State.heap_pushCell_of_lt (h := hl9)]
      exact zmk_in T cA co N K dv i j hj
    · have e : j = i := by omega
      subst e
      rw [← f1]
      exact State.heap_pushCell_size _ _
theorem zmk_top (T : State) (f : JFrame) (cA co : ClassId) (N K : Nat) (dv : Value) : ∀ i, zmk (T.setTop f) cA co N K dv i = (zmk T cA co N K dv i).setTop f
  | 0 => rfl
  | i + 1 => by simp only [zmk, zmk_top T f cA co N K dv i, State.heap_setTop, State.pushCell_setTop, State.setCell_setTop]
section
variable {E : CtlPost} {e : Env} {d : Bool} {acts : List Action} {s : State}
theorem zwp_new {c0 co : ClassId} {k : Class} {ty : FieldType} {len : Nat} {v : Value} (hk : s.vm.classes[c0]? = some k) (hkind : k.kind = .array co ty) (h3 : ¬ len > e.platform.arrayLengthLimit) (h4 : ¬ len * componentBytes ty > e.platform.maxHeapBytes) (hf : fits ty v = true) (hv : v.isDefault = true) {Q9 : Addr → Pre} (h1 : s.heap.size < e.platform.maxCells) (h2 : s.slotsUsed + len ≤ e.platform.maxSlots) (hq : Q9 s.heap.size d acts (s.pushCell (arrV c0 len (fun _ => v)))) : wp (Jvm.newArray c0 len v) Q9 E e d acts s := by
  have hfs : ∀ i w, (Array.replicate len v)[i]? = some w → s.fitsSlot c0 .none i w = true := by
    intro i w hw
    rw [Array.getElem?_replicate] at hw
    split at hw
    · cases hw
      simp [State.fitsSlot, State.slotType?, hk, hkind, hf]
    · cases hw
  have ha : allocActs (Array.replicate len v) s.heap.size acts = acts := by
    have h9 : ((Array.replicate len v).all (·.isDefault)) = true := by
      rw [Array.all_replicate]
      split <;> simp [hv]
    unfold allocActs
    rw [if_pos h9]
  rw [← arrV_new] at hq
  simp only [Jvm.newArray, Jvm.arrayFits, wp_bind', W.ask, W.ite, h3, if_false, wp_pure', W.theClass, hk, hkind, h4, W.alloc, W.stop, Option.some.injEq, exists_eq_left', Array.size_replicate, ha]
  rw [if_neg (by omega)]
  exact ⟨h1, h2, hfs, hq⟩
theorem zwp_row {co cx : ClassId} {kc : Class} {t : FieldType} {k9 : Int32} (hkc : s.vm.classes[co]? = some kc) (hkc2 : kc.kind = .array cx t) (hk : ¬ k9 < 0) (h3 : ¬ k9.toNatClampNeg > e.platform.arrayLengthLimit) (h4 : ¬ k9.toNatClampNeg * componentBytes t > e.platform.maxHeapBytes) (hf : fits t (defaultValue t) = true) (hv : (defaultValue t).isDefault = true) (h1 : s.heap.size < e.platform.maxCells) (h2 : s.slotsUsed + k9.toNatClampNeg ≤ e.platform.maxSlots) {Q9 : Addr → Pre} (hq : Q9 s.heap.size d acts (s.pushCell (zic co k9.toNatClampNeg (defaultValue t)))) : wp (Op.multianewarray.make co [k9]) Q9 E e d acts s := by
  rw [Op.multianewarray.make]
  simp only [wp_bind', W.ite, hk, if_false, wp_pure', W.theClass, hkc, hkc2, Option.some.injEq, exists_eq_left']
  exact zwp_new hkc hkc2 h3 h4 hf hv h1 h2 hq
theorem zref_fits {t : FieldType} (v : Value) (hv : v = .null ∨ ∃ a, v = .ref a) : fits (.array t) v = true := by
  rcases hv with rfl | ⟨a, rfl⟩ <;> rfl
theorem zwp_grid {cA co cx : ClassId} {kA kc : Class} {t : FieldType} {n k9 : Int32} (hkA : s.vm.classes[cA]? = some kA) (hkA2 : kA.kind = .array co (.array t)) (hkc : s.vm.classes[co]? = some kc) (hkc2 : kc.kind = .array cx t) (hn : ¬ n < 0) (hk : ¬ k9 < 0) (h3 : ¬ n.toNatClampNeg > e.platform.arrayLengthLimit) (h4 : ¬ n.toNatClampNeg * componentBytes (.array t) > e.platform.maxHeapBytes) (h5 : ¬ k9.toNatClampNeg > e.platform.arrayLengthLimit) (h6 : ¬ k9.toNatClampNeg * componentBytes t > e.platform.maxHeapBytes) (hf : fits t (defaultValue t) = true) (hv : (defaultValue t).isDefault = true) (hc : s.heap.size + 1 + n.toNatClampNeg ≤ e.platform.maxCells) (hs : s.slotsUsed + n.toNatClampNeg + n.toNatClampNeg * k9.toNatClampNeg ≤ e.platform.maxSlots) {Q9 : Addr → Pre} (hq : ∀ d' acts', Q9 s.heap.size d' acts' (zmk s cA co n.toNatClampNeg k9.toNatClampNeg (defaultValue t) n.toNatClampNeg)) : wp (Op.multianewarray.make cA [n, k9]) Q9 E e d acts s := by
  have hfind : ([k9].find? (· < 0)) = none := by simp [hk]
  rw [Op.multianewarray.make]
  simp only [wp_bind', W.ite, hn, if_false, wp_pure', W.theClass, hkA, hkA2, Option.some.injEq, exists_eq_left']
  refine zwp_new hkA hkA2 h3 h4 (zref_fits _ (Or.inl rfl)) rfl (by omega) (by have := Nat.zero_le (n.toNatClampNeg * k9.toNatClampNeg); omega) ?_
  simp only [hfind]
  rw [ite_self, wp_bind', Std.Legacy.Range.forIn_eq_forIn_range']
  have hsz : ([:n.toNatClampNeg] : Std.Legacy.Range).size = n.toNatClampNeg := by simp [Std.Legacy.Range.size]
  rw [hsz]
  show wp (forIn (List.range' 0 n.toNatClampNeg 1) PUnit.unit _) _ E e d acts _
  refine wp_forIn_inv (fun rest s' => ∃ i, i ≤ n.toNatClampNeg ∧ rest = List.range' i (n.toNatClampNeg - i) ∧ s' = zmk s cA co n.toNatClampNeg k9.toNatClampNeg (defaultValue t) i) _ _ ⟨0, Nat.zero_le _, rfl, rfl⟩ ?_ ?_
  · rintro x rest s' d' acts' Q' ⟨i, hi, hl, rfl⟩ hnext
    have hlt : i < n.toNatClampNeg := by
      rcases Nat.lt_or_ge i n.toNatClampNeg with h | h
      · exact h
      · rw [show n.toNatClampNeg - i = 0 by omega] at hl
        simp at hl
    rw [show n.toNatClampNeg - i = (n.toNatClampNeg - (i + 1)) + 1 by omega, List.range'_succ] at hl
    obtain ⟨rfl, hrest⟩ := List.cons.inj hl
    obtain ⟨f1, f2, f3, f4⟩ := zmk_at s cA co n.toNatClampNeg k9.toNatClampNeg (defaultValue t) x
    have hmul : x * k9.toNatClampNeg + k9.toNatClampNeg ≤ n.toNatClampNeg * k9.toNatClampNeg := by
      have h9 := Nat.mul_le_mul_right k9.toNatClampNeg (show x + 1 ≤ n.toNatClampNeg from hlt)
      rw [Nat.succ_mul] at h9
      exact h9
    simp only [wp_bind']
    refine zwp_row (by rw [f3]; exact hkc) hkc2 hk h5 h6 hf hv (by rw [f1]; omega) (by rw [f4]; omega) ?_
    have hlt0 : s.heap.size < (zmk s cA co n.toNatClampNeg k9.toNatClampNeg (defaultValue t) x).heap.size := by rw [f1]; omega
    simp only [wp_bind', W.writeLoc, wp_pure']
    refine ⟨zoc cA n.toNatClampNeg s.heap.size x, by rw [State.heap_pushCell_of_lt (h := hlt0)]; exact f2, by simp [zoc, arrV], by rw [zoc, arrV_size]; exact hlt, ?_, hnext _ _ _ ⟨x + 1, hlt, hrest, ?_⟩⟩
    · show State.fitsSlot _ cA .none _ _ = true
      simp [State.fitsSlot, State.slotType?, f3, hkA, hkA2, zref_fits _ (Or.inr ⟨_, rfl⟩)]
    · rw [f1, zoc_set]; rfl
  · rintro s' d' acts' ⟨i, hi, hl, rfl⟩
    have hiN : i = n.toNatClampNeg := by
      rcases Nat.lt_or_ge i n.toNatClampNeg with h | h
      · rw [show n.toNatClampNeg - i = (n.toNatClampNeg - (i + 1)) + 1 by omega, List.range'_succ] at hl
        cases hl
      · omega
    subst hiN
    simp only [wp_pure']
    exact hq _ _
end
section
variable {p : Program} {l : Launch} {e : Env} {R : Room} {s : State} {m : MethodId} {args : Array Value} {below : List Frame} {meth : Method} {c : Code} {T : State} {locs : List Loc} {cells slots : Nat}
theorem zst_grid (X : Stand p l e R s m args below meth c T locs cells slots) (cA co : ClassId) (N K : Nat) (dv : Value) : ∀ i, Stand p l e R s m args below meth c (zmk T cA co N K dv i) (locs ++ (List.range i).map fun j => ⟨T.heap.size, j⟩) (cells + 1 + i) (slots + N + i * K)
  | 0 => by
    have h := X.pushed (zoc cA N T.heap.size 0)
    rw [zoc, arrV_size] at h
    simpa [zmk, zoc] using h
  | i + 1 => by
    have Xi := zst_grid X cA co N K dv i
    obtain ⟨f1, f2, f3, f4⟩ := zmk_at T cA co N K dv i
    have hlt0 : T.heap.size < (zmk T cA co N K dv i).heap.size := by rw [f1]; omega
    have hcell : ((zmk T cA co N K dv i).pushCell (zic co K dv)).heap[T.heap.size]? = some (zoc cA N T.heap.size i) := by
      rw [State.heap_pushCell_of_lt (h := hlt0)]; exact f2
    have h := (Xi.pushed (zic co K dv)).stored hcell i (.ref (T.heap.size + 1 + i))
    rw [zoc_set, show (zic co K dv).slots.size = K from arrV_size _ _ _] at h
    have e2 : (locs ++ (List.range (i + 1)).map fun j => (⟨T.heap.size, j⟩ : Loc)) = (locs ++ (List.range i).map fun j => (⟨T.heap.size, j⟩ : Loc)) ++ [⟨T.heap.size, i⟩] := by simp [List.range_succ, List.append_assoc]
    have e3 : slots + N + (i + 1) * K = slots + N + i * K + K := by rw [Nat.succ_mul]; omega
    rw [e2, e3]
    exact h
theorem zW_grid {H : Heap} {Q : State → Prop} {cc : ByteArray} {pc : Nat} {ls : Array Slot} {rest : List Value} (hexec : p.tables.exec = Jvm.exec) (hb : c.code = cc) {own : String} {index : Nat} {t : FieldType} {cA co cx : ClassId} {kA kc : Class} (hown : s.vm.findClass own = some m.cls) (hlink : (Cond.classLink own index ("[" ++ (FieldType.array t).toString)).before args s = true) (hfA : s.vm.findClass ("[" ++ (FieldType.array t).toString) = some cA) (hkA : s.vm.classes[cA]? = some kA) (hkA2 : kA.kind = .array co (.array t)) (hkc : s.vm.classes[co]? = some kc) (hkc2 : kc.kind = .array cx t) {n k9 : Int32} {N K : Nat} (hn : ¬ n < 0) (hk : ¬ k9 < 0) (hN : n.toNatClampNeg = N) (hK : k9.toNatClampNeg = K) (hb1 : N * 4 ≤ 536870912) (hb2 : K * componentBytes t ≤ 536870912) (hb3 : K ≤ 536870912) (hf : fits t (defaultValue t) = true) (hv : (defaultValue t).isDefault = true) (hcells : cells + (1 + N) ≤ R.cells) (hslots : slots + (N + N * K) ≤ R.slots) (hd : decode cc pc = .ok (.multianewarray index 2, 4))
    (kk : ∀ H1 : Heap, H1.size = H.size + 1 + N → (∀ q, q < H.size → H1[q]? = H[q]?) → H1[H.size]? = some (zoc cA N H.size N) → (∀ j, j < N → H1[H.size + 1 + j]? = some (zic co K (defaultValue t))) → W p l e R s m args below meth c H1 (locs ++ (List.range N).map fun j => ⟨H.size, j⟩) (cells + 1 + N) (slots + N + N * K) Q (F0 m (pc + 4) ls (.ref H.size :: rest))) : W p l e R s m args below meth c H locs cells slots Q (F0 m pc ls (.int k9 :: .int n :: rest)) := by
  subst hN
  subst hK
  intro T hT X
  subst hT
  subst hb
  have hpl : e.platform.magicAccessors = ({} : Platform).magicAccessors := by rw [X.admits.platform]
  obtain ⟨c0, hfc0, hcl⟩ := Cond.classLink_spec hown hlink e.platform hpl
  cases hfA.symm.trans hfc0
  obtain ⟨hg₁, hwarm₁, hready₁⟩ := State.classEntry (e := e) X.warmed hcl
  generalize T.vm.noted m.cls index (.cls cA) = vm₁ at hg₁ hwarm₁ hready₁
  have hal : s.vm.Alike vm₁ := hwarm₁.alike
  obtain ⟨kA₁, hkA₁, heA⟩ := hal.2.2 _ _ hkA
  obtain ⟨kc₁, hkc₁, hec⟩ := hal.2.2 _ _ hkc
  have hA2 : kA₁.kind = .array co (.array t) := by rw [heA]; exact hkA2
  have hc2 : kc₁.kind = .array cx t := by rw [hec]; exact hkc2
  have X₁ := X.noted hwarm₁
  obtain ⟨hr1, hr2⟩ := X.roomAbove hcells hslots
  obtain ⟨f1, f2, f3, f4⟩ := zmk_at (T.setVm vm₁) cA co n.toNatClampNeg k9.toNatClampNeg (defaultValue t) n.toNatClampNeg
  have XF := zst_grid X₁ cA co n.toNatClampNeg k9.toNatClampNeg (defaultValue t) n.toNatClampNeg
  obtain ⟨tt, a1, b1⟩ := kk _ f1 (fun q hq => zmk_old (T.setVm vm₁) cA co _ _ _ hq _) f2 (fun j hj => zmk_in (T.setVm vm₁) cA co _ _ _ _ j hj) _ rfl XF
  refine ⟨tt, ?_, b1⟩
  have hl1 : ¬ n.toNatClampNeg > e.platform.arrayLengthLimit := by rw [Launch.admits_arrayLengthLimit X.admits]; omega
  have hh1 : ¬ n.toNatClampNeg * componentBytes (.array t) > e.platform.maxHeapBytes := by
    rw [Launch.admits_maxHeapBytes X.admits]; show ¬ n.toNatClampNeg * 4 > 536870912; omega
  have hl2 : ¬ k9.toNatClampNeg > e.platform.arrayLengthLimit := by rw [Launch.admits_arrayLengthLimit X.admits]; omega
  have hh2 : ¬ k9.toNatClampNeg * componentBytes t > e.platform.maxHeapBytes := by rw [Launch.admits_maxHeapBytes X.admits]; omega
  jvm_step X.here [hexec, hd]
  simp only [Op.multianewarray.sem, wp_bind', W.resolveClassAt_links (State.method?_setTop (F0 m pc ls (.int k9 :: .int n :: rest)) X.here.top) hg₁]
  rw [W.popN, if_neg (by decide)]
  refine ⟨F0 m pc ls (.int k9 :: .int n :: rest), State.topJava?_setTop' (s := T.setVm vm₁) _ X.here.top, [.int n, .int k9], rest, rfl, rfl, ?_⟩
  simp only [List.mapM_cons, List.mapM_nil, wp_bind', wp_pure']
  refine zwp_grid (kA := kA₁) (kc := kc₁) (co := co) (cx := cx) (t := t) hkA₁ hA2 hkc₁ hc2 hn hk hl1 hh1 hl2 hh2 hf hv (by show T.heap.size + 1 + _ ≤ _; omega) (by show T.slotsUsed + _ + _ ≤ _; omega) (fun d' acts' => ?_)
  have eS : ((T.setTop (F0 m pc ls (.int k9 :: .int n :: rest))).setVm vm₁).setTop { F0 m pc ls (.int k9 :: .int n :: rest) with stack := rest } = (T.setVm vm₁).setTop { F0 m pc ls (.int k9 :: .int n :: rest) with stack := rest } := by
    show ((T.setVm vm₁).setTop _).setTop _ = _
    rw [State.setTop_setTop]
  rw [eS, zmk_top]
  simp only [wp_bind', W.mark, W.pushRef, State.topJava?_setTop' _ XF.here.top, Option.some.injEq, exists_eq_left', State.setTop_setTop, State.heap_setTop]
  intro acts
  simp [jvm, XF.here.top]
  exact a1
end
end ZMM
section ZMN
variable {p : Program} {l : Launch} {e : Env} {R : Room} {s : State} {m : MethodId} {args : Array Value} {below : List Frame} {meth : Method} {c : Code} {Q : State → Prop} {D : va_G} {cl : List vw_C} {cT : FieldType → ClassId} {A : Nat → Prop} {H0 : Heap} {maxL : Nat} {ad0 : Nat → Nat} {n0 : Nat}
variable {cc : ByteArray} {own nm : String} {Ts Ns : List Cond} {L : List (Option Value)} {σ : List zC} {pc nc ns : Nat} {st : List Value}
theorem z_multiT (X : zctx p s m args meth c cc maxL own nm Ts Ns D cl cT A H0) {K : Nat} {t : FieldType} {t0 : Nat} (ht : (zT cT)[t0]? = some (cT (.array t), .array t)) (hG : zG cT t s) {y : zC} (hy : ∀ ad' : Nat → Nat, ∃ a0 : vp_A, zcz cT ad' y = .inl (cT t, a0) ∧ vp_cell (cT t) a0 = zic (cT t) K (defaultValue t)) (hf : fits t (defaultValue t) = true) (hv : (defaultValue t).isDefault = true) (hb2 : K * componentBytes t ≤ 536870912) {idx N : Nat} {n k9 : Int32} (hT : Cond.classLink own idx ("[" ++ (FieldType.array t).toString) ∈ Ts) (hd : decode cc pc = .ok (.multianewarray idx 2, 4)) (hn : zix n = some N) (hk : zix k9 = some K) (hN : N ≤ 1000) (hK9 : K ≤ 1000) (hc : zclosed σ.length L st σ = true) (hr : nc + N + 1 ≤ R.cells ∧ ns + (N + N * K) ≤ R.slots) (kk : zW p l e R s m args below meth c Q D cl cT A H0 maxL ad0 n0 (pc + 4, L, .ref (σ.length + 1) :: st, σ ++ (.inr (.inr (.inr (t, (List.range N).map (fun j => σ.length + 2 + j)))) :: List.replicate N y), nc + N + 1, ns + (N + N * K))) : zW p l e R s m args below meth c Q D cl cT A H0 maxL ad0 n0 (pc, L, .int k9 :: .int n :: st, σ, nc, ns) := by
  obtain ⟨hx, hb, hml, hown, hts, hns, hK, hA, hnm⟩ := X
  intro ad H locs ls r
  have hn0 : ¬ n < 0 ∧ n.toNatClampNeg = N := by
    unfold zix at hn
    split at hn
    · cases hn
    · rename_i h0
      exact ⟨h0, Option.some.inj hn⟩
  have hk0 : ¬ k9 < 0 ∧ k9.toNatClampNeg = K := by
    unfold zix at hk
    split at hk
    · cases hk
    · rename_i h0
      exact ⟨h0, Option.some.inj hk⟩
  obtain ⟨kA, kc, co, g1, g2, g3, g4⟩ := hG
  have hfA : s.vm.findClass ("[" ++ (FieldType.array t).toString) = some (cT (.array t)) := (hK.1.2 t0 _ ht).2
  obtain ⟨hP, hD, hS⟩ := id r.2.1
  refine zW_grid hx hb hown (hts _ hT) hfA g1 g2 g3 g4 hn0.1 hk0.1 hn0.2 hk0.2 (by omega) hb2 (by omega) hf hv (by show nc + (1 + N) ≤ R.cells; omega) hr.2 hd fun H1 z1 o1 e1 i1 => ?_
  let ad' : Nat → Nat := fun k => if k ≤ σ.length then ad k else H.size + (k - (σ.length + 1))
  have ha : ∀ k, k ≤ σ.length → ad' k = ad k := fun k hk => if_pos hk
  have hb9 : ∀ j, ad' (σ.length + 1 + j) = H.size + j := fun j => by
    show (if _ then _ else _) = _
    rw [if_neg (by omega)]
    omega
  have hcl3 : σ.all (zcok σ.length) = true := by simp only [zclosed, Bool.and_eq_true] at hc; exact hc.2.2
  have hτ : ∀ (k : Nat) (x : zC), (σ ++ (.inr (.inr (.inr (t, (List.range N).map (fun j => σ.length + 2 + j)))) :: List.replicate N y))[k]? = some x → (k < σ.length ∧ σ[k]? = some x) ∨ (k = σ.length ∧ x = .inr (.inr (.inr (t, (List.range N).map (fun j => σ.length + 2 + j))))) ∨ ∃ j, j < N ∧ k = σ.length + 1 + j ∧ x = y := by
    intro k x hx9
    rcases Nat.lt_or_ge k σ.length with h9 | h9
    · rw [List.getElem?_append_left h9] at hx9
      exact Or.inl ⟨h9, hx9⟩
    · rw [List.getElem?_append_right h9] at hx9
      obtain ⟨j, rfl⟩ : ∃ j, k = σ.length + j := ⟨k - σ.length, by omega⟩
      rw [Nat.add_sub_cancel_left] at hx9
      cases j with
      | zero =>
        rw [List.getElem?_cons_zero] at hx9
        exact Or.inr (Or.inl ⟨rfl, (Option.some.inj hx9).symm⟩)
      | succ j =>
        rw [List.getElem?_cons_succ, List.getElem?_replicate] at hx9
        split at hx9
        · rename_i hj
          exact Or.inr (Or.inr ⟨j, hj, by omega, (Option.some.inj hx9).symm⟩)
        · cases hx9
  have hPn : va_P D cl (zws cT ad' (σ ++ (.inr (.inr (.inr (t, (List.range N).map (fun j => σ.length + 2 + j)))) :: List.replicate N y))) H1 := by
    intro k q hq
    simp only [zws, List.getElem?_mapIdx, Option.map_eq_some_iff] at hq
    obtain ⟨x, hx1, rfl⟩ := hq
    rcases hτ k x hx1 with ⟨h1, h2⟩ | ⟨rfl, rfl⟩ | ⟨j, hj, rfl, rfl⟩
    · have h3 := hP k _ (zws_get h2)
      rw [ha (k + 1) h1, zcz_congr ha (List.all_eq_true.mp hcl3 x (List.mem_of_getElem? h2))]
      exact h3.kept (o1 _ h3.lt)
    · show H1[ad' (σ.length + 1)]? = some (vp_cell _ _)
      rw [show ad' (σ.length + 1) = H.size from hb9 0, e1, vp_cell_q]
      simp only [List.length_map, List.length_range]
      unfold zoc
      congr 2
      funext j
      by_cases hj : j < N
      · rw [if_pos hj, List.getElem?_map, List.getElem?_range hj]
        show Value.ref _ = Value.ref (ad' (σ.length + 2 + j))
        rw [show σ.length + 2 + j = σ.length + 1 + (1 + j) by omega, hb9]
        exact congrArg Value.ref (Nat.add_assoc _ _ _)
      · rw [if_neg hj, List.getElem?_map, List.getElem?_eq_none (by simp; omega)]
        rfl
    · obtain ⟨a0, y1, y2⟩ := hy ad'
      rw [y1]
      show H1[ad' (σ.length + 1 + j + 1)]? = some (vp_cell _ _)
      rw [y2, show σ.length + 1 + j + 1 = σ.length + 1 + (1 + j) by omega, hb9, show H.size + (1 + j) = H.size + 1 + j by omega]
      exact i1 j hj
  have hDn : va_D A (zws cT ad' (σ ++ (.inr (.inr (.inr (t, (List.range N).map (fun j => σ.length + 2 + j)))) :: List.replicate N y))) := by
    have addr : ∀ (k : Nat) (q : Nat × va_E), (zws cT ad' (σ ++ (.inr (.inr (.inr (t, (List.range N).map (fun j => σ.length + 2 + j)))) :: List.replicate N y)))[k]? = some q → (k < σ.length ∧ (∃ x, σ[k]? = some x) ∧ q.1 = ad (k + 1) ∧ q.1 < H.size ∧ A q.1) ∨ (σ.length ≤ k ∧ q.1 = H.size + (k - σ.length)) := by
      intro k q hq
      simp only [zws, List.getElem?_mapIdx, Option.map_eq_some_iff] at hq
      obtain ⟨x, hx1, rfl⟩ := hq
      rcases hτ k x hx1 with ⟨h1, h2⟩ | ⟨rfl, rfl⟩ | ⟨j, hj, rfl, rfl⟩
      · exact Or.inl ⟨h1, ⟨x, h2⟩, ha (k + 1) h1, by rw [ha (k + 1) h1]; exact (hP k _ (zws_get h2)).lt, by rw [ha (k + 1) h1]; exact hD.2 k (ad (k + 1), zcz cT ad x) (zws_get h2)⟩
      · exact Or.inr ⟨Nat.le_refl _, by show ad' (σ.length + 1) = _; rw [show ad' (σ.length + 1) = H.size from hb9 0, Nat.sub_self]; rfl⟩
      · exact Or.inr ⟨by omega, by show ad' (σ.length + 1 + j + 1) = _; rw [show σ.length + 1 + j + 1 = σ.length + 1 + (1 + j) by omega, hb9]; omega⟩
    refine ⟨fun i j x1 x2 hi hj hxy => ?_, fun k q hq => ?_⟩
    · rcases addr i x1 hi with ⟨a1, ⟨w1, a2⟩, a3, a4, -⟩ | ⟨a1, a2⟩ <;> rcases addr j x2 hj with ⟨b1, ⟨w2, b2⟩, b3, b4, -⟩ | ⟨b1, b2⟩
      · exact hD.1 i j _ _ (zws_get a2) (zws_get b2) (by show ad (i + 1) = ad (j + 1); rw [← a3, ← b3]; exact hxy)
      · omega
      · omega
      · omega
    · rcases addr k q hq with ⟨-, -, -, -, h9⟩ | ⟨h9, h8⟩
      · exact h9
      · rw [h8]
        exact hA _ (Nat.le_trans hS.1 (Nat.le_add_right _ _))
  have hSn : va_S A H0 H1 (locs ++ (List.range N).map fun j => ⟨H.size, j⟩) := by
    refine ⟨Nat.le_trans hS.1 (by omega), fun q h1 h2 => (o1 q (Nat.lt_of_lt_of_le h1 hS.1)).trans (hS.2.1 q h1 h2), fun q hq => ?_⟩
    rcases List.mem_append.mp hq with h9 | h9
    · exact hS.2.2 q h9
    · obtain ⟨j, -, rfl⟩ := List.mem_map.mp h9
      exact hA _ hS.1
  obtain ⟨r1, r2, -⟩ := r.push (d := nc + N) hc ha hPn hDn hSn
  have k' := kk ad' H1 _ ls r1
  simp only [List.map_cons, zv] at k'
  rw [r2, show ad' (σ.length + 1) = H.size from hb9 0] at k'
  have e5 : nc + N + 1 = nc + 1 + N := by omega
  have e6 : ns + (N + N * K) = ns + N + N * K := by omega
  rw [e5, e6] at k'
  exact k'
theorem z_multi (X : zctx p s m args meth c cc maxL own nm Ts Ns D cl cT A H0) {idx x1 N K : Nat} {n k9 : Int32} (hT : Cond.classLink own idx ("[" ++ (FieldType.array (match x1 with | 0 => FieldType.int | _ + 1 => FieldType.long)).toString) ∈ Ts) (hd : decode cc pc = .ok (.multianewarray idx 2, 4)) (hn : zix n = some N) (hk : zix k9 = some K) (hN : N ≤ 1000) (hK9 : K ≤ 1000) (hc : zclosed σ.length L st σ = true) (hr : nc + N + 1 ≤ R.cells ∧ ns + (N + N * K) ≤ R.slots) (kk : zW p l e R s m args below meth c Q D cl cT A H0 maxL ad0 n0 (pc + 4, L, .ref (σ.length + 1) :: st, σ ++ zgrid x1 σ.length N K, nc + N + 1, ns + (N + N * K))) : zW p l e R s m args below meth c Q D cl cT A H0 maxL ad0 n0 (pc, L, .int k9 :: .int n :: st, σ, nc, ns) := by
  cases x1 with
  | zero =>
    exact z_multiT (t := .int) (t0 := 4) (y := .inr (.inl (.int, List.replicate K 0))) (K := K) X rfl X.2.2.2.2.2.2.1.2.1 (fun ad' => ⟨_, rfl, by rw [vp_cell_i, List.length_replicate]; unfold zic; congr 1; funext j; rw [z_rep]; rfl⟩) rfl rfl (by show K * 4 ≤ _; omega) hT hd hn hk hN hK9 hc hr kk
  | succ x1 =>
    exact z_multiT (t := .long) (t0 := 5) (y := .inr (.inr (.inl (List.replicate K 0)))) (K := K) X rfl X.2.2.2.2.2.2.1.2.2 (fun ad' => ⟨_, rfl, by rw [vp_cell_l, List.length_replicate]; unfold zic; congr 1; funext j; rw [z_repL]; rfl⟩) rfl rfl (by show K * 8 ≤ _; omega) hT hd hn hk hN hK9 hc hr kk
end ZMN
section ZMJ
variable {p : Program} {l : Launch} {e : Env} {R : Room} {s : State} {m : MethodId} {args : Array Value} {below : List Frame} {meth : Method} {c : Code} {Q : State → Prop} {D : va_G} {cl : List vw_C} {cT : FieldType → ClassId} {A : Nat → Prop} {H0 : Heap} {maxL : Nat} {ad0 : Nat → Nat} {n0 : Nat}
variable {cc : ByteArray} {own nm : String} {Ts Ns : List Cond} {L : List (Option Value)} {σ : List zC} {pc nc ns : Nat} {st : List Value}
set_option maxHeartbeats 4000000 in
theorem z_mono {fty : Nat → Nat → FieldType} {cd : List (List Value)} {x1 x2 x3 : Nat} {scr : Option (List Int32)} {ins : Jvm.ClassFile.Instr} {a' : zS} (h : zstep scr fty cd ins x1 x2 x3 pc L st σ nc ns = some a') : nc ≤ a'.2.2.2.2.1 ∧ ns ≤ a'.2.2.2.2.2 := by
  cases ins with
  | iconst n =>
    cases Option.some.inj h
    exact ⟨Nat.le_refl _, Nat.le_refl _⟩
  | bipush n =>
    cases Option.some.inj h
    exact ⟨Nat.le_refl _, Nat.le_refl _⟩
  | sipush n =>
    cases Option.some.inj h
    exact ⟨Nat.le_refl _, Nat.le_refl _⟩
  | ldc_w idx =>
    cases Option.some.inj h
    exact ⟨Nat.le_refl _, Nat.le_refl _⟩
  | lconst n =>
    cases Option.some.inj h
    exact ⟨Nat.le_refl _, Nat.le_refl _⟩
  | iload i =>
    obtain ⟨x, h1, h⟩ := Option.bind_eq_some_iff.mp h
    cases Option.some.inj h
    exact ⟨Nat.le_refl _, Nat.le_refl _⟩
  | iload_n i =>
    obtain ⟨x, h1, h⟩ := Option.bind_eq_some_iff.mp h
    cases Option.some.inj h
    exact ⟨Nat.le_refl _, Nat.le_refl _⟩
  | lload i =>
    obtain ⟨x, h1, h⟩ := Option.bind_eq_some_iff.mp h
    cases Option.some.inj h
    exact ⟨Nat.le_refl _, Nat.le_refl _⟩
  | lload_n i =>
    obtain ⟨x, h1, h⟩ := Option.bind_eq_some_iff.mp h
    cases Option.some.inj h
    exact ⟨Nat.le_refl _, Nat.le_refl _⟩
  | aload i =>
    obtain ⟨x, h1, h⟩ := Option.bind_eq_some_iff.mp h
    cases Option.some.inj h
    exact ⟨Nat.le_refl _, Nat.le_refl _⟩
  | aload_n i =>
    obtain ⟨x, h1, h⟩ := Option.bind_eq_some_iff.mp h
    cases Option.some.inj h
    exact ⟨Nat.le_refl _, Nat.le_refl _⟩
  | istore i =>
    obtain ⟨⟨x, r⟩, h1, h⟩ := Option.bind_eq_some_iff.mp h
    cases zp1i_eq h1
    obtain ⟨_, h2, h⟩ := Option.bind_eq_some_iff.mp h
    cases Option.some.inj h
    exact ⟨Nat.le_refl _, Nat.le_refl _⟩
  | istore_n i =>
    obtain ⟨⟨x, r⟩, h1, h⟩ := Option.bind_eq_some_iff.mp h
    cases zp1i_eq h1
    obtain ⟨_, h2, h⟩ := Option.bind_eq_some_iff.mp h
    cases Option.some.inj h
    exact ⟨Nat.le_refl _, Nat.le_refl _⟩
  | astore i =>
    obtain ⟨⟨x, r⟩, h1, h⟩ := Option.bind_eq_some_iff.mp h
    cases zp1r_eq h1
    obtain ⟨_, h2, h⟩ := Option.bind_eq_some_iff.mp h
    cases Option.some.inj h
    exact ⟨Nat.le_refl _, Nat.le_refl _⟩
  | astore_n i =>
    obtain ⟨⟨x, r⟩, h1, h⟩ := Option.bind_eq_some_iff.mp h
    cases zp1r_eq h1
    obtain ⟨_, h2, h⟩ := Option.bind_eq_some_iff.mp h
    cases Option.some.inj h
    exact ⟨Nat.le_refl _, Nat.le_refl _⟩
  | lstore i =>
    obtain ⟨⟨x, r⟩, h1, h⟩ := Option.bind_eq_some_iff.mp h
    cases zp1l_eq h1
    obtain ⟨_, h2, h⟩ := Option.bind_eq_some_iff.mp h
    cases Option.some.inj h
    exact ⟨Nat.le_refl _, Nat.le_refl _⟩
  | lstore_n i =>
    obtain ⟨⟨x, r⟩, h1, h⟩ := Option.bind_eq_some_iff.mp h
    cases zp1l_eq h1
    obtain ⟨_, h2, h⟩ := Option.bind_eq_some_iff.mp h
    cases Option.some.inj h
    exact ⟨Nat.le_refl _, Nat.le_refl _⟩
  | iinc i n =>
    obtain ⟨x, h1, h⟩ := Option.bind_eq_some_iff.mp h
    cases Option.some.inj h
    exact ⟨Nat.le_refl _, Nat.le_refl _⟩
  | iadd =>
    obtain ⟨⟨x, y, r⟩, h1, h⟩ := Option.bind_eq_some_iff.mp h
    cases zp2i_eq h1
    cases Option.some.inj h
    exact ⟨Nat.le_refl _, Nat.le_refl _⟩
  | isub =>
    obtain ⟨⟨x, y, r⟩, h1, h⟩ := Option.bind_eq_some_iff.mp h
    cases zp2i_eq h1
    cases Option.some.inj h
    exact ⟨Nat.le_refl _, Nat.le_refl _⟩
  | imul =>
    obtain ⟨⟨x, y, r⟩, h1, h⟩ := Option.bind_eq_some_iff.mp h
    cases zp2i_eq h1
    cases Option.some.inj h
    exact ⟨Nat.le_refl _, Nat.le_refl _⟩
  | iand =>
    obtain ⟨⟨x, y, r⟩, h1, h⟩ := Option.bind_eq_some_iff.mp h
    cases zp2i_eq h1
    cases Option.some.inj h
    exact ⟨Nat.le_refl _, Nat.le_refl _⟩
  | ior =>
    obtain ⟨⟨x, y, r⟩, h1, h⟩ := Option.bind_eq_some_iff.mp h
    cases zp2i_eq h1
    cases Option.some.inj h
    exact ⟨Nat.le_refl _, Nat.le_refl _⟩
  | ixor =>
    obtain ⟨⟨x, y, r⟩, h1, h⟩ := Option.bind_eq_some_iff.mp h
    cases zp2i_eq h1
    cases Option.some.inj h
    exact ⟨Nat.le_refl _, Nat.le_refl _⟩
  | ishl =>
    obtain ⟨⟨x, y, r⟩, h1, h⟩ := Option.bind_eq_some_iff.mp h
    cases zp2i_eq h1
    cases Option.some.inj h
    exact ⟨Nat.le_refl _, Nat.le_refl _⟩
  | ishr =>
    obtain ⟨⟨x, y, r⟩, h1, h⟩ := Option.bind_eq_some_iff.mp h
    cases zp2i_eq h1
    cases Option.some.inj h
    exact ⟨Nat.le_refl _, Nat.le_refl _⟩
  | iushr =>
    obtain ⟨⟨x, y, r⟩, h1, h⟩ := Option.bind_eq_some_iff.mp h
    cases zp2i_eq h1
    cases Option.some.inj h
    exact ⟨Nat.le_refl _, Nat.le_refl _⟩
  | ineg =>
    obtain ⟨⟨x, r⟩, h1, h⟩ := Option.bind_eq_some_iff.mp h
    cases zp1i_eq h1
    cases Option.some.inj h
    exact ⟨Nat.le_refl _, Nat.le_refl _⟩
  | lmul =>
    obtain ⟨⟨x, y, r⟩, h1, h⟩ := Option.bind_eq_some_iff.mp h
    cases zp2l_eq h1
    cases Option.some.inj h
    exact ⟨Nat.le_refl _, Nat.le_refl _⟩
  | lsub =>
    obtain ⟨⟨x, y, r⟩, h1, h⟩ := Option.bind_eq_some_iff.mp h
    cases zp2l_eq h1
    cases Option.some.inj h
    exact ⟨Nat.le_refl _, Nat.le_refl _⟩
  | lneg =>
    obtain ⟨⟨x, r⟩, h1, h⟩ := Option.bind_eq_some_iff.mp h
    cases zp1l_eq h1
    cases Option.some.inj h
    exact ⟨Nat.le_refl _, Nat.le_refl _⟩
  | ldiv =>
    obtain ⟨⟨x, y, r⟩, h1, h⟩ := Option.bind_eq_some_iff.mp h
    cases zp2l_eq h1
    have h : (if y = 0 then none else some (pc + 1, L, .long (x / y) :: r, σ, nc, ns)) = some a' := h
    by_cases h0 : y = 0
    · rw [if_pos h0] at h; cases h
    · rw [if_neg h0] at h
      cases Option.some.inj h
      exact ⟨Nat.le_refl _, Nat.le_refl _⟩
  | lrem =>
    obtain ⟨⟨x, y, r⟩, h1, h⟩ := Option.bind_eq_some_iff.mp h
    cases zp2l_eq h1
    have h : (if y = 0 then none else some (pc + 1, L, .long (x - x / y * y) :: r, σ, nc, ns)) = some a' := h
    by_cases h0 : y = 0
    · rw [if_pos h0] at h; cases h
    · rw [if_neg h0] at h
      cases Option.some.inj h
      exact ⟨Nat.le_refl _, Nat.le_refl _⟩
  | lcmp =>
    obtain ⟨⟨x, y, r⟩, h1, h⟩ := Option.bind_eq_some_iff.mp h
    cases zp2l_eq h1
    cases Option.some.inj h
    exact ⟨Nat.le_refl _, Nat.le_refl _⟩
  | i2l =>
    obtain ⟨⟨x, r⟩, h1, h⟩ := Option.bind_eq_some_iff.mp h
    cases zp1i_eq h1
    cases Option.some.inj h
    exact ⟨Nat.le_refl _, Nat.le_refl _⟩
  | l2i =>
    obtain ⟨⟨x, r⟩, h1, h⟩ := Option.bind_eq_some_iff.mp h
    cases zp1l_eq h1
    cases Option.some.inj h
    exact ⟨Nat.le_refl _, Nat.le_refl _⟩
  | i2c =>
    obtain ⟨⟨x, r⟩, h1, h⟩ := Option.bind_eq_some_iff.mp h
    cases zp1i_eq h1
    cases Option.some.inj h
    exact ⟨Nat.le_refl _, Nat.le_refl _⟩
  | dup =>
    simp only [zstep] at h
    split at h
    · cases Option.some.inj h; exact ⟨Nat.le_refl _, Nat.le_refl _⟩
    · cases Option.some.inj h; exact ⟨Nat.le_refl _, Nat.le_refl _⟩
    · cases h
  | dup2 =>
    obtain ⟨⟨i, k9, r⟩, h1, h⟩ := Option.bind_eq_some_iff.mp h
    cases zpir_eq h1
    cases Option.some.inj h
    exact ⟨Nat.le_refl _, Nat.le_refl _⟩
  | ifCond cnd off =>
    obtain ⟨⟨x, r⟩, h1, h⟩ := Option.bind_eq_some_iff.mp h
    cases zp1i_eq h1
    obtain ⟨t, h2, h⟩ := Option.bind_eq_some_iff.mp h
    cases Option.some.inj h
    exact ⟨Nat.le_refl _, Nat.le_refl _⟩
  | if_icmp cnd off =>
    obtain ⟨⟨x, y, r⟩, h1, h⟩ := Option.bind_eq_some_iff.mp h
    cases zp2i_eq h1
    obtain ⟨t, h2, h⟩ := Option.bind_eq_some_iff.mp h
    cases Option.some.inj h
    exact ⟨Nat.le_refl _, Nat.le_refl _⟩
  | goto off =>
    obtain ⟨t, h2, h⟩ := Option.bind_eq_some_iff.mp h
    cases Option.some.inj h
    exact ⟨Nat.le_refl _, Nat.le_refl _⟩
  | tableswitch dflt lo9 hi9 offs =>
    obtain ⟨⟨x, r⟩, h1, h⟩ := Option.bind_eq_some_iff.mp h
    cases zp1i_eq h1
    obtain ⟨off, h2, h⟩ := Option.bind_eq_some_iff.mp h
    obtain ⟨t, h3, h⟩ := Option.bind_eq_some_iff.mp h
    cases Option.some.inj h
    exact ⟨Nat.le_refl _, Nat.le_refl _⟩
  | getfield idx =>
    obtain ⟨⟨k9, r⟩, h1, h⟩ := Option.bind_eq_some_iff.mp h
    cases zp1r_eq h1
    obtain ⟨⟨ci, fs⟩, h2, h⟩ := Option.bind_eq_some_iff.mp h
    obtain ⟨_, h4, h⟩ := Option.bind_eq_some_iff.mp h
    obtain ⟨v, h5, h⟩ := Option.bind_eq_some_iff.mp h
    cases Option.some.inj h
    exact ⟨Nat.le_refl _, Nat.le_refl _⟩
  | putfield idx =>
    obtain ⟨⟨v, k9, r⟩, h1, h⟩ := Option.bind_eq_some_iff.mp h
    cases zpvr_eq h1
    obtain ⟨⟨ci, fs⟩, h2, h⟩ := Option.bind_eq_some_iff.mp h
    obtain ⟨_, h4, h⟩ := Option.bind_eq_some_iff.mp h
    cases Option.some.inj h
    exact ⟨Nat.le_refl _, Nat.le_refl _⟩
  | iaload =>
    obtain ⟨⟨i, k9, r⟩, h1, h⟩ := Option.bind_eq_some_iff.mp h
    cases zpir_eq h1
    obtain ⟨l1, h2, h⟩ := Option.bind_eq_some_iff.mp h
    obtain ⟨j, h3, h⟩ := Option.bind_eq_some_iff.mp h
    obtain ⟨x, h4, h⟩ := Option.bind_eq_some_iff.mp h
    cases Option.some.inj h
    exact ⟨Nat.le_refl _, Nat.le_refl _⟩
  | caload =>
    obtain ⟨⟨i, k9, r⟩, h1, h⟩ := Option.bind_eq_some_iff.mp h
    cases zpir_eq h1
    obtain ⟨l1, h2, h⟩ := Option.bind_eq_some_iff.mp h
    obtain ⟨j, h3, h⟩ := Option.bind_eq_some_iff.mp h
    obtain ⟨x, h4, h⟩ := Option.bind_eq_some_iff.mp h
    cases Option.some.inj h
    exact ⟨Nat.le_refl _, Nat.le_refl _⟩
  | baload =>
    obtain ⟨⟨i, k9, r⟩, h1, h⟩ := Option.bind_eq_some_iff.mp h
    cases zpir_eq h1
    obtain ⟨l1, h2, h⟩ := Option.bind_eq_some_iff.mp h
    obtain ⟨j, h3, h⟩ := Option.bind_eq_some_iff.mp h
    obtain ⟨x, h4, h⟩ := Option.bind_eq_some_iff.mp h
    cases Option.some.inj h
    exact ⟨Nat.le_refl _, Nat.le_refl _⟩
  | laload =>
    obtain ⟨⟨i, k9, r⟩, h1, h⟩ := Option.bind_eq_some_iff.mp h
    cases zpir_eq h1
    obtain ⟨l1, h2, h⟩ := Option.bind_eq_some_iff.mp h
    obtain ⟨j, h3, h⟩ := Option.bind_eq_some_iff.mp h
    obtain ⟨x, h4, h⟩ := Option.bind_eq_some_iff.mp h
    cases Option.some.inj h
    exact ⟨Nat.le_refl _, Nat.le_refl _⟩
  | aaload =>
    obtain ⟨⟨i, k9, r⟩, h1, h⟩ := Option.bind_eq_some_iff.mp h
    cases zpir_eq h1
    obtain ⟨⟨b9, l1⟩, h2, h⟩ := Option.bind_eq_some_iff.mp h
    obtain ⟨j, h3, h⟩ := Option.bind_eq_some_iff.mp h
    obtain ⟨x, h4, h⟩ := Option.bind_eq_some_iff.mp h
    cases Option.some.inj h
    exact ⟨Nat.le_refl _, Nat.le_refl _⟩
  | iastore =>
    obtain ⟨⟨x, i, k9, r⟩, h1, h⟩ := Option.bind_eq_some_iff.mp h
    cases zpiir_eq h1
    obtain ⟨l1, h2, h⟩ := Option.bind_eq_some_iff.mp h
    obtain ⟨j, h3, h⟩ := Option.bind_eq_some_iff.mp h
    obtain ⟨_, h4, h⟩ := Option.bind_eq_some_iff.mp h
    cases Option.some.inj h
    exact ⟨Nat.le_refl _, Nat.le_refl _⟩
  | castore =>
    obtain ⟨⟨x, i, k9, r⟩, h1, h⟩ := Option.bind_eq_some_iff.mp h
    cases zpiir_eq h1
    obtain ⟨l1, h2, h⟩ := Option.bind_eq_some_iff.mp h
    obtain ⟨j, h3, h⟩ := Option.bind_eq_some_iff.mp h
    obtain ⟨_, h4, h⟩ := Option.bind_eq_some_iff.mp h
    cases Option.some.inj h
    exact ⟨Nat.le_refl _, Nat.le_refl _⟩
  | bastore =>
    obtain ⟨⟨x, i, k9, r⟩, h1, h⟩ := Option.bind_eq_some_iff.mp h
    cases zpiir_eq h1
    obtain ⟨l1, h2, h⟩ := Option.bind_eq_some_iff.mp h
    obtain ⟨j, h3, h⟩ := Option.bind_eq_some_iff.mp h
    obtain ⟨_, h4, h⟩ := Option.bind_eq_some_iff.mp h
    cases Option.some.inj h
    exact ⟨Nat.le_refl _, Nat.le_refl _⟩
  | lastore =>
    obtain ⟨⟨x, i, k9, r⟩, h1, h⟩ := Option.bind_eq_some_iff.mp h
    cases zplir_eq h1
    obtain ⟨l1, h2, h⟩ := Option.bind_eq_some_iff.mp h
    obtain ⟨j, h3, h⟩ := Option.bind_eq_some_iff.mp h
    obtain ⟨_, h4, h⟩ := Option.bind_eq_some_iff.mp h
    cases Option.some.inj h
    exact ⟨Nat.le_refl _, Nat.le_refl _⟩
  | aastore =>
    obtain ⟨⟨x, i, k9, r⟩, h1, h⟩ := Option.bind_eq_some_iff.mp h
    cases zprir_eq h1
    obtain ⟨⟨b9, l1⟩, h2, h⟩ := Option.bind_eq_some_iff.mp h
    obtain ⟨l2, h6, h⟩ := Option.bind_eq_some_iff.mp h
    obtain ⟨j, h3, h⟩ := Option.bind_eq_some_iff.mp h
    obtain ⟨_, h4, h⟩ := Option.bind_eq_some_iff.mp h
    cases Option.some.inj h
    exact ⟨Nat.le_refl _, Nat.le_refl _⟩
  | arraylength =>
    obtain ⟨⟨k9, r⟩, h1, h⟩ := Option.bind_eq_some_iff.mp h
    cases zp1r_eq h1
    obtain ⟨xs, h2, h⟩ := Option.bind_eq_some_iff.mp h
    cases Option.some.inj h
    exact ⟨Nat.le_refl _, Nat.le_refl _⟩
  | newarray t =>
    obtain ⟨⟨n, r⟩, h1, h⟩ := Option.bind_eq_some_iff.mp h
    cases zp1i_eq h1
    obtain ⟨N, h2, h⟩ := Option.bind_eq_some_iff.mp h
    obtain ⟨_, h3, h⟩ := Option.bind_eq_some_iff.mp h
    obtain ⟨x, h4, h⟩ := Option.bind_eq_some_iff.mp h
    cases Option.some.inj h
    exact ⟨by dsimp only; omega, by dsimp only; omega⟩
  | multianewarray idx d =>
    obtain ⟨⟨n, k9, r⟩, h1, h⟩ := Option.bind_eq_some_iff.mp h
    cases zp2i_eq h1
    obtain ⟨N, h2, h⟩ := Option.bind_eq_some_iff.mp h
    obtain ⟨K, h3, h⟩ := Option.bind_eq_some_iff.mp h
    obtain ⟨_, h4, h⟩ := Option.bind_eq_some_iff.mp h
    cases Option.some.inj h
    exact ⟨by dsimp only; omega, by dsimp only; omega⟩
  | new idx =>
    obtain ⟨fs, h2, h⟩ := Option.bind_eq_some_iff.mp h
    obtain ⟨_, h3, h⟩ := Option.bind_eq_some_iff.mp h
    cases Option.some.inj h
    exact ⟨by dsimp only; omega, by dsimp only; omega⟩
  | invokespecial idx =>
    obtain ⟨⟨k9, r⟩, h1, h⟩ := Option.bind_eq_some_iff.mp h
    cases zp1r_eq h1
    obtain ⟨_, h3, h⟩ := Option.bind_eq_some_iff.mp h
    cases Option.some.inj h
    exact ⟨Nat.le_refl _, Nat.le_refl _⟩
  | _ => cases (show (none : Option zS) = some a' from h)
set_option maxHeartbeats 4000000 in
theorem z_step (X : zctx p s m args meth c cc maxL own nm Ts Ns D cl cT A H0) {fty : Nat → Nat → FieldType} {cd : List (List Value)} (hCl : zcl Ts fty cd cl) {host : String} {fr lo len x1 x2 x3 : Nat} {scr : Option (List Int32)} (hscr : zscr scr s H0 A ad0) (hfl : fr ≤ R.frames ∧ lo ≤ R.locals) {ins : Jvm.ClassFile.Instr} (hd : decode cc pc = .ok (ins, zlen ins len)) (hok : zoki host own nm Ts Ns cl fr lo ins x1 x2 x3) {a' : zS} (h : zstep scr fty cd ins x1 x2 x3 pc L st σ nc ns = some a') (hroom : a'.2.2.2.2.1 ≤ R.cells ∧ a'.2.2.2.2.2 ≤ R.slots) (k : zW p l e R s m args below meth c Q D cl cT A H0 maxL ad0 n0 a') : zW p l e R s m args below meth c Q D cl cT A H0 maxL ad0 n0 (pc, L, st, σ, nc, ns) := by
  obtain ⟨hx, hb, hml, hown, hts, hns, hK, hA, hnm⟩ := id X
  cases ins with
  | iconst n =>
    cases Option.some.inj h
    intro ad H locs ls rr
    exact lv_iconst hx hb hd rfl (k ad H locs ls rr)
  | bipush n =>
    cases Option.some.inj h
    intro ad H locs ls rr
    exact lv_bipush hx hb hd rfl (k ad H locs ls rr)
  | sipush n =>
    cases Option.some.inj h
    intro ad H locs ls rr
    exact lv_sipush hx hb hd rfl (k ad H locs ls rr)
  | ldc_w idx =>
    cases Option.some.inj h
    intro ad H locs ls rr
    exact lv_ldcw hx hb hown (hts _ hok) hd (k ad H locs ls rr)
  | lconst n =>
    cases Option.some.inj h
    intro ad H locs ls rr
    exact lv_lconst hx hb hd rfl (k ad H locs ls rr)
  | iload i =>
    obtain ⟨x, h1, h⟩ := Option.bind_eq_some_iff.mp h
    cases Option.some.inj h
    intro ad H locs ls rr
    exact lv_iload hx hb hd (rr.1.2.2.2 i _ (zgi_eq h1)) (k ad H locs ls rr)
  | iload_n i =>
    obtain ⟨x, h1, h⟩ := Option.bind_eq_some_iff.mp h
    cases Option.some.inj h
    intro ad H locs ls rr
    exact lv_iload_n hx hb hd rfl (rr.1.2.2.2 i.val _ (zgi_eq h1)) (k ad H locs ls rr)
  | lload i =>
    obtain ⟨x, h1, h⟩ := Option.bind_eq_some_iff.mp h
    cases Option.some.inj h
    intro ad H locs ls rr
    exact lv_lload hx hb hd (rr.1.2.2.2 i _ (zgl_eq h1)) (k ad H locs ls rr)
  | lload_n i =>
    obtain ⟨x, h1, h⟩ := Option.bind_eq_some_iff.mp h
    cases Option.some.inj h
    intro ad H locs ls rr
    exact lv_lload_n hx hb hd rfl (rr.1.2.2.2 i.val _ (zgl_eq h1)) (k ad H locs ls rr)
  | aload i =>
    obtain ⟨x, h1, h⟩ := Option.bind_eq_some_iff.mp h
    cases Option.some.inj h
    intro ad H locs ls rr
    exact lv_aload hx hb hd (rr.1.2.2.2 i _ (zga_eq h1)) (k ad H locs ls rr)
  | aload_n i =>
    obtain ⟨x, h1, h⟩ := Option.bind_eq_some_iff.mp h
    cases Option.some.inj h
    intro ad H locs ls rr
    exact lv_aload_n hx hb hd rfl (rr.1.2.2.2 i.val _ (zga_eq h1)) (k ad H locs ls rr)
  | istore i =>
    obtain ⟨⟨x, r⟩, h1, h⟩ := Option.bind_eq_some_iff.mp h
    cases zp1i_eq h1
    obtain ⟨_, h2, h⟩ := Option.bind_eq_some_iff.mp h
    cases Option.some.inj h
    intro ad H locs ls rr
    have hi : i < maxL := by rw [← rr.1.2.2.1]; exact Nat.le_of_ble_eq_true (zif_eq h2)
    exact lv_istore hx hb hd rr.has hi rfl (fun ls' h' => k ad H locs ls' (rr.set1 hi h'))
  | istore_n i =>
    obtain ⟨⟨x, r⟩, h1, h⟩ := Option.bind_eq_some_iff.mp h
    cases zp1i_eq h1
    obtain ⟨_, h2, h⟩ := Option.bind_eq_some_iff.mp h
    cases Option.some.inj h
    intro ad H locs ls rr
    have hi : i.val < maxL := by rw [← rr.1.2.2.1]; exact Nat.le_of_ble_eq_true (zif_eq h2)
    exact lv_istore_n hx hb hd rfl rr.has hi rfl (fun ls' h' => k ad H locs ls' (rr.set1 hi h'))
  | astore i =>
    obtain ⟨⟨x, r⟩, h1, h⟩ := Option.bind_eq_some_iff.mp h
    cases zp1r_eq h1
    obtain ⟨_, h2, h⟩ := Option.bind_eq_some_iff.mp h
    cases Option.some.inj h
    intro ad H locs ls rr
    have hi : i < maxL := by rw [← rr.1.2.2.1]; exact Nat.le_of_ble_eq_true (zif_eq h2)
    exact lv_astore hx hb hd rr.has hi rfl (fun ls' h' => k ad H locs ls' (rr.set1 hi h'))
  | astore_n i =>
    obtain ⟨⟨x, r⟩, h1, h⟩ := Option.bind_eq_some_iff.mp h
    cases zp1r_eq h1
    obtain ⟨_, h2, h⟩ := Option.bind_eq_some_iff.mp h
    cases Option.some.inj h
    intro ad H locs ls rr
    have hi : i.val < maxL := by rw [← rr.1.2.2.1]; exact Nat.le_of_ble_eq_true (zif_eq h2)
    exact lv_astore_n hx hb hd rfl rr.has hi rfl (fun ls' h' => k ad H locs ls' (rr.set1 hi h'))
  | lstore i =>
    obtain ⟨⟨x, r⟩, h1, h⟩ := Option.bind_eq_some_iff.mp h
    cases zp1l_eq h1
    obtain ⟨_, h2, h⟩ := Option.bind_eq_some_iff.mp h
    cases Option.some.inj h
    intro ad H locs ls rr
    have hi : i + 1 < maxL := by rw [← rr.1.2.2.1]; exact Nat.le_of_ble_eq_true (zif_eq h2)
    exact lv_lstore hx hb hd rr.has hi rfl (fun ls' h' => k ad H locs ls' (rr.set2 hi h'))
  | lstore_n i =>
    obtain ⟨⟨x, r⟩, h1, h⟩ := Option.bind_eq_some_iff.mp h
    cases zp1l_eq h1
    obtain ⟨_, h2, h⟩ := Option.bind_eq_some_iff.mp h
    cases Option.some.inj h
    intro ad H locs ls rr
    have hi : i.val + 1 < maxL := by rw [← rr.1.2.2.1]; exact Nat.le_of_ble_eq_true (zif_eq h2)
    exact lv_lstore_n hx hb hd rfl rr.has hi rfl (fun ls' h' => k ad H locs ls' (rr.set2 hi h'))
  | iinc i n =>
    obtain ⟨x, h1, h⟩ := Option.bind_eq_some_iff.mp h
    cases Option.some.inj h
    intro ad H locs ls rr
    have h3 := zgi_eq h1
    have hi : i < maxL := by rw [← rr.1.2.2.1]; exact (List.getElem?_eq_some_iff.mp h3).1
    obtain ⟨k9, hk9⟩ := List.getElem?_of_mem (zlv_mem (ad := ad) h3)
    exact lv_iinc hx hb hd rr.has hk9 rfl hi rfl (fun ls' h' => k ad H locs ls' (rr.set1 (v := .int (x + Int32.ofInt n)) hi h'))
  | iadd =>
    obtain ⟨⟨x, y, r⟩, h1, h⟩ := Option.bind_eq_some_iff.mp h
    cases zp2i_eq h1
    cases Option.some.inj h
    intro ad H locs ls rr
    exact lv_iadd hx hb hd (k ad H locs ls rr)
  | isub =>
    obtain ⟨⟨x, y, r⟩, h1, h⟩ := Option.bind_eq_some_iff.mp h
    cases zp2i_eq h1
    cases Option.some.inj h
    intro ad H locs ls rr
    exact lv_isub hx hb hd (k ad H locs ls rr)
  | imul =>
    obtain ⟨⟨x, y, r⟩, h1, h⟩ := Option.bind_eq_some_iff.mp h
    cases zp2i_eq h1
    cases Option.some.inj h
    intro ad H locs ls rr
    exact lv_imul hx hb hd (k ad H locs ls rr)
  | iand =>
    obtain ⟨⟨x, y, r⟩, h1, h⟩ := Option.bind_eq_some_iff.mp h
    cases zp2i_eq h1
    cases Option.some.inj h
    intro ad H locs ls rr
    exact lv_iand hx hb hd (k ad H locs ls rr)
  | ior =>
    obtain ⟨⟨x, y, r⟩, h1, h⟩ := Option.bind_eq_some_iff.mp h
    cases zp2i_eq h1
    cases Option.some.inj h
    intro ad H locs ls rr
    exact lv_ior hx hb hd (k ad H locs ls rr)
  | ixor =>
    obtain ⟨⟨x, y, r⟩, h1, h⟩ := Option.bind_eq_some_iff.mp h
    cases zp2i_eq h1
    cases Option.some.inj h
    intro ad H locs ls rr
    exact lv_ixor hx hb hd (k ad H locs ls rr)
  | ishl =>
    obtain ⟨⟨x, y, r⟩, h1, h⟩ := Option.bind_eq_some_iff.mp h
    cases zp2i_eq h1
    cases Option.some.inj h
    intro ad H locs ls rr
    exact lv_ishl hx hb hd (k ad H locs ls rr)
  | ishr =>
    obtain ⟨⟨x, y, r⟩, h1, h⟩ := Option.bind_eq_some_iff.mp h
    cases zp2i_eq h1
    cases Option.some.inj h
    intro ad H locs ls rr
    exact lv_ishr hx hb hd (k ad H locs ls rr)
  | iushr =>
    obtain ⟨⟨x, y, r⟩, h1, h⟩ := Option.bind_eq_some_iff.mp h
    cases zp2i_eq h1
    cases Option.some.inj h
    intro ad H locs ls rr
    exact lv_iushr hx hb hd rfl (k ad H locs ls rr)
  | ineg =>
    obtain ⟨⟨x, r⟩, h1, h⟩ := Option.bind_eq_some_iff.mp h
    cases zp1i_eq h1
    cases Option.some.inj h
    intro ad H locs ls rr
    exact lv_ineg hx hb hd (k ad H locs ls rr)
  | lmul =>
    obtain ⟨⟨x, y, r⟩, h1, h⟩ := Option.bind_eq_some_iff.mp h
    cases zp2l_eq h1
    cases Option.some.inj h
    intro ad H locs ls rr
    exact lv_lmul hx hb hd (k ad H locs ls rr)
  | lsub =>
    obtain ⟨⟨x, y, r⟩, h1, h⟩ := Option.bind_eq_some_iff.mp h
    cases zp2l_eq h1
    cases Option.some.inj h
    intro ad H locs ls rr
    exact lv_lsub hx hb hd (k ad H locs ls rr)
  | lneg =>
    obtain ⟨⟨x, r⟩, h1, h⟩ := Option.bind_eq_some_iff.mp h
    cases zp1l_eq h1
    cases Option.some.inj h
    intro ad H locs ls rr
    exact lv_lneg hx hb hd (k ad H locs ls rr)
  | ldiv =>
    obtain ⟨⟨x, y, r⟩, h1, h⟩ := Option.bind_eq_some_iff.mp h
    cases zp2l_eq h1
    have h : (if y = 0 then none else some (pc + 1, L, .long (x / y) :: r, σ, nc, ns)) = some a' := h
    by_cases h0 : y = 0
    · rw [if_pos h0] at h; cases h
    · rw [if_neg h0] at h
      cases Option.some.inj h
      intro ad H locs ls rr
      exact lv_ldiv hx hb hd h0 (k ad H locs ls rr)
  | lrem =>
    obtain ⟨⟨x, y, r⟩, h1, h⟩ := Option.bind_eq_some_iff.mp h
    cases zp2l_eq h1
    have h : (if y = 0 then none else some (pc + 1, L, .long (x - x / y * y) :: r, σ, nc, ns)) = some a' := h
    by_cases h0 : y = 0
    · rw [if_pos h0] at h; cases h
    · rw [if_neg h0] at h
      cases Option.some.inj h
      intro ad H locs ls rr
      exact lv_lrem hx hb hd h0 (k ad H locs ls rr)
  | lcmp =>
    obtain ⟨⟨x, y, r⟩, h1, h⟩ := Option.bind_eq_some_iff.mp h
    cases zp2l_eq h1
    cases Option.some.inj h
    intro ad H locs ls rr
    exact W.lcmp hx hb hd (k ad H locs ls rr)
  | i2l =>
    obtain ⟨⟨x, r⟩, h1, h⟩ := Option.bind_eq_some_iff.mp h
    cases zp1i_eq h1
    cases Option.some.inj h
    intro ad H locs ls rr
    exact lv_i2l hx hb hd rfl (k ad H locs ls rr)
  | l2i =>
    obtain ⟨⟨x, r⟩, h1, h⟩ := Option.bind_eq_some_iff.mp h
    cases zp1l_eq h1
    cases Option.some.inj h
    intro ad H locs ls rr
    exact lv_l2i hx hb hd rfl (k ad H locs ls rr)
  | i2c =>
    obtain ⟨⟨x, r⟩, h1, h⟩ := Option.bind_eq_some_iff.mp h
    cases zp1i_eq h1
    cases Option.some.inj h
    intro ad H locs ls rr
    exact lv_i2c hx hb hd rfl (k ad H locs ls rr)
  | dup =>
    simp only [zstep] at h
    split at h
    · cases Option.some.inj h
      intro ad H locs ls rr
      exact lv_dup hx hb hd rfl (k ad H locs ls rr)
    · cases Option.some.inj h
      intro ad H locs ls rr
      exact lv_dup hx hb hd rfl (k ad H locs ls rr)
    · cases h
  | dup2 =>
    obtain ⟨⟨i, k9, r⟩, h1, h⟩ := Option.bind_eq_some_iff.mp h
    cases zpir_eq h1
    cases Option.some.inj h
    intro ad H locs ls rr
    exact lv_dup2_11 hx hb hd rfl rfl (k ad H locs ls rr)
  | ifCond cnd off =>
    obtain ⟨⟨x, r⟩, h1, h⟩ := Option.bind_eq_some_iff.mp h
    cases zp1i_eq h1
    obtain ⟨t, h2, h⟩ := Option.bind_eq_some_iff.mp h
    cases Option.some.inj h
    exact z_ifc hx hb cnd hd (zjmp_eq h2) k
  | if_icmp cnd off =>
    obtain ⟨⟨x, y, r⟩, h1, h⟩ := Option.bind_eq_some_iff.mp h
    cases zp2i_eq h1
    obtain ⟨t, h2, h⟩ := Option.bind_eq_some_iff.mp h
    cases Option.some.inj h
    exact z_icmp hx hb cnd hd (zjmp_eq h2) k
  | goto off =>
    obtain ⟨t, h2, h⟩ := Option.bind_eq_some_iff.mp h
    cases Option.some.inj h
    intro ad H locs ls rr
    exact lv_goto hx hb hd (zjmp_eq h2) (k ad H locs ls rr)
  | tableswitch dflt lo9 hi9 offs =>
    obtain ⟨⟨x, r⟩, h1, h⟩ := Option.bind_eq_some_iff.mp h
    cases zp1i_eq h1
    obtain ⟨off, h2, h⟩ := Option.bind_eq_some_iff.mp h
    obtain ⟨t, h3, h⟩ := Option.bind_eq_some_iff.mp h
    cases Option.some.inj h
    intro ad H locs ls rr
    unfold zsw at h2
    by_cases h9 : x.toInt < lo9 ∨ hi9 < x.toInt
    · rw [if_pos h9] at h2
      cases Option.some.inj h2
      exact lv_tableOut hx hb hd h9 (zjmp_eq h3) (k ad H locs ls rr)
    · rw [if_neg h9] at h2
      exact lv_tableIn hx hb hd (fun q => h9 (Or.inl q)) (fun q => h9 (Or.inr q)) h2 (zjmp_eq h3) (k ad H locs ls rr)
  | getfield idx =>
    obtain ⟨⟨k9, r⟩, h1, h⟩ := Option.bind_eq_some_iff.mp h
    cases zp1r_eq h1
    obtain ⟨⟨ci, fs⟩, h2, h⟩ := Option.bind_eq_some_iff.mp h
    obtain ⟨_, h4, h⟩ := Option.bind_eq_some_iff.mp h
    obtain ⟨v, h5, h⟩ := Option.bind_eq_some_iff.mp h
    cases Option.some.inj h
    obtain ⟨j, rfl, h3⟩ := zcO_eq h2
    have e9 : ci = x1 := Nat.eq_of_beq_eq_true (zif_eq h4)
    subst e9
    obtain ⟨q, hq, o1, o2⟩ := hok
    exact z_get X hCl hq o1 o2 hd h3 h5 k
  | putfield idx =>
    obtain ⟨⟨v, k9, r⟩, h1, h⟩ := Option.bind_eq_some_iff.mp h
    cases zpvr_eq h1
    obtain ⟨⟨ci, fs⟩, h2, h⟩ := Option.bind_eq_some_iff.mp h
    obtain ⟨_, h4, h⟩ := Option.bind_eq_some_iff.mp h
    cases Option.some.inj h
    obtain ⟨j, rfl, h3⟩ := zcO_eq h2
    have h5 := zif_eq h4
    rw [Bool.and_eq_true, Bool.and_eq_true] at h5
    have e9 : ci = x1 := Nat.eq_of_beq_eq_true h5.1
    subst e9
    exact z_put X hCl hok hd h3 (Nat.le_of_ble_eq_true h5.2.1) h5.2.2 k
  | iaload =>
    obtain ⟨⟨i, k9, r⟩, h1, h⟩ := Option.bind_eq_some_iff.mp h
    cases zpir_eq h1
    obtain ⟨l1, h2, h⟩ := Option.bind_eq_some_iff.mp h
    obtain ⟨j, h3, h⟩ := Option.bind_eq_some_iff.mp h
    obtain ⟨x, h4, h⟩ := Option.bind_eq_some_iff.mp h
    cases Option.some.inj h
    cases k9 with
    | zero =>
      intro ad H locs ls rr
      obtain ⟨g1, g2, g3⟩ := hscr l1 h2
      obtain ⟨g4, g5⟩ := zix_in h3 (List.getElem?_eq_some_iff.mp h4).1
      subst g5
      obtain rfl : x = l1.getD i.toNatClampNeg 0 := zgetD h4
      have e0 : ad 0 = ad0 0 := rr.2.2.2.1 0 (Nat.zero_le _)
      show W p l e R s m args below meth c H locs nc ns Q (F0 m pc ls (.int i :: .ref (ad 0) :: r.map (zv ad)))
      rw [e0]
      exact va_sld hx hb g1 g2 g3 rr.2.1.2.2 g4 hd (k ad H locs ls rr)
    | succ k9 =>
      obtain ⟨j9, e9, h5⟩ := zcI_eq h2
      cases e9
      exact z_iald X hd h5 h3 h4 k
  | caload =>
    obtain ⟨⟨i, k9, r⟩, h1, h⟩ := Option.bind_eq_some_iff.mp h
    cases zpir_eq h1
    obtain ⟨l1, h2, h⟩ := Option.bind_eq_some_iff.mp h
    obtain ⟨j, h3, h⟩ := Option.bind_eq_some_iff.mp h
    obtain ⟨x, h4, h⟩ := Option.bind_eq_some_iff.mp h
    cases Option.some.inj h
    obtain ⟨j9, rfl, h5⟩ := zcC_eq h2
    exact z_cald X hd h5 h3 h4 k
  | baload =>
    obtain ⟨⟨i, k9, r⟩, h1, h⟩ := Option.bind_eq_some_iff.mp h
    cases zpir_eq h1
    obtain ⟨l1, h2, h⟩ := Option.bind_eq_some_iff.mp h
    obtain ⟨j, h3, h⟩ := Option.bind_eq_some_iff.mp h
    obtain ⟨x, h4, h⟩ := Option.bind_eq_some_iff.mp h
    cases Option.some.inj h
    obtain ⟨j9, rfl, h5⟩ := zcZ_eq h2
    exact z_zald X hd h5 h3 h4 k
  | laload =>
    obtain ⟨⟨i, k9, r⟩, h1, h⟩ := Option.bind_eq_some_iff.mp h
    cases zpir_eq h1
    obtain ⟨l1, h2, h⟩ := Option.bind_eq_some_iff.mp h
    obtain ⟨j, h3, h⟩ := Option.bind_eq_some_iff.mp h
    obtain ⟨x, h4, h⟩ := Option.bind_eq_some_iff.mp h
    cases Option.some.inj h
    obtain ⟨j9, rfl, h5⟩ := zcJ_eq h2
    exact z_lald X hd h5 h3 h4 k
  | aaload =>
    obtain ⟨⟨i, k9, r⟩, h1, h⟩ := Option.bind_eq_some_iff.mp h
    cases zpir_eq h1
    obtain ⟨⟨b9, l1⟩, h2, h⟩ := Option.bind_eq_some_iff.mp h
    obtain ⟨j, h3, h⟩ := Option.bind_eq_some_iff.mp h
    obtain ⟨x, h4, h⟩ := Option.bind_eq_some_iff.mp h
    cases Option.some.inj h
    obtain ⟨j9, rfl, ⟨-, h5⟩ | ⟨-, h5⟩⟩ := zcR_eq h2
    · exact z_aald (t := .int) (t0 := 4) X rfl hd h5 h3 h4 k
    · exact z_aald (t := .long) (t0 := 5) X rfl hd h5 h3 h4 k
  | iastore =>
    obtain ⟨⟨x, i, k9, r⟩, h1, h⟩ := Option.bind_eq_some_iff.mp h
    cases zpiir_eq h1
    obtain ⟨l1, h2, h⟩ := Option.bind_eq_some_iff.mp h
    obtain ⟨j, h3, h⟩ := Option.bind_eq_some_iff.mp h
    obtain ⟨_, h4, h⟩ := Option.bind_eq_some_iff.mp h
    cases Option.some.inj h
    obtain ⟨j9, rfl, h5⟩ := zcI_eq h2
    exact z_iast X hd h5 h3 (Nat.le_of_ble_eq_true (zif_eq h4)) k
  | castore =>
    obtain ⟨⟨x, i, k9, r⟩, h1, h⟩ := Option.bind_eq_some_iff.mp h
    cases zpiir_eq h1
    obtain ⟨l1, h2, h⟩ := Option.bind_eq_some_iff.mp h
    obtain ⟨j, h3, h⟩ := Option.bind_eq_some_iff.mp h
    obtain ⟨_, h4, h⟩ := Option.bind_eq_some_iff.mp h
    cases Option.some.inj h
    obtain ⟨j9, rfl, h5⟩ := zcC_eq h2
    exact z_cast X hd h5 h3 (Nat.le_of_ble_eq_true (zif_eq h4)) k
  | bastore =>
    obtain ⟨⟨x, i, k9, r⟩, h1, h⟩ := Option.bind_eq_some_iff.mp h
    cases zpiir_eq h1
    obtain ⟨l1, h2, h⟩ := Option.bind_eq_some_iff.mp h
    obtain ⟨j, h3, h⟩ := Option.bind_eq_some_iff.mp h
    obtain ⟨_, h4, h⟩ := Option.bind_eq_some_iff.mp h
    cases Option.some.inj h
    obtain ⟨j9, rfl, h5⟩ := zcZ_eq h2
    exact z_zast X hd h5 h3 (Nat.le_of_ble_eq_true (zif_eq h4)) k
  | lastore =>
    obtain ⟨⟨x, i, k9, r⟩, h1, h⟩ := Option.bind_eq_some_iff.mp h
    cases zplir_eq h1
    obtain ⟨l1, h2, h⟩ := Option.bind_eq_some_iff.mp h
    obtain ⟨j, h3, h⟩ := Option.bind_eq_some_iff.mp h
    obtain ⟨_, h4, h⟩ := Option.bind_eq_some_iff.mp h
    cases Option.some.inj h
    obtain ⟨j9, rfl, h5⟩ := zcJ_eq h2
    exact z_last X hd h5 h3 (Nat.le_of_ble_eq_true (zif_eq h4)) k
  | aastore =>
    obtain ⟨⟨x, i, k9, r⟩, h1, h⟩ := Option.bind_eq_some_iff.mp h
    cases zprir_eq h1
    obtain ⟨⟨b9, l1⟩, h2, h⟩ := Option.bind_eq_some_iff.mp h
    obtain ⟨l2, h6, h⟩ := Option.bind_eq_some_iff.mp h
    obtain ⟨j, h3, h⟩ := Option.bind_eq_some_iff.mp h
    obtain ⟨_, h4, h⟩ := Option.bind_eq_some_iff.mp h
    cases Option.some.inj h
    have h7 := zif_eq h4
    rw [Bool.and_eq_true] at h7
    obtain ⟨j8, rfl, h8⟩ := zcJ_eq h6
    obtain ⟨j9, rfl, ⟨hb9, h5⟩ | ⟨-, h5⟩⟩ := zcR_eq h2
    · rw [hb9] at h7; cases h7.1
    · exact z_aast X hd h5 h8 h3 (Nat.le_of_ble_eq_true h7.2) k
  | arraylength =>
    obtain ⟨⟨k9, r⟩, h1, h⟩ := Option.bind_eq_some_iff.mp h
    cases zp1r_eq h1
    obtain ⟨xs, h2, h⟩ := Option.bind_eq_some_iff.mp h
    cases Option.some.inj h
    cases k9 with
    | zero =>
      intro ad H locs ls rr
      obtain ⟨g1, g2, g3⟩ := hscr xs h2
      have e0 : ad 0 = ad0 0 := rr.2.2.2.1 0 (Nat.zero_le _)
      show W p l e R s m args below meth c H locs nc ns Q (F0 m pc ls (.ref (ad 0) :: r.map (zv ad)))
      rw [e0]
      exact va_slen hx hb g1 g2 g3 rr.2.1.2.2 hd (k ad H locs ls rr)
    | succ k9 => cases h2
  | newarray t =>
    obtain ⟨⟨n, r⟩, h1, h⟩ := Option.bind_eq_some_iff.mp h
    cases zp1i_eq h1
    obtain ⟨N, h2, h⟩ := Option.bind_eq_some_iff.mp h
    obtain ⟨_, h3, h⟩ := Option.bind_eq_some_iff.mp h
    obtain ⟨x, h4, h⟩ := Option.bind_eq_some_iff.mp h
    cases Option.some.inj h
    have h5 := zif_eq h3
    rw [Bool.and_eq_true] at h5
    exact z_newa X hok hd h2 (Nat.le_of_ble_eq_true h5.2) h4 h5.1 hroom k
  | multianewarray idx d =>
    obtain ⟨⟨n, k9, r⟩, h1, h⟩ := Option.bind_eq_some_iff.mp h
    cases zp2i_eq h1
    obtain ⟨N, h2, h⟩ := Option.bind_eq_some_iff.mp h
    obtain ⟨K, h3, h⟩ := Option.bind_eq_some_iff.mp h
    obtain ⟨_, h4, h⟩ := Option.bind_eq_some_iff.mp h
    cases Option.some.inj h
    have h5 := zif_eq h4
    rw [Bool.and_eq_true, Bool.and_eq_true, Bool.and_eq_true] at h5
    have e9 : d = 2 := Nat.eq_of_beq_eq_true h5.1
    subst e9
    exact z_multi X hok hd h2 h3 (Nat.le_of_ble_eq_true h5.2.2.1) (Nat.le_of_ble_eq_true h5.2.2.2) h5.2.1 hroom k
  | new idx =>
    obtain ⟨fs, h2, h⟩ := Option.bind_eq_some_iff.mp h
    obtain ⟨_, h3, h⟩ := Option.bind_eq_some_iff.mp h
    cases Option.some.inj h
    exact z_new X hCl hok hd h2 (zif_eq h3) hroom k
  | invokespecial idx =>
    obtain ⟨⟨k9, r⟩, h1, h⟩ := Option.bind_eq_some_iff.mp h
    cases zp1r_eq h1
    obtain ⟨_, h3, h⟩ := Option.bind_eq_some_iff.mp h
    cases Option.some.inj h
    have h5 := zif_eq h3
    rw [Bool.and_eq_true] at h5
    have e9 : x3 = 0 := Nat.eq_of_beq_eq_true h5.1
    subst e9
    obtain ⟨o1, o2, o3, o4, o5⟩ := hok rfl
    intro ad H locs ls rr
    have hz : (List.map (fun v => v.category) (r.map (zv ad))).sum ≤ 8 := by
      rw [List.map_map, show ((fun v => Value.category v) ∘ zv ad) = (fun v => v.category) from funext fun v => zv_cat ad v]
      exact Nat.le_of_ble_eq_true h5.2
    have hrm := lv_room (m := m) (pc := pc) (ls := ls) (rest := .ref (ad k9) :: r.map (zv ad)) hz
    show W p l e R s m args below meth c H locs nc ns Q (F0 m pc ls (.ref (ad k9) :: r.map (zv ad)))
    exact W.objInit hx hb hown (hts _ o1) (hts _ o2) (hts _ o3) rfl (by rw [hml]; exact rr.1.1) rfl hd (Nat.le_trans o4 hfl.1) (by have := hfl.2; omega) (k ad H locs ls rr)
  | _ => cases (show (none : Option zS) = some a' from h)
end ZMJ
end
section
/-! Calls, and a method's run from its entry: what zrun answers is a contract. -/
section ZMK
def znest (w : Cond) : Bool := match w with
  | .fieldLinkNest .. => true
  | .methodLinkNest .. => true
  | _ => false
theorem znest_warm {w : Cond} (h : znest w = true) {s U : State} (hW : s.WarmedH U.vm) (hZ : va_Nw w s) : va_Nw w U := by
  cases w with
  | fieldLinkNest a i b n d h9 => exact va_Nw.warmF hW hZ
  | methodLinkNest a i x h9 => exact va_Nw.warmM hW hZ
  | _ => cases h
theorem znest_tab {w : Cond} (h : znest w = true) : w.onTables = true := by
  cases w with
  | fieldLinkNest a i b n d h9 => rfl
  | methodLinkNest a i x h9 => rfl
  | _ => cases h
def zQ (D : va_G) (cl : List vw_C) (cT : FieldType → ClassId) (o : zO) (ad : Nat → Nat) (n : Nat) (A1 : Nat → Prop) : Array Value → State → Outcome → State → Prop := fun _ st oc t =>
  (∃ u : Nat → Nat, oc = .returned o.1 ∧ va_P D cl (zws cT u o.2.1) t.heap ∧ va_D A1 (zws cT u o.2.1) ∧ (o.2.2.1 = 0 → u = ad) ∧ (∀ k, k ≤ n → u k = ad k) ∧ n ≤ o.2.1.length) ∧ va_F A1 st t
def zPc (D : va_G) (cl : List vw_C) (cT : FieldType → ClassId) (Ns : List Cond) (vs : List Value) (σ : List zC) (ad : Nat → Nat) (sz : Nat) : Array Value → State → Prop := va_Pc (vs.map (zv ad)) (fun U => U.heap.size = sz ∧ va_P D cl (zws cT ad σ) U.heap ∧ zK D cl cT U ∧ (∀ w ∈ Ns, va_Nw w U) ∧ va_D (fun _ => True) (zws cT ad σ))
theorem zPc_blind {D : va_G} {cl : List vw_C} {cT : FieldType → ClassId} {Ns : List Cond} {vs : List Value} {σ : List zC} {ad : Nat → Nat} {sz : Nat} (hN : ∀ w ∈ Ns, znest w = true) : FrameBlind (zPc D cl cT Ns vs σ ad sz) := fun a U g mk q => by
  obtain ⟨q0, q1, qP, qK, qN, qD⟩ := q
  exact ⟨q0, q1, qP, zK.moved (u := U) (U := U.calling g mk a) (Vm.Alike.refl U.vm) qK, fun w hw => va_Nw.same (u := U) (U := U.calling g mk a) (znest_tab (hN w hw)) rfl (qN w hw), qD⟩
theorem zrun_inv {P : List zM} {fty : Nat → Nat → FieldType} {cd : List (List Value)} {f y : Nat} {scr : Option (List Int32)} {pc : Nat} {L : List (Option Value)} {st : List Value} {σ : List zC} {nc ns : Nat} {o : zO} (h : zrun P fty cd (f + 1) scr y (pc, L, st, σ, nc, ns) = some o) :
    ∃ (z : MethodName) (code : ByteArray) (mx : Nat) (ret : Option FieldType) (fr lo kd na : Nat) (rows : List (Nat × zI)) (ins : Jvm.ClassFile.Instr) (len x1 x2 x3 : Nat), P[y]? = some (z, code, mx, ret, fr, lo, kd, na, rows) ∧ zlook rows pc = some (ins, len, x1, x2, x3) ∧
      ((∃ a', zstep scr fty cd ins x1 x2 x3 pc L st σ nc ns = some a' ∧ zrun P fty cd f scr y a' = some o) ∨
       (∃ r, zret ret ins st = some r ∧ o = (r, σ, nc, ns)) ∨
       (∃ vs rest mz o1 a', zprep P ins x1 x2 x3 st σ = some (vs, rest, mz) ∧ zrun P fty cd f none x1 (0, zent vs mz, [], σ, 0, 0) = some o1 ∧ zback rest pc L σ nc ns o1 = some a' ∧ zrun P fty cd f scr y a' = some o)) := by
  rw [zrun_s] at h
  unfold zone at h
  split at h
  · rename_i z code mx ret fr lo kd na rows pc1 L1 st1 σ1 nc1 ns1 hM hcase
    cases hcase
    split at h
    · rename_i ins len x1 x2 x3 hl
      refine ⟨z, code, mx, ret, fr, lo, kd, na, rows, ins, len, x1, x2, x3, hM, hl, ?_⟩
      split at h
      · rename_i a' ha
        exact Or.inl ⟨a', ha, h⟩
      · split at h
        · rename_i r hr
          exact Or.inr (Or.inl ⟨r, hr, (Option.some.inj h).symm⟩)
        · split at h
          · rename_i vs rest mz hp
            split at h
            · rename_i o1 ho1
              split at h
              · rename_i a' ha
                exact Or.inr (Or.inr ⟨vs, rest, mz, o1, a', hp, ho1, ha, h⟩)
              · cases h
            · cases h
          · cases h
    · cases h
  · cases h
theorem zback_eq {rest : List Value} {pc : Nat} {L : List (Option Value)} {σ σ' : List zC} {nc ns dc ds : Nat} {v : Option Value} {a' : zS} (h : zback rest pc L σ nc ns (v, σ', dc, ds) = some a') : a' = (pc + 3, L, v.toList ++ rest, σ', nc + dc, ns + ds) ∧ znrO v = true ∧ (dc = 0 ∨ (zlok σ.length L = true ∧ rest.all (zvok σ.length) = true)) := by
  simp only [zback] at h
  split at h
  · rename_i hv
    cases Option.some.inj h
    exact ⟨rfl, hv, Or.inl rfl⟩
  · rename_i d hv
    split at h
    · rename_i hc
      rw [Bool.and_eq_true] at hc
      cases Option.some.inj h
      exact ⟨rfl, hv, Or.inr hc⟩
    · cases h
  · cases h
theorem zrun_mono {P : List zM} {fty : Nat → Nat → FieldType} {cd : List (List Value)} : ∀ (f : Nat) (scr : Option (List Int32)) (y : Nat) (a : zS) (o : zO), zrun P fty cd f scr y a = some o → a.2.2.2.2.1 ≤ o.2.2.1 ∧ a.2.2.2.2.2 ≤ o.2.2.2
  | 0, _, _, _, _, h => by cases h
  | f + 1, scr, y, (pc, L, st, σ, nc, ns), o, h => by
    obtain ⟨z, code, mx, ret, fr, lo, kd, na, rows, ins, len, x1, x2, x3, -, -, hh⟩ := zrun_inv h
    rcases hh with ⟨a', h1, h2⟩ | ⟨r, -, rfl⟩ | ⟨vs, rest, mz, ⟨v, σ', dc, ds⟩, a', -, -, h1, h2⟩
    · have e1 := z_mono h1
      have e2 := zrun_mono f scr y a' o h2
      exact ⟨Nat.le_trans e1.1 e2.1, Nat.le_trans e1.2 e2.2⟩
    · exact ⟨Nat.le_refl _, Nat.le_refl _⟩
    · have e2 := zrun_mono f scr y a' o h2
      obtain ⟨rfl, -, -⟩ := zback_eq h1
      exact ⟨Nat.le_trans (Nat.le_add_right nc dc) e2.1, Nat.le_trans (Nat.le_add_right ns ds) e2.2⟩
theorem zret_eq {ret : Option FieldType} {ins : Jvm.ClassFile.Instr} {st : List Value} {r : Option Value} (h : zret ret ins st = some r) : st = r.toList ∧ ((ins = .ireturn ∧ ∃ v ty, r = some (.int v) ∧ ret = some ty ∧ zfit ty (.int v) = true) ∨ (ins = .lreturn ∧ ∃ v, r = some (.long v) ∧ ret = some .long) ∨ (ins = .return_ ∧ r = none ∧ ret = none)) := by
  cases ins with
  | ireturn =>
    simp only [zret] at h
    split at h
    · split at h
      · rename_i hz
        cases Option.some.inj h
        exact ⟨rfl, Or.inl ⟨rfl, _, _, rfl, rfl, hz⟩⟩
      · cases h
    · cases h
  | lreturn =>
    simp only [zret] at h
    split at h
    · cases Option.some.inj h
      exact ⟨rfl, Or.inr (Or.inl ⟨rfl, _, rfl, rfl⟩)⟩
    · cases h
  | return_ =>
    simp only [zret] at h
    split at h
    · cases Option.some.inj h
      exact ⟨rfl, Or.inr (Or.inr ⟨rfl, rfl, rfl⟩)⟩
    · cases h
  | _ => cases (show (none : Option (Option Value)) = some r from h)
theorem ztake_eq {n : Nat} {st vs rest : List Value} (h : ztake n st = some (vs, rest)) : st = vs.reverse ++ rest ∧ vs.length = n ∧ (rest.map fun v => v.category).sum ≤ 8 := by
  simp only [ztake] at h
  split at h
  · rename_i hb
    rw [Bool.and_eq_true] at hb
    cases Option.some.inj h
    have hl := Nat.le_of_ble_eq_true hb.1
    refine ⟨by rw [List.reverse_reverse, List.take_append_drop], ?_, Nat.le_of_ble_eq_true hb.2⟩
    rw [List.length_reverse, List.length_take]
    omega
  · cases h
theorem zent_at {ad : Nat → Nat} : ∀ (vs : List Value) (i : Nat) (v : Value), (zent0 vs)[i]? = some (some v) → (lg_sl (vs.map (zv ad)))[i]? = some (.val (zv ad v))
  | [], i, v, h => by simp [zent0] at h
  | w :: vs, i, v, h => by
    have e1 : zent0 (w :: vs) = (if w.category = 2 then [some w, none] else [some w]) ++ zent0 vs := rfl
    have e2 : lg_sl ((w :: vs).map (zv ad)) = (if w.category = 2 then [.val (zv ad w), .second] else [.val (zv ad w)]) ++ lg_sl (vs.map (zv ad)) := by
      have e3 : lg_sl ((w :: vs).map (zv ad)) = (if (zv ad w).category = 2 then [.val (zv ad w), .second] else [.val (zv ad w)]) ++ lg_sl (vs.map (zv ad)) := rfl
      rw [e3, zv_cat]
    rw [e1] at h
    rw [e2]
    by_cases hc : w.category = 2
    · rw [if_pos hc] at h ⊢
      match i, h with
      | 0, h => cases h; rfl
      | 1, h => cases h
      | i + 2, h => exact zent_at vs i v h
    · rw [if_neg hc] at h ⊢
      match i, h with
      | 0, h => cases h; rfl
      | i + 1, h => exact zent_at vs i v h
theorem zent_len (ad : Nat → Nat) : ∀ vs : List Value, (lg_sl (vs.map (zv ad))).length = (zent0 vs).length
  | [] => rfl
  | w :: vs => by
    have e1 : zent0 (w :: vs) = (if w.category = 2 then [some w, none] else [some w]) ++ zent0 vs := rfl
    have e2 : lg_sl ((w :: vs).map (zv ad)) = (if w.category = 2 then [.val (zv ad w), .second] else [.val (zv ad w)]) ++ lg_sl (vs.map (zv ad)) := by
      have e3 : lg_sl ((w :: vs).map (zv ad)) = (if (zv ad w).category = 2 then [.val (zv ad w), .second] else [.val (zv ad w)]) ++ lg_sl (vs.map (zv ad)) := rfl
      rw [e3, zv_cat]
    rw [e1, e2, List.length_append, List.length_append, zent_len ad vs]
    by_cases hc : w.category = 2
    · rw [if_pos hc, if_pos hc]; rfl
    · rw [if_neg hc, if_neg hc]; rfl
def zml (host own : String) (Ts Ns : List Cond) (idx : Nat) (z : MethodName) : Prop := Cond.methodLink own idx z ∈ Ts ∨ Cond.methodLinkNest own idx z host ∈ Ns
def zokc (host own : String) (Ts Ns : List Cond) (cl : List vw_C) (P : List zM) (fr lo : Nat) (ins : Jvm.ClassFile.Instr) (x1 x2 x3 : Nat) : Prop := match ins with
  | .invokestatic idx => ∀ z code mz ret fz lz kd na rows, P[x1]? = some (z, code, mz, ret, fz, lz, kd, na, rows) → kd = 0 ∧ x2 = na ∧ zml host own Ts Ns idx z ∧ fz + 1 ≤ fr ∧ 8 + (mz + 11) + lz ≤ lo
  | .invokevirtual idx => ∀ z code mz ret fz lz kd na rows, P[x1]? = some (z, code, mz, ret, fz, lz, kd, na, rows) → (∃ q, cl[x3]? = some q ∧ q.1 = z.cls) ∧ kd = 2 ∧ x2 = na + 1 ∧ zml host own Ts Ns idx z ∧ fz + 1 ≤ fr ∧ 8 + (mz + 11) + lz ≤ lo
  | .invokespecial idx => 1 ≤ x3 → ∀ z code mz ret fz lz kd na rows, P[x1]? = some (z, code, mz, ret, fz, lz, kd, na, rows) → kd = 1 ∧ x2 = na + 1 ∧ zml host own Ts Ns idx z ∧ fz + 1 ≤ fr ∧ 8 + (mz + 11) + lz ≤ lo
  | _ => True
/-- a method that may be called: its words -/
def zmeth (Ts : List Cond) (M : zM) : Prop := match M with
  | (z, code, mx, ret, _, _, kd, na, _) => Cond.code z code mx ret ∈ Ts ∧ Cond.initialized z.cls ∈ Ts ∧ (z.cls ≠ "java/lang/invoke/MethodHandle" ∧ z.cls ≠ "java/lang/invoke/VarHandle") ∧ (parseMethodDescriptor z.desc).map (fun d => d.parameters.length) = some na ∧ plainFor z = true ∧ (kd = 0 → Cond.static z ∈ Ts) ∧ (kd = 1 → z.name = "<init>" ∧ Cond.instanceMethod z ∈ Ts ∧ ret = none) ∧ (kd = 2 → Cond.instanceMethod z ∈ Ts ∧ Cond.selects z.cls z z ∈ Ts)
def zrowok (host : String) (Ts Ns : List Cond) (cl : List vw_C) (P : List zM) (M : zM) (row : Nat × zI) : Prop := match M, row with
  | (z, code, _, _, fr, lo, _, _, _), (pc, ins, len, x1, x2, x3) => decode code pc = .ok (ins, zlen ins len) ∧ zoki host z.cls z.name Ts Ns cl fr lo ins x1 x2 x3 ∧ zokc host z.cls Ts Ns cl P fr lo ins x1 x2 x3
/-- the program is as its tables say -/
def zprog (host : String) (Ts Ns : List Cond) (cl : List vw_C) (P : List zM) : Prop := ∀ (y : Nat) (M : zM), P[y]? = some M → (Nat.ble M.2.2.2.2.2.2.1 2 = true → zmeth Ts M) ∧ ∀ row ∈ M.2.2.2.2.2.2.2.2, zrowok host Ts Ns cl P M row
section
variable {p : Program} {l : Launch} {e : Env} {R : Room} {s : State} {m : MethodId} {args : Array Value} {below : List Frame} {meth : Method} {c : Code} {Q : State → Prop} {D : va_G} {cl : List vw_C} {cT : FieldType → ClassId} {A : Nat → Prop} {H0 H : Heap} {maxL : Nat} {ad0 ad : Nat → Nat} {n0 : Nat}
variable {cc : ByteArray} {own nm host : String} {Ts Ns : List Cond} {L : List (Option Value)} {σ : List zC} {pc nc ns : Nat} {rest : List Value} {locs : List Loc} {ls : Array Slot}
theorem z_callW {o : zO} {st0 rest9 : List Value} {A1 : Nat → Prop} {a : Array Value} {n : Nat} (hr : va_Run p l e R s m args below meth c H locs nc ns o.2.2.1 o.2.2.2 (F0 m pc ls st0) rest9 (zQ D cl cT o ad n A1 a) A1) (hS : va_S A H0 H locs) (hA : ∀ q, A1 q → A q)
    (kk : ∀ (u : Nat → Nat) (H1 : Heap) (locs1 : List Loc), va_P D cl (zws cT u o.2.1) H1 → va_D A1 (zws cT u o.2.1) → (o.2.2.1 = 0 → u = ad) → (∀ k, k ≤ n → u k = ad k) → n ≤ o.2.1.length → va_S A H0 H1 locs1 → W p l e R s m args below meth c H1 locs1 (nc + o.2.2.1) (ns + o.2.2.2) Q (F0 m (pc + 3) ls (o.1.toList ++ rest9))) : W p l e R s m args below meth c H locs nc ns Q (F0 m pc ls st0) := by
  intro T hT X
  obtain ⟨v, st₀, t, T', L9, h0, X', hL, e1, e2, ⟨⟨u, hv, p1, p2, p3, p4, p5⟩, hz, hk⟩, st⟩ := hr T hT X
  have hv' : v = o.1 := by injection hv
  subst hv'
  rw [h0] at hz hk
  obtain ⟨t2, a1, b1⟩ := kk u T'.heap (locs ++ L9) (by rw [e1]; exact p1) p2 p3 p4 p5 ⟨Nat.le_trans hS.1 (by rw [e1]; exact hz), fun q h1 h2 => by rw [e1, hk q (Nat.lt_of_lt_of_le h1 hS.1) (fun z => h2 (hA q z))]; exact hS.2.1 q h1 h2, fun q hq => by
      rcases List.mem_append.mp hq with h | h
      · exact hS.2.2 q h
      · exact hA _ (hL q h)⟩ T' rfl X'
  exact ⟨t2, st t2 a1, b1⟩
theorem z_after (rr : zrel D cl cT A H0 maxL ad0 n0 L σ nc ad H locs ls) (hA : ∀ q, va_A (zws cT ad σ) H.size q → A q) {o : zO} {a' : zS} (hbk : zback rest pc L σ nc ns o = some a') (k : zW p l e R s m args below meth c Q D cl cT A H0 maxL ad0 n0 a') :
    ∀ (u : Nat → Nat) (H1 : Heap) (locs1 : List Loc), va_P D cl (zws cT u o.2.1) H1 → va_D (va_A (zws cT ad σ) H.size) (zws cT u o.2.1) → (o.2.2.1 = 0 → u = ad) → (∀ k, k ≤ σ.length → u k = ad k) → σ.length ≤ o.2.1.length → va_S A H0 H1 locs1 → W p l e R s m args below meth c H1 locs1 (nc + o.2.2.1) (ns + o.2.2.2) Q (F0 m (pc + 3) ls (o.1.toList ++ rest.map (zv ad))) := by
  obtain ⟨v, σ', dc, ds⟩ := o
  obtain ⟨rfl, hv, hc⟩ := zback_eq hbk
  intro u H1 locs1 hP hD hu hn hle hS
  obtain ⟨⟨r1, r2, r3, r4⟩, r5, r6, r7, r8⟩ := rr
  have hL : ∀ (i : Nat) (w : Value), L[i]? = some (some w) → zv u w = zv ad w := by
    intro i w hw
    rcases hc with hc | hc
    · rw [hu hc]
    · exact zv_congr hn (List.all_eq_true.mp hc.1 (some w) (List.mem_of_getElem? hw))
  have hR : rest.map (zv u) = rest.map (zv ad) := by
    rcases hc with hc | hc
    · rw [hu hc]
    · exact zmap_congr hn hc.2
  have hV : v.toList.map (zv u) = v.toList := by
    cases v with
    | none => rfl
    | some w => simp only [Option.toList_some, List.map_cons, List.map_nil, zv_nr (v := w) hv]
  have k' := k u H1 locs1 ls ⟨⟨r1, r2, r3, fun i w hw => by rw [hL i w hw]; exact r4 i w hw⟩, ⟨hP, hD.weaken (fun _ _ _ h => hA _ h), hS⟩, fun h9 => have h10 : nc + dc = 0 := h9; (hu (show dc = 0 by omega)).trans (r6 (show nc = 0 by omega)), fun k hk => (hn k (Nat.le_trans hk r8)).trans (r7 k hk), Nat.le_trans r8 hle⟩
  simp only [List.map_append, hV, hR] at k'
  exact k'
theorem z_entry (vs : List Value) (hl : (zent0 vs).length ≤ maxL) : ∃ ls : Array Slot, entryFrame m (vs.map (zv ad)).toArray maxL = F0 m 0 ls [] ∧ ls.size = maxL ∧ lv_wf ls ∧ (zent vs maxL).length = maxL ∧ ∀ (i : Nat) (v : Value), (zent vs maxL)[i]? = some (some v) → ls[i]? = some (.val (zv ad v)) := by
  have hl2 : (lg_sl (vs.map (zv ad))).length ≤ maxL := by rw [zent_len]; exact hl
  have h := lv_entry (vs.map (zv ad)) hl2
  refine ⟨_, lg_entry_eq m _ _, h.1, h.2.1, ?_, fun i v hv => ?_⟩
  · simp only [zent, List.length_append, List.length_replicate]
    omega
  · have hi : i < (zent0 vs).length := by
      rcases Nat.lt_or_ge i (zent0 vs).length with h9 | h9
      · exact h9
      · rw [zent, List.getElem?_append_right h9, List.getElem?_replicate] at hv
        split at hv <;> cases hv
    rw [zent, List.getElem?_append_left hi] at hv
    rw [List.getElem?_toArray, List.getElem?_append_left (by rw [zent_len]; exact hi)]
    exact zent_at vs i v hv
end
end ZMK
/-! The run of a method is the machine's: the induction over the fuel. -/
section ZML
theorem zprep_eq {P : List zM} {ins : Jvm.ClassFile.Instr} {x1 x2 x3 : Nat} {st vs rest : List Value} {σ : List zC} {mz : Nat} (h : zprep P ins x1 x2 x3 st σ = some (vs, rest, mz)) :
    ∃ (z : MethodName) (code : ByteArray) (ret : Option FieldType) (fr lo kd na : Nat) (rows : List (Nat × zI)), P[x1]? = some (z, code, mz, ret, fr, lo, kd, na, rows) ∧ ztake x2 st = some (vs, rest) ∧ (zent0 vs).length ≤ mz ∧
      ((∃ i, ins = .invokestatic i) ∨ (∃ i k as, ins = .invokespecial i ∧ vs = .ref k :: as ∧ 1 ≤ x3) ∨ (∃ i k as fs, ins = .invokevirtual i ∧ vs = .ref k :: as ∧ zcell σ k = some (.inl (x3, fs)))) := by
  cases ins with
  | invokestatic i =>
    simp only [zprep] at h
    split at h
    · rename_i as1 rest1 z code mz1 ret fr lo kd na rows h1 h2
      split at h
      · rename_i h3
        cases Option.some.inj h
        exact ⟨z, code, ret, fr, lo, kd, na, rows, h2, h1, Nat.le_of_ble_eq_true h3, Or.inl ⟨i, rfl⟩⟩
      · cases h
    · cases h
  | invokespecial i =>
    simp only [zprep] at h
    split at h
    · rename_i k as1 rest1 z code mz1 ret fr lo kd na rows h1 h2
      split at h
      · rename_i h3
        rw [Bool.and_eq_true] at h3
        cases Option.some.inj h
        exact ⟨z, code, ret, fr, lo, kd, na, rows, h2, h1, Nat.le_of_ble_eq_true h3.1, Or.inr (Or.inl ⟨i, k, as1, rfl, rfl, Nat.le_of_ble_eq_true h3.2⟩)⟩
      · cases h
    · cases h
  | invokevirtual i =>
    simp only [zprep] at h
    split at h
    · rename_i k as1 rest1 z code mz1 ret fr lo kd na rows h1 h2
      split at h
      · rename_i ci fs h3 h4
        split at h
        · rename_i h5
          cases Option.some.inj h
          have e9 : ci = x3 := Nat.eq_of_beq_eq_true h5
          subst e9
          exact ⟨z, code, ret, fr, lo, kd, na, rows, h2, h1, Nat.le_of_ble_eq_true h3, Or.inr (Or.inr ⟨i, k, as1, fs, rfl, rfl, h4⟩)⟩
        · cases h
      · cases h
    · cases h
  | _ => cases (show (none : Option (List Value × List Value × Nat)) = some _ from h)
/-- zrun's answer at a fuel is the machine's -/
def zMain (l : Launch) (D : va_G) (cl : List vw_C) (cT : FieldType → ClassId) (Ts Ns : List Cond) (P : List zM) (fty : Nat → Nat → FieldType) (cd : List (List Value)) (f : Nat) : Prop :=
  ∀ (scr : Option (List Int32)) (y : Nat) (z : MethodName) (code : ByteArray) (mx : Nat) (ret : Option FieldType) (fr lo kd na : Nat) (rows : List (Nat × zI)) (a : zS) (o : zO), P[y]? = some (z, code, mx, ret, fr, lo, kd, na, rows) → zrun P fty cd f scr y a = some o →
  ∀ (p : Program) (e : Env) (R : Room) (s : State) (m : MethodId) (args : Array Value) (below : List Frame) (meth : Method) (c : Code) (Q : State → Prop) (A : Nat → Prop) (H0 : Heap) (ad0 : Nat → Nat) (n0 : Nat),
  zctx p s m args meth c code mx z.cls z.name Ts Ns D cl cT A H0 → zscr scr s H0 A ad0 → fr ≤ R.frames ∧ lo ≤ R.locals → o.2.2.1 ≤ R.cells ∧ o.2.2.2 ≤ R.slots →
  (∀ (pc : Nat) (ins : Jvm.ClassFile.Instr) (len : Nat) (L : List (Option Value)) (ad : Nat → Nat) (H : Heap) (locs : List Loc) (ls : Array Slot), decode code pc = .ok (ins, zlen ins len) → zret ret ins o.1.toList = some o.1 → zrel D cl cT A H0 mx ad0 n0 L o.2.1 o.2.2.1 ad H locs ls → W p l e R s m args below meth c H locs o.2.2.1 o.2.2.2 Q (F0 m pc ls o.1.toList)) →
  zW p l e R s m args below meth c Q D cl cT A H0 mx ad0 n0 a
variable {l : Launch} {D : va_G} {cl : List vw_C} {cT : FieldType → ClassId} {host : String} {Ts Ns : List Cond} {P : List zM} {fty : Nat → Nat → FieldType} {cd : List (List Value)}
theorem z_met (hP : zprog host Ts Ns cl P) {f : Nat} (IH : zMain l D cl cT Ts Ns P fty cd f) {x1 : Nat} {z : MethodName} {code : ByteArray} {mx : Nat} {ret : Option FieldType} {fr lo kd na : Nat} {rows : List (Nat × zI)} {vs : List Value} {σ : List zC} {o : zO} (hM : P[x1]? = some (z, code, mx, ret, fr, lo, kd, na, rows)) (hkd : Nat.ble kd 2 = true) (hl : (zent0 vs).length ≤ mx) (hrun : zrun P fty cd f none x1 (0, zent vs mx, [], σ, 0, 0) = some o) (ad : Nat → Nat) (sz : Nat) :
    Met l z (Cond.code z code mx ret :: Ts) { frames := fr, cells := o.2.2.1, slots := o.2.2.2, locals := lo } (zPc D cl cT Ns vs σ ad sz) (zQ D cl cT o ad σ.length (va_A (zws cT ad σ) sz)) o.2.2.1 o.2.2.2 (va_A (zws cT ad σ) sz) := by
  have hmm := (hP x1 _ hM).1 hkd
  obtain ⟨m1, m2, m3, m4, m5, -⟩ := hmm
  refine va_MetF (cc := code) (maxL := mx) (ret := ret) m5 rfl ?_
  intro p e s m args below meth c s₁ B hml hv
  obtain ⟨rfl, rfl, hPp, hK, hNn, hD0⟩ := hv
  have hts := atoms_spec (ws := Cond.code z code mx ret :: Ts) B.pre
  obtain ⟨ls, he, h1, h2, h3, h4⟩ := z_entry (m := m) (ad := ad) (maxL := mx) vs hl
  rw [he]
  have X : zctx p s m (vs.map (zv ad)).toArray meth c code mx z.cls z.name Ts Ns D cl cT (va_A (zws cT ad σ) s.heap.size) s.heap := ⟨B.exec, B.bytes, hml, findClass_of_methodNamed B.named, fun w hw => hts w (List.mem_cons_of_mem _ hw), hNn, hK, fun q hq => Or.inr hq, fun h9 => ((name_of_methodNamed B.named B.method).1).trans h9⟩
  refine IH none x1 z code mx ret fr lo kd na rows (0, zent vs mx, [], σ, 0, 0) o hM hrun p e _ s m _ below meth c _ _ s.heap ad σ.length X (fun xs h => by cases h) ⟨Nat.le_refl _, Nat.le_refl _⟩ ⟨Nat.le_refl _, Nat.le_refl _⟩ ?_ ad s.heap [] ls ⟨⟨h1, h2, h3, h4⟩, ⟨hPp, hD0.self, va_S.rf⟩, fun _ => rfl, fun _ _ => rfl, Nat.le_refl _⟩
  obtain ⟨r, σ', nc', ns'⟩ := o
  intro pc ins len L ad' H locs ls' hd hr rel
  obtain ⟨-, hcase⟩ := zret_eq hr
  rcases hcase with ⟨rfl, v, ty, e1, e2, e3⟩ | ⟨rfl, v, e1, e2⟩ | ⟨rfl, e1, e2⟩
  · have e1 : r = some (.int v) := e1
    subst e1
    exact W.zret B.exec B.bytes (B.returns.trans e2) (zfit_nar e3).1 (fun t ht hW => ⟨⟨ad', rfl, by rw [ht]; exact rel.2.1.1, rel.2.1.2.1, rel.2.2.1, rel.2.2.2.1, rel.2.2.2.2⟩, rel.2.1.2.2.F ht⟩) rel.2.1.2.2.2.2 hd
  · have e1 : r = some (.long v) := e1
    subst e1
    exact W.lret B.exec B.bytes (B.returns.trans e2) (fun t ht hW => ⟨⟨ad', rfl, by rw [ht]; exact rel.2.1.1, rel.2.1.2.1, rel.2.2.1, rel.2.2.2.1, rel.2.2.2.2⟩, rel.2.1.2.2.F ht⟩) rel.2.1.2.2.2.2 hd
  · have e1 : r = none := e1
    subst e1
    exact W.vret B.exec B.bytes (B.returns.trans e2) (fun t ht hW => ⟨⟨ad', rfl, by rw [ht]; exact rel.2.1.1, rel.2.1.2.1, rel.2.2.1, rel.2.2.2.1, rel.2.2.2.2⟩, rel.2.1.2.2.F ht⟩) rel.2.1.2.2.2.2 hd
set_option maxHeartbeats 4000000 in
theorem z_main (hCl : zcl Ts fty cd cl) (hP : zprog host Ts Ns cl P) (hG : ∀ w ∈ Ts, goodWord w = true) (hN : ∀ w ∈ Ns, znest w = true) : ∀ f : Nat, zMain l D cl cT Ts Ns P fty cd f
  | 0 => fun scr y z code mx ret fr lo kd na rows a o hM h => by cases h
  | f + 1 => by
    have IH := z_main hCl hP hG hN f
    intro scr y z code mx ret fr lo kd na rows a o hM h p e R s m args below meth c Q A H0 ad0 n0 X hscr hfl hroom K
    obtain ⟨pc, L, st, σ, nc, ns⟩ := a
    obtain ⟨z', code', mx', ret', fr', lo', kd', na', rows', ins, len, x1, x2, x3, hM', hlook, hcase⟩ := zrun_inv h
    cases hM.symm.trans hM'
    have hrow := (hP y _ hM).2 _ (zlook_mem hlook)
    obtain ⟨hd, hok, hcall⟩ := hrow
    rcases hcase with ⟨a', h1, h2⟩ | ⟨r, h1, rfl⟩ | ⟨vs, rest, mz, o1, a', h1, h2, h3, h4⟩
    · have hmo := zrun_mono f scr y a' o h2
      exact z_step X hCl hscr hfl hd hok h1 ⟨Nat.le_trans hmo.1 hroom.1, Nat.le_trans hmo.2 hroom.2⟩ (IH scr y z code mx ret fr lo kd na rows a' o hM h2 p e R s m args below meth c Q A H0 ad0 n0 X hscr hfl hroom K)
    · obtain ⟨e1, hc⟩ := zret_eq h1
      subst e1
      intro ad H locs ls rr
      have e2 : r.toList.map (zv ad) = r.toList := by
        rcases hc with ⟨-, v, ty, rfl, -, -⟩ | ⟨-, v, rfl, -⟩ | ⟨-, rfl, -⟩ <;> rfl
      show W p l e R s m args below meth c H locs nc ns Q (F0 m pc ls (r.toList.map (zv ad)))
      rw [e2]
      exact K pc ins len L ad H locs ls hd h1 rr
    · have kk := IH scr y z code mx ret fr lo kd na rows a' o hM h4 p e R s m args below meth c Q A H0 ad0 n0 X hscr hfl hroom K
      have hmo := zrun_mono f scr y a' o h4
      obtain ⟨hx, hb, hml, hown, hts, hns, hK, hA, hnm⟩ := id X
      obtain ⟨zz, cz, rz, fz, lz, kz, nz, rwz, hZ, htk, hlen, hkind⟩ := zprep_eq h1
      obtain ⟨e1, e2, e3⟩ := ztake_eq htk
      subst e1
      have hroom2 : nc + o1.2.2.1 ≤ R.cells ∧ ns + o1.2.2.2 ≤ R.slots := by
        obtain ⟨v1, σ1, dc, ds⟩ := o1
        obtain ⟨rfl, -, -⟩ := zback_eq h3
        exact ⟨Nat.le_trans hmo.1 hroom.1, Nat.le_trans hmo.2 hroom.2⟩
      intro ad H locs ls rr
      have hA1 : ∀ q, va_A (zws cT ad σ) H.size q → A q := fun q hq => by
        rcases hq with ⟨k9, e9, h9⟩ | h9
        · exact rr.2.1.2.1.2 k9 _ h9
        · exact hA q (Nat.le_trans rr.2.1.2.2.1 h9)
      have hcat : ((rest.map (zv ad)).map fun v => v.category).sum ≤ 8 := by
        rw [List.map_map, show ((fun v => Value.category v) ∘ zv ad) = (fun v => v.category) from funext fun v => zv_cat ad v]
        exact e3
      have hpre : ∀ U : State, U.heap = H → s.WarmedH U.vm → zPc D cl cT Ns vs σ ad H.size (vs.map (zv ad)).toArray U := fun U hU hW => ⟨rfl, by rw [hU], by rw [hU]; exact rr.2.1.1, zK.moved hW.alike hK, fun w hw => znest_warm (hN w hw) hW (hns w hw), rr.2.1.2.1.weaken (fun _ _ _ _ => trivial)⟩
      show W p l e R s m args below meth c H locs nc ns Q (F0 m pc ls ((vs.reverse ++ rest).map (zv ad)))
      have estk : (vs.reverse ++ rest).map (zv ad) = (vs.map (zv ad)).reverse ++ rest.map (zv ad) := by rw [List.map_append, List.map_reverse]
      rw [estk]
      have hmet := fun hk : Nat.ble kz 2 = true => z_met hP IH hZ hk hlen h2 ad H.size
      have hmeth := (hP x1 _ hZ).1
      have hgood : Cond.code zz cz mz rz ∈ Ts → GoodIn Ts (Cond.code zz cz mz rz :: Ts) := fun hh w hw => by
        rcases List.mem_cons.mp hw with rfl | h9
        · exact ⟨hh, good_of_word (hG _ hh)⟩
        · exact ⟨h9, good_of_word (hG w h9)⟩
      rcases hkind with ⟨i, rfl⟩ | ⟨i, k9, as, rfl, rfl, hx3⟩ | ⟨i, k9, as, fs, rfl, rfl, hrc⟩
      · obtain ⟨e9, e8, c3, c4, c5⟩ := hcall _ _ _ _ _ _ _ _ _ hZ
        subst e9
        subst e8
        obtain ⟨m1, m2, m3, m4, m5, m6, -, -⟩ := hmeth rfl
        have m6 := m6 rfl
        refine z_callW (a := (vs.map (zv ad)).toArray) ?_ rr.2.1.2.2 hA1 (z_after rr hA1 h3 kk)
        rcases c3 with c3 | c3
        · exact va_runS (As := vs.map (zv ad)) ⟨hx, hb, hml, hown, hts⟩ (hmet rfl) ⟨callB_of x2 hts (hgood m1) rfl rfl rfl (hts _ m2) (hts _ c3) ⟨m3.1, m3.2, m4⟩ ⟨Nat.le_trans c4 hfl.1, Nat.le_trans c5 hfl.2⟩, hts _ m6⟩ ⟨zPc_blind hN, hpre⟩ rfl (by rw [List.length_map]; exact e2) rr.1.1 rfl (lv_room hcat) hd hroom2
        · exact va_runSN (As := vs.map (zv ad)) ⟨hx, hb, hml, hown, hts⟩ (hmet rfl) ⟨va_cnB x2 hts (hgood m1) rfl rfl rfl (hns _ c3) (hts _ m2) ⟨m3.1, m3.2, m4⟩ ⟨Nat.le_trans c4 hfl.1, Nat.le_trans c5 hfl.2⟩, hts _ m6, trivial⟩ ⟨zPc_blind hN, hpre⟩ rfl (by rw [List.length_map]; exact e2) rr.1.1 rfl (lv_room hcat) hd hroom2
      · cases x3 with
        | zero => exact absurd hx3 (by omega)
        | succ x3 =>
          obtain ⟨e9, e8, c3, c4, c5⟩ := hcall hx3 _ _ _ _ _ _ _ _ _ hZ
          subst e9
          obtain ⟨m1, m2, m3, m4, m5, -, m678, -⟩ := hmeth rfl
          obtain ⟨m6, m7, m8⟩ := m678 rfl
          subst m8
          have hle : (as.map (zv ad)).length = nz := by
            rw [List.length_map]
            rw [e8, List.length_cons] at e2
            omega
          refine z_callW (a := (Value.ref (ad k9) :: as.map (zv ad)).toArray) ?_ rr.2.1.2.2 hA1 (z_after rr hA1 h3 kk)
          rcases c3 with c3 | c3
          · exact va_runI (b := ad k9) (As := as.map (zv ad)) ⟨hx, hb, hml, hown, hts⟩ (hmet rfl) ⟨callB_of nz hts (hgood m1) rfl rfl rfl (hts _ m2) (hts _ c3) ⟨m3.1, m3.2, m4⟩ ⟨Nat.le_trans c4 hfl.1, Nat.le_trans c5 hfl.2⟩, m6, hts _ m7⟩ ⟨zPc_blind hN, hpre⟩ rfl hle rr.1.1 (by simp [zv]) (lv_room hcat) hd hroom2
          · exact va_runIN (b := ad k9) (As := as.map (zv ad)) ⟨hx, hb, hml, hown, hts⟩ (hmet rfl) ⟨va_cnB nz hts (hgood m1) rfl rfl rfl (hns _ c3) (hts _ m2) ⟨m3.1, m3.2, m4⟩ ⟨Nat.le_trans c4 hfl.1, Nat.le_trans c5 hfl.2⟩, m6, hts _ m7⟩ ⟨zPc_blind hN, hpre⟩ rfl hle rr.1.1 (by simp [zv]) (lv_room hcat) hd hroom2
      · obtain ⟨⟨q, hq, c0⟩, e9, e8, c3, c4, c5⟩ := hcall _ _ _ _ _ _ _ _ _ hZ
        subst e9
        obtain ⟨m1, m2, m3, m4, m5, -, -, m67⟩ := hmeth rfl
        obtain ⟨m6, m7⟩ := m67 rfl
        have hle : (as.map (zv ad)).length = nz := by
          rw [List.length_map]
          rw [e8, List.length_cons] at e2
          omega
        obtain ⟨j9, e7, hσ⟩ := zcell_at hrc
        subst e7
        obtain ⟨cellB, b1, b2, b3⟩ := va_recv hK.1 rr.2.1.1 hq (zws_get hσ)
        rw [c0] at b3
        refine z_callW (a := (Value.ref (ad (j9 + 1)) :: as.map (zv ad)).toArray) ?_ rr.2.1.2.2 hA1 (z_after rr hA1 h3 kk)
        rcases c3 with c3 | c3
        · exact va_runV (C := zz.cls) (b := ad (j9 + 1)) (As := as.map (zv ad)) ⟨hx, hb, hml, hown, hts⟩ (hmet rfl) ⟨callB_of nz hts (hgood m1) rfl rfl rfl (hts _ m2) (hts _ c3) ⟨m3.1, m3.2, m4⟩ ⟨Nat.le_trans c4 hfl.1, Nat.le_trans c5 hfl.2⟩, hts _ m6, hts _ m7⟩ ⟨zPc_blind hN, ⟨cellB, b1, b2, b3⟩, hpre⟩ rfl hle rr.1.1 (by simp [zv]) (lv_room hcat) hd hroom2
        · exact va_runVN (C := zz.cls) (b := ad (j9 + 1)) (As := as.map (zv ad)) ⟨hx, hb, hml, hown, hts⟩ (hmet rfl) ⟨va_cnB nz hts (hgood m1) rfl rfl rfl (hns _ c3) (hts _ m2) ⟨m3.1, m3.2, m4⟩ ⟨Nat.le_trans c4 hfl.1, Nat.le_trans c5 hfl.2⟩, hts _ m6, hts _ m7⟩ ⟨zPc_blind hN, ⟨cellB, b1, b2, b3⟩, hpre⟩ rfl hle rr.1.1 (by simp [zv]) (lv_room hcat) hd hroom2
end ZML
end
section
/-! Runs, by steps: zRn y a o: from the frame a of the method y it comes to the answer o. -/
section ZMX
variable {P : List zM} {fty : Nat → Nat → FieldType} {cd : List (List Value)}
theorem zone_case {ih : Option (List Int32) → Nat → zS → Option zO} {y : Nat} {scr : Option (List Int32)} {pc : Nat} {L : List (Option Value)} {st : List Value} {σ : List zC} {nc ns : Nat} {o : zO} (h : zone P fty cd ih scr y (pc, L, st, σ, nc, ns) = some o) :
    ∃ (z : MethodName) (code : ByteArray) (mx : Nat) (ret : Option FieldType) (fr lo kd na : Nat) (rows : List (Nat × zI)) (ins : Jvm.ClassFile.Instr) (len x1 x2 x3 : Nat), P[y]? = some (z, code, mx, ret, fr, lo, kd, na, rows) ∧ zlook rows pc = some (ins, len, x1, x2, x3) ∧
      ((∃ a', zstep scr fty cd ins x1 x2 x3 pc L st σ nc ns = some a' ∧ ih scr y a' = some o) ∨
       (∃ r, zstep scr fty cd ins x1 x2 x3 pc L st σ nc ns = none ∧ zret ret ins st = some r ∧ o = (r, σ, nc, ns)) ∨
       (∃ vs rest mz o1 a', zstep scr fty cd ins x1 x2 x3 pc L st σ nc ns = none ∧ zret ret ins st = none ∧ zprep P ins x1 x2 x3 st σ = some (vs, rest, mz) ∧ ih none x1 (0, zent vs mz, [], σ, 0, 0) = some o1 ∧ zback rest pc L σ nc ns o1 = some a' ∧ ih scr y a' = some o)) := by
  unfold zone at h
  split at h
  · rename_i z code mx ret fr lo kd na rows pc1 L1 st1 σ1 nc1 ns1 hM hcase
    cases hcase
    split at h
    · rename_i ins len x1 x2 x3 hl
      refine ⟨z, code, mx, ret, fr, lo, kd, na, rows, ins, len, x1, x2, x3, hM, hl, ?_⟩
      split at h
      · rename_i a' ha
        exact Or.inl ⟨a', ha, h⟩
      · rename_i hs
        split at h
        · rename_i r hr
          exact Or.inr (Or.inl ⟨r, hs, hr, (Option.some.inj h).symm⟩)
        · rename_i hr
          split at h
          · rename_i vs rest mz hp
            split at h
            · rename_i o1 ho1
              split at h
              · rename_i a' ha
                exact Or.inr (Or.inr ⟨vs, rest, mz, o1, a', hs, hr, hp, ho1, ha, h⟩)
              · cases h
            · cases h
          · cases h
    · cases h
  · cases h
theorem zone_up {ih ih' : Option (List Int32) → Nat → zS → Option zO} (hi : ∀ scr y a o, ih scr y a = some o → ih' scr y a = some o) {y : Nat} {scr : Option (List Int32)} {a : zS} {o : zO} (h : zone P fty cd ih scr y a = some o) : zone P fty cd ih' scr y a = some o := by
  obtain ⟨pc, L, st, σ, nc, ns⟩ := a
  obtain ⟨z, code, mx, ret, fr, lo, kd, na, rows, ins, len, x1, x2, x3, hM, hl, hc⟩ := zone_case h
  rcases hc with ⟨a', h1, h2⟩ | ⟨r, h1, h2, rfl⟩ | ⟨vs, rest, mz, o1, a', h1, h2, h3, h4, h5, h6⟩
  · simp only [zone, hM, hl, h1]
    exact hi _ _ _ _ h2
  · simp only [zone, hM, hl, h1, h2]
  · simp only [zone, hM, hl, h1, h2, h3, hi _ _ _ _ h4, h5]
    exact hi _ _ _ _ h6
theorem zrun_up1 : ∀ (f : Nat) (scr : Option (List Int32)) (y : Nat) (a : zS) (o : zO), zrun P fty cd f scr y a = some o → zrun P fty cd (f + 1) scr y a = some o
  | 0, _, _, _, _, h => by cases h
  | f + 1, scr, y, a, o, h => by
    rw [zrun_s] at h ⊢
    exact zone_up (fun scr y a o => zrun_up1 f scr y a o) h
theorem zrun_up {f g : Nat} (hg : f ≤ g) {scr : Option (List Int32)} {y : Nat} {a : zS} {o : zO} (h : zrun P fty cd f scr y a = some o) : zrun P fty cd g scr y a = some o := by
  induction hg with
  | refl => exact h
  | step _ ih => exact zrun_up1 _ _ _ _ _ ih
def zRn (P : List zM) (fty : Nat → Nat → FieldType) (cd : List (List Value)) (scr : Option (List Int32)) (y : Nat) (a : zS) (o : zO) : Prop := ∃ f, zrun P fty cd f scr y a = some o
/-- one step that is no call -/
def zst (P : List zM) (fty : Nat → Nat → FieldType) (cd : List (List Value)) (scr : Option (List Int32)) (y : Nat) (a : zS) : Option zS := match P[y]?, a with
  | some (_, _, _, _, _, _, _, _, rows), (pc, L, st, σ, nc, ns) => match zlook rows pc with
    | some (ins, _, x1, x2, x3) => zstep scr fty cd ins x1 x2 x3 pc L st σ nc ns
    | none => none
  | _, _ => none
def zsts (P : List zM) (fty : Nat → Nat → FieldType) (cd : List (List Value)) (scr : Option (List Int32)) (y : Nat) (n : Nat) : zS → Option zS :=
  Nat.rec (motive := fun _ => zS → Option zS) (fun a => some a) (fun _ ih a => (zst P fty cd scr y a).bind ih) n
theorem zRn_1 {scr : Option (List Int32)} {y : Nat} {a a' : zS} {o : zO} (h : zst P fty cd scr y a = some a') (k : zRn P fty cd scr y a' o) : zRn P fty cd scr y a o := by
  obtain ⟨f, hf⟩ := k
  refine ⟨f + 1, ?_⟩
  obtain ⟨pc, L, st, σ, nc, ns⟩ := a
  rw [zrun_s]
  unfold zst at h
  split at h
  · rename_i z code mx ret fr lo kd na rows pc1 L1 st1 σ1 nc1 ns1 hM hcase
    cases hcase
    split at h
    · rename_i ins len x1 x2 x3 hl
      simp only [zone, hM, hl, h]
      exact hf
    · cases h
  · cases h
theorem zRn_n {scr : Option (List Int32)} {y : Nat} {o : zO} : ∀ (n : Nat) {a a' : zS}, zsts P fty cd scr y n a = some a' → zRn P fty cd scr y a' o → zRn P fty cd scr y a o
  | 0, _, _, h, k => by cases Option.some.inj h; exact k
  | n + 1, a, a', h, k => by
    obtain ⟨b, h1, h2⟩ := Option.bind_eq_some_iff.mp (show (zst P fty cd scr y a).bind (zsts P fty cd scr y n) = some a' from h)
    exact zRn_1 h1 (zRn_n n h2 k)
/-- a return -/
def zend (P : List zM) (y : Nat) (a : zS) : Option zO := match P[y]?, a with
  | some (_, _, _, ret, _, _, _, _, rows), (pc, _, st, σ, nc, ns) => match zlook rows pc with
    | some (ins, _, _, _, _) => match zret ret ins st with
      | some r => some (r, σ, nc, ns)
      | none => none
    | none => none
  | _, _ => none
theorem zret_step {scr : Option (List Int32)} {ret : Option FieldType} {ins : Jvm.ClassFile.Instr} {x1 x2 x3 pc : Nat} {L : List (Option Value)} {st : List Value} {σ : List zC} {nc ns : Nat} {r : Option Value} (h : zret ret ins st = some r) : zstep scr fty cd ins x1 x2 x3 pc L st σ nc ns = none := by
  obtain ⟨-, hc⟩ := zret_eq h
  rcases hc with ⟨rfl, -⟩ | ⟨rfl, -⟩ | ⟨rfl, -⟩ <;> rfl
theorem zRn_ret {scr : Option (List Int32)} {y : Nat} {a : zS} {o : zO} (h : zend P y a = some o) : zRn P fty cd scr y a o := by
  refine ⟨1, ?_⟩
  obtain ⟨pc, L, st, σ, nc, ns⟩ := a
  rw [zrun_s]
  unfold zend at h
  split at h
  · rename_i z code mx ret fr lo kd na rows pc1 L1 st1 σ1 nc1 ns1 hM hcase
    cases hcase
    split at h
    · rename_i ins len x1 x2 x3 hl
      split at h
      · rename_i r hr
        cases Option.some.inj h
        simp only [zone, hM, hl, zret_step hr, hr]
      · cases h
    · cases h
  · cases h
/-- a call: the callee, its frame, and what is behind it -/
def zcallee (P : List zM) (y : Nat) (a : zS) : Option (Nat × zS × List Value) := match P[y]?, a with
  | some (_, _, _, _, _, _, _, _, rows), (pc, _, st, σ, _, _) => match zlook rows pc with
    | some (ins, _, x1, x2, x3) => match zprep P ins x1 x2 x3 st σ with
      | some (as, rest, mz) => some (x1, (0, zent as mz, [], σ, 0, 0), rest)
      | none => none
    | none => none
  | _, _ => none
theorem zprep_step {scr : Option (List Int32)} {ret : Option FieldType} {ins : Jvm.ClassFile.Instr} {x1 x2 x3 pc : Nat} {L : List (Option Value)} {st : List Value} {σ : List zC} {nc ns : Nat} {q : List Value × List Value × Nat} (h : zprep P ins x1 x2 x3 st σ = some q) : zstep scr fty cd ins x1 x2 x3 pc L st σ nc ns = none ∧ zret ret ins st = none := by
  obtain ⟨vs, rest, mz⟩ := q
  obtain ⟨z, code, r, fr, lo, kd, na, rows, -, -, -, hc⟩ := zprep_eq h
  rcases hc with ⟨i, rfl⟩ | ⟨i, k, as, rfl, -, hx⟩ | ⟨i, k, as, fs, rfl, -⟩
  · exact ⟨rfl, rfl⟩
  · refine ⟨?_, rfl⟩
    cases x3 with
    | zero => omega
    | succ x3 =>
      show (zp1r st).bind _ = none
      cases zp1r st with
      | none => rfl
      | some q => rfl
  · exact ⟨rfl, rfl⟩
theorem zRn_call {scr : Option (List Int32)} {y x1 : Nat} {pc : Nat} {L : List (Option Value)} {st rest : List Value} {σ : List zC} {nc ns : Nat} {b a' : zS} {o1 o : zO} (h : zcallee P y (pc, L, st, σ, nc, ns) = some (x1, b, rest)) (hc : zRn P fty cd none x1 b o1) (hb : zback rest pc L σ nc ns o1 = some a') (k : zRn P fty cd scr y a' o) : zRn P fty cd scr y (pc, L, st, σ, nc, ns) o := by
  obtain ⟨f, hf⟩ := hc
  obtain ⟨g, hg⟩ := k
  refine ⟨max f g + 1, ?_⟩
  rw [zrun_s]
  unfold zcallee at h
  split at h
  · rename_i z code mx ret fr lo kd na rows pc1 L1 st1 σ1 nc1 ns1 hM hcase
    cases hcase
    split at h
    · rename_i ins len y1 x2 x3 hl
      split at h
      · rename_i as rest1 mz hp
        cases Option.some.inj h
        have h0 := zprep_step (fty := fty) (cd := cd) (scr := scr) (ret := ret) (pc := pc) (L := L) (nc := nc) (ns := ns) hp
        simp only [zone, hM, hl, h0.1, h0.2, hp, zrun_up (Nat.le_max_left f g) hf, hb]
        exact zrun_up (Nat.le_max_right f g) hg
      · cases h
    · cases h
  · cases h
end ZMX
/-! The start: what the tables' words say of classes and array classes. -/
section ZMY
theorem z_over {args : Array Value} {s : State} {t : FieldType} (h : (Cond.arrayOver (.array t)).before args s = true) : ∃ comp c k, s.vm.findClass (FieldType.array t).toString = some comp ∧ s.vm.classes[c]? = some k ∧ k.kind = .array comp (.array t) ∧ s.vm.findClass ("[" ++ (FieldType.array t).toString) = some c := by
  unfold Cond.before at h
  simp only [Cond.holds, Cond.value, beq_iff_eq] at h
  cases hc : s.vm.findClass (FieldType.array t).toString with
  | none => simp [hc] at h
  | some comp =>
    simp only [hc, Option.bind_some, Option.bind_eq_some_iff, Option.map_eq_some_iff] at h
    obtain ⟨c, hi, k, hk, hb⟩ := h
    obtain ⟨hlt, hp, -⟩ := Array.findIdx?_eq_some_iff_getElem.mp hi
    have hkk : s.vm.classes[c] = k := (Array.getElem?_eq_some_iff.mp hk).2
    rw [hkk] at hp
    cases hkind : k.kind with
    | array component ty =>
      rw [hkind] at hb hp
      simp at hb hp
      exact ⟨comp, c, k, rfl, hk, by rw [hkind, hp, hb.1], hb.2⟩
    | _ => rw [hkind] at hb; simp at hb
theorem z_known {args : Array Value} {s : State} {Ts : List Cond} {cl : List vw_C} (hts : ∀ w ∈ Ts, w.before args s = true) (hcl : ∀ (ci : Nat) (q : vw_C), cl[ci]? = some q → (∀ w ∈ u_ws q.1 q.2.1 q.2.2, w ∈ Ts) ∧ Cond.instantiable q.1 q.2.2 ∈ Ts)
    (h1 : (Cond.arrayClass .int).before args s = true) (h2 : (Cond.arrayClass .long).before args s = true) (h3 : (Cond.arrayClass .char).before args s = true) (h4 : (Cond.arrayClass .boolean).before args s = true) (h5 : (Cond.arrayOver (.array .int)).before args s = true) (h6 : (Cond.arrayOver (.array .long)).before args s = true) : ∃ (D : va_G) (cT : FieldType → ClassId), zK D cl cT s := by
  have hk : ∀ c : Nat, ∃ (x : ClassId × (Nat → Nat)), ∀ q : vw_C, cl[c]? = some q → u_Kn s q.1 q.2.1 q.2.2 x.1 x.2 := by
    intro c
    cases hc : cl[c]? with
    | none => exact ⟨(0, fun _ => 0), fun q h => by cases h⟩
    | some q =>
      obtain ⟨a1, a2⟩ := hcl c q hc
      obtain ⟨cC, iS, hK⟩ := u_known hts a1 (hts _ a2)
      exact ⟨(cC, iS), fun q' h => by cases h; exact hK⟩
  obtain ⟨c1, k1, o1, f1, g1, d1⟩ := Cond.arrayClass_spec h1
  obtain ⟨c2, k2, o2, f2, g2, d2⟩ := Cond.arrayClass_spec h2
  obtain ⟨c3, k3, o3, f3, g3, d3⟩ := Cond.arrayClass_spec h3
  obtain ⟨c4, k4, o4, f4, g4, d4⟩ := Cond.arrayClass_spec h4
  obtain ⟨e5, c5, k5, i5, g5, d5, f5⟩ := z_over h5
  obtain ⟨e6, c6, k6, i6, g6, d6, f6⟩ := z_over h6
  have q5 : e5 = c1 := Option.some.inj (i5.symm.trans f1)
  have q6 : e6 = c2 := Option.some.inj (i6.symm.trans f2)
  subst q5
  subst q6
  refine ⟨(fun c => (Classical.choose (hk c)).1, fun c => (Classical.choose (hk c)).2), fun t => match t with | .int => e5 | .long => e6 | .char => c3 | .boolean => c4 | .array .int => c5 | .array .long => c6 | _ => 0, ⟨fun c q hq => Classical.choose_spec (hk c) q hq, fun k q hq => ?_⟩, ⟨k5, k1, o1, g5, d5, g1, d1⟩, ⟨k6, k2, o2, g6, d6, g2, d2⟩⟩
  have arr : ∀ {cA : ClassId} {kA : Class} {o : ClassId} {ty : FieldType}, s.vm.classes[cA]? = some kA → kA.kind = .array o ty → ArrOfT s cA ty := fun {cA kA o ty} a b n z => ⟨fun k h => (by cases h), kA, a, o, b⟩
  match k, hq with
  | 0, hq => cases hq; exact ⟨arr g1 d1, f1⟩
  | 1, hq => cases hq; exact ⟨arr g2 d2, f2⟩
  | 2, hq => cases hq; exact ⟨arr g3 d3, f3⟩
  | 3, hq => cases hq; exact ⟨arr g4 d4, f4⟩
  | 4, hq => cases hq; exact ⟨arr g5 d5, f5⟩
  | 5, hq => cases hq; exact ⟨arr g6 d6, f6⟩
  | k + 6, hq => cases hq
end ZMY
/-! What a row asks of the words, as lists: numbers are decided, words and names are compared as they stand. A link's row has length 4 where it is a nest mate's. -/
section ZMW
def zlw (host own : String) (idx : Nat) (T : u_T) (k len : Nat) : Bool × Cond := match Nat.beq len 4 with
  | true => (true, .fieldLinkNest own idx (T k).1 (T k).2.1 (T k).2.2.1 host)
  | false => (false, .fieldLink own idx (T k).1 (T k).2.1 (T k).2.2.1)
def zmw (host own : String) (idx : Nat) (z : MethodName) (len : Nat) : Bool × Cond := match Nat.beq len 4 with
  | true => (true, .methodLinkNest own idx z host)
  | false => (false, .methodLink own idx z)
def zrw (host own : String) (cl : List vw_C) (P : List zM) (ins : Jvm.ClassFile.Instr) (len x1 x2 x3 : Nat) : List (Bool × Cond) := match ins with
  | .getfield idx => match cl[x1]? with
    | some q => [zlw host own idx q.2.1 x2 len]
    | none => []
  | .putfield idx => match cl[x1]? with
    | some q => match (q.2.1 x2).2.2.2 with
      | true => [zlw host own idx q.2.1 x2 3]
      | false => [zlw host own idx q.2.1 x2 len]
    | none => []
  | .new idx => match cl[x1]? with
    | some q => [(false, .classLink own idx q.1), (false, .instantiable q.1 q.2.2), (false, .initialized q.1)]
    | none => []
  | .newarray t => [(false, .arrayClass (newarray.typeOf t))]
  | .ldc_w idx => [(false, .constant own idx (Int32.ofNat x1))]
  | .multianewarray idx _ => match x1 with
    | 0 => [(false, .classLink own idx "[[I")]
    | _ + 1 => [(false, .classLink own idx "[[J")]
  | .invokespecial idx => match x3 with
    | 0 => [(false, .methodLink own idx objectInit), (false, .instanceMethod objectInit), (false, .code objectInit ⟨#[0xb1]⟩ 1 none)]
    | _ + 1 => match P[x1]? with
      | some M => [zmw host own idx M.1 len]
      | none => []
  | .invokevirtual idx => match P[x1]? with
    | some M => [zmw host own idx M.1 len]
    | none => []
  | .invokestatic idx => match P[x1]? with
    | some M => [zmw host own idx M.1 len]
    | none => []
  | _ => []
def zrs (own nm : String) (cl : List vw_C) (P : List zM) (ins : Jvm.ClassFile.Instr) (x1 x2 x3 : Nat) : List (String × String) := match ins with
  | .putfield _ => match cl[x1]? with
    | some q => match (q.2.1 x2).2.2.2 with
      | true => [(nm, "<init>"), ((q.2.1 x2).1, own)]
      | false => []
    | none => []
  | .invokevirtual _ => match P[x1]?, cl[x3]? with
    | some M, some q => [(q.1, M.1.cls)]
    | _, _ => []
  | _ => []
def zcb (P : List zM) (fr lo x1 x2 kd d : Nat) : Bool := match P[x1]? with
  | some (_, _, mz, _, fz, lz, k, na, _) => Nat.beq k kd && (Nat.beq x2 (na + d) && (Nat.ble (fz + 1) fr && Nat.ble (8 + (mz + 11) + lz) lo))
  | none => false
def zrb (cl : List vw_C) (P : List zM) (code : ByteArray) (fr lo pc : Nat) (ins : Jvm.ClassFile.Instr) (len x1 x2 x3 : Nat) : Bool := decide (decode code pc = .ok (ins, zlen ins len)) && (match ins with
  | .getfield _ | .putfield _ => match cl[x1]? with
    | some q => Nat.blt x2 q.2.2
    | none => false
  | .new _ => (cl[x1]?).isSome
  | .invokespecial _ => match x3 with
    | 0 => Nat.ble 1 fr && Nat.ble 20 lo
    | _ + 1 => zcb P fr lo x1 x2 1 1
  | .invokevirtual _ => (cl[x3]?).isSome && zcb P fr lo x1 x2 2 1
  | .invokestatic _ => zcb P fr lo x1 x2 0 0
  | _ => true)
def zhold (Ts Ns : List Cond) (q : Bool × Cond) : Prop := match q.1 with
  | true => q.2 ∈ Ns
  | false => q.2 ∈ Ts
theorem zlw_fl {host own : String} {Ts Ns : List Cond} {idx : Nat} {T : u_T} {k len : Nat} (h : zhold Ts Ns (zlw host own idx T k len)) : zfl host own Ts Ns idx T k := by
  unfold zlw at h
  split at h
  · exact Or.inr h
  · exact Or.inl h
theorem zmw_ml {host own : String} {Ts Ns : List Cond} {idx len : Nat} {z : MethodName} (h : zhold Ts Ns (zmw host own idx z len)) : zml host own Ts Ns idx z := by
  unfold zmw at h
  split at h
  · exact Or.inr h
  · exact Or.inl h
theorem zcb_eq {P : List zM} {fr lo x1 x2 kd d : Nat} (h : zcb P fr lo x1 x2 kd d = true) {z : MethodName} {code : ByteArray} {mz : Nat} {ret : Option FieldType} {fz lz k na : Nat} {rows : List (Nat × zI)} (hZ : P[x1]? = some (z, code, mz, ret, fz, lz, k, na, rows)) : k = kd ∧ x2 = na + d ∧ fz + 1 ≤ fr ∧ 8 + (mz + 11) + lz ≤ lo := by
  simp only [zcb, hZ, Bool.and_eq_true] at h
  exact ⟨Nat.eq_of_beq_eq_true h.1, Nat.eq_of_beq_eq_true h.2.1, Nat.le_of_ble_eq_true h.2.2.1, Nat.le_of_ble_eq_true h.2.2.2⟩
theorem zrow_ok {host own nm : String} {Ts Ns : List Cond} {cl : List vw_C} {P : List zM} {code : ByteArray} {fr lo pc : Nat} {ins : Jvm.ClassFile.Instr} {len x1 x2 x3 : Nat} (hb : zrb cl P code fr lo pc ins len x1 x2 x3 = true) (hw : ∀ q ∈ zrw host own cl P ins len x1 x2 x3, zhold Ts Ns q) (hs : ∀ q ∈ zrs own nm cl P ins x1 x2 x3, q.1 = q.2) : decode code pc = .ok (ins, zlen ins len) ∧ zoki host own nm Ts Ns cl fr lo ins x1 x2 x3 ∧ zokc host own Ts Ns cl P fr lo ins x1 x2 x3 := by
  unfold zrb at hb
  rw [Bool.and_eq_true, decide_eq_true_eq] at hb
  refine ⟨hb.1, ?_⟩
  have hb := hb.2
  cases ins with
  | getfield idx =>
    simp only at hb
    split at hb
    · rename_i q hq
      simp only [zrw, hq] at hw
      exact ⟨⟨q, hq, Nat.le_of_ble_eq_true hb, zlw_fl (hw _ List.mem_cons_self)⟩, trivial⟩
    · cases hb
  | putfield idx =>
    simp only at hb
    split at hb
    · rename_i q hq
      simp only [zrw, hq] at hw
      simp only [zrs, hq] at hs
      refine ⟨⟨q, hq, Nat.le_of_ble_eq_true hb, ?_⟩, trivial⟩
      cases hf : (q.2.1 x2).2.2.2 with
      | true =>
        rw [hf] at hw hs
        exact Or.inl ⟨rfl, hs _ List.mem_cons_self, hs _ (List.mem_cons_of_mem _ List.mem_cons_self), hw _ List.mem_cons_self⟩
      | false =>
        rw [hf] at hw
        exact Or.inr ⟨rfl, zlw_fl (hw _ List.mem_cons_self)⟩
    · cases hb
  | new idx =>
    obtain ⟨q, hq⟩ := Option.isSome_iff_exists.mp hb
    simp only [zrw, hq] at hw
    exact ⟨⟨q, hq, hw _ List.mem_cons_self, hw _ (List.mem_cons_of_mem _ List.mem_cons_self), hw _ (List.mem_cons_of_mem _ (List.mem_cons_of_mem _ List.mem_cons_self))⟩, trivial⟩
  | newarray t => exact ⟨hw _ List.mem_cons_self, trivial⟩
  | ldc_w idx => exact ⟨hw _ List.mem_cons_self, trivial⟩
  | multianewarray idx d =>
    cases x1 with
    | zero => exact ⟨hw _ List.mem_cons_self, trivial⟩
    | succ x1 => exact ⟨hw _ List.mem_cons_self, trivial⟩
  | invokespecial idx =>
    cases x3 with
    | zero =>
      simp only [Bool.and_eq_true] at hb
      exact ⟨fun _ => ⟨hw _ List.mem_cons_self, hw _ (List.mem_cons_of_mem _ List.mem_cons_self), hw _ (List.mem_cons_of_mem _ (List.mem_cons_of_mem _ List.mem_cons_self)), Nat.le_of_ble_eq_true hb.1, Nat.le_of_ble_eq_true hb.2⟩, fun h => absurd h (by omega)⟩
    | succ x3 =>
      refine ⟨fun h => absurd h (by omega), fun _ z code mz ret fz lz k na rows hZ => ?_⟩
      simp only [zrw, hZ] at hw
      obtain ⟨e1, e2, e3, e4⟩ := zcb_eq hb hZ
      exact ⟨e1, e2, zmw_ml (hw _ List.mem_cons_self), e3, e4⟩
  | invokevirtual idx =>
    simp only [Bool.and_eq_true] at hb
    refine ⟨trivial, fun z code mz ret fz lz k na rows hZ => ?_⟩
    obtain ⟨q, hq⟩ := Option.isSome_iff_exists.mp hb.1
    simp only [zrw, hZ] at hw
    simp only [zrs, hZ, hq] at hs
    obtain ⟨e1, e2, e3, e4⟩ := zcb_eq hb.2 hZ
    exact ⟨⟨q, hq, hs _ List.mem_cons_self⟩, e1, e2, zmw_ml (hw _ List.mem_cons_self), e3, e4⟩
  | invokestatic idx =>
    refine ⟨trivial, fun z code mz ret fz lz k na rows hZ => ?_⟩
    simp only [zrw, hZ] at hw
    obtain ⟨e1, e2, e3, e4⟩ := zcb_eq hb hZ
    exact ⟨e1, e2, zmw_ml (hw _ List.mem_cons_self), e3, e4⟩
  | _ => exact ⟨trivial, trivial⟩
/-- a method's numbers, words, names -/
def zMb (cl : List vw_C) (P : List zM) (M : zM) : Bool := match M with
  | (_, code, _, _, fr, lo, _, _, rows) => rows.all (fun r => zrb cl P code fr lo r.1 r.2.1 r.2.2.1 r.2.2.2.1 r.2.2.2.2.1 r.2.2.2.2.2)
def zMw (host : String) (cl : List vw_C) (P : List zM) (M : zM) : List (Bool × Cond) := match M with
  | (z, _, _, _, _, _, _, _, rows) => rows.flatMap (fun r => zrw host z.cls cl P r.2.1 r.2.2.1 r.2.2.2.1 r.2.2.2.2.1 r.2.2.2.2.2)
def zMs (cl : List vw_C) (P : List zM) (M : zM) : List (String × String) := match M with
  | (z, _, _, _, _, _, _, _, rows) => rows.flatMap (fun r => zrs z.cls z.name cl P r.2.1 r.2.2.2.1 r.2.2.2.2.1 r.2.2.2.2.2)
/-- words by their places -/
def zpl (Ts Ns : List Cond) (q : Bool × Nat) : Option (Bool × Cond) := match q.1 with
  | true => (Ns[q.2]?).map (fun w => (true, w))
  | false => (Ts[q.2]?).map (fun w => (false, w))
theorem zpl_hold {Ts Ns : List Cond} {ws : List (Bool × Cond)} {is : List (Bool × Nat)} (h : ws.map some = is.map (zpl Ts Ns)) : ∀ q ∈ ws, zhold Ts Ns q := by
  intro q hq
  have h1 : some q ∈ is.map (zpl Ts Ns) := by rw [← h]; exact List.mem_map.mpr ⟨q, hq, rfl⟩
  obtain ⟨⟨b, i⟩, -, hi⟩ := List.mem_map.mp h1
  cases b with
  | true =>
    obtain ⟨w, hw, e⟩ := Option.map_eq_some_iff.mp hi
    rw [← e]
    exact List.mem_of_getElem? hw
  | false =>
    obtain ⟨w, hw, e⟩ := Option.map_eq_some_iff.mp hi
    rw [← e]
    exact List.mem_of_getElem? hw
theorem zM_rows {host : String} {Ts Ns : List Cond} {cl : List vw_C} {P : List zM} {M : zM} (hb : zMb cl P M = true) (hw : ∀ q ∈ zMw host cl P M, zhold Ts Ns q) (hs : (zMs cl P M).map Prod.fst = (zMs cl P M).map Prod.snd) : ∀ row ∈ M.2.2.2.2.2.2.2.2, zrowok host Ts Ns cl P M row := by
  obtain ⟨z, code, mx, ret, fr, lo, kd, na, rows⟩ := M
  intro row hr
  obtain ⟨pc, ins, len, x1, x2, x3⟩ := row
  have hs2 : ∀ q ∈ zMs cl P (z, code, mx, ret, fr, lo, kd, na, rows), q.1 = q.2 := by
    generalize zMs cl P (z, code, mx, ret, fr, lo, kd, na, rows) = l at hs
    induction l with
    | nil => intro q h; cases h
    | cons a t ih =>
      simp only [List.map_cons, List.cons.injEq] at hs
      intro q hq
      rcases List.mem_cons.mp hq with rfl | h9
      · exact hs.1
      · exact ih hs.2 q h9
  have hb1 : rows.all (fun r => zrb cl P code fr lo r.1 r.2.1 r.2.2.1 r.2.2.2.1 r.2.2.2.2.1 r.2.2.2.2.2) = true := hb
  have hb2 : zrb cl P code fr lo pc ins len x1 x2 x3 = true := List.all_eq_true.mp hb1 (pc, ins, len, x1, x2, x3) hr
  have hw1 : ∀ q ∈ rows.flatMap (fun r => zrw host z.cls cl P r.2.1 r.2.2.1 r.2.2.2.1 r.2.2.2.2.1 r.2.2.2.2.2), zhold Ts Ns q := hw
  have hw2 : ∀ q ∈ zrw host z.cls cl P ins len x1 x2 x3, zhold Ts Ns q := fun q hq => hw1 q (List.mem_flatMap.mpr ⟨(pc, ins, len, x1, x2, x3), hr, hq⟩)
  have hs1 : ∀ q ∈ rows.flatMap (fun r => zrs z.cls z.name cl P r.2.1 r.2.2.2.1 r.2.2.2.2.1 r.2.2.2.2.2), q.1 = q.2 := hs2
  have hs3 : ∀ q ∈ zrs z.cls z.name cl P ins x1 x2 x3, q.1 = q.2 := fun q hq => hs1 q (List.mem_flatMap.mpr ⟨(pc, ins, len, x1, x2, x3), hr, hq⟩)
  have key := zrow_ok (host := host) (own := z.cls) (nm := z.name) (Ts := Ts) (Ns := Ns) hb2 hw2 hs3
  unfold zrowok
  exact key
/-- a callee's own words -/
def zcw (M : zM) : List (Bool × Cond) := match M with
  | (z, code, mx, ret, _, _, kd, _, _) => (false, .code z code mx ret) :: (false, .initialized z.cls) :: (match kd with
    | 0 => [(false, .static z)]
    | 1 => [(false, .instanceMethod z)]
    | 2 => [(false, .instanceMethod z), (false, .selects z.cls z z)]
    | _ => [])
theorem zM_meth {Ts Ns : List Cond} {z : MethodName} {code : ByteArray} {mx : Nat} {ret : Option FieldType} {fr lo kd na : Nat} {rows : List (Nat × zI)} (hw : ∀ q ∈ zcw (z, code, mx, ret, fr, lo, kd, na, rows), zhold Ts Ns q) (h1 : z.cls ≠ "java/lang/invoke/MethodHandle" ∧ z.cls ≠ "java/lang/invoke/VarHandle") (h2 : (parseMethodDescriptor z.desc).map (fun d => d.parameters.length) = some na) (h3 : plainFor z = true) (h4 : kd = 1 → z.name = "<init>" ∧ ret = none) : zmeth Ts (z, code, mx, ret, fr, lo, kd, na, rows) := by
  refine ⟨hw _ List.mem_cons_self, hw _ (List.mem_cons_of_mem _ List.mem_cons_self), h1, h2, h3, fun e => ?_, fun e => ?_, fun e => ?_⟩
  · subst e
    exact hw _ (List.mem_cons_of_mem _ (List.mem_cons_of_mem _ List.mem_cons_self))
  · subst e
    exact ⟨(h4 rfl).1, hw _ (List.mem_cons_of_mem _ (List.mem_cons_of_mem _ List.mem_cons_self)), (h4 rfl).2⟩
  · subst e
    exact ⟨hw _ (List.mem_cons_of_mem _ (List.mem_cons_of_mem _ List.mem_cons_self)), hw _ (List.mem_cons_of_mem _ (List.mem_cons_of_mem _ (List.mem_cons_of_mem _ List.mem_cons_self)))⟩
/-- a list picked out of another, by gaps -/
def zpk (gs : List Nat) (l : List Cond) : List Cond := match gs with
  | [] => []
  | g :: gs => match l.drop g with
    | a :: t => a :: zpk gs t
    | [] => []
theorem zpk_in : ∀ (gs : List Nat) (l : List Cond) (w : Cond), w ∈ zpk gs l → w ∈ l
  | [], _, w, h => by cases h
  | g :: gs, l, w, h => by
    simp only [zpk] at h
    split at h
    · rename_i a t e
      have ht : ∀ x, x ∈ a :: t → x ∈ l := fun x hx => List.mem_of_mem_drop (i := g) (by rw [e]; exact hx)
      rcases List.mem_cons.mp h with rfl | h9
      · exact ht _ List.mem_cons_self
      · exact ht w (List.mem_cons_of_mem _ (zpk_in gs t w h9))
    · cases h
end ZMW
end
section
-- ===== PART A: goes FIRST, ahead of the names: the tables' words, and 'selects' of the private methods out of them =====
/-- a private method of a class that the tables say can be made, by its rows of tables_1 -/
def lw_okq (q : MethodName × Nat) : Prop := (q.1.cls ≠ "java/lang/invoke/MethodHandle" ∧ q.1.cls ≠ "java/lang/invoke/VarHandle") ∧ Cond.instantiable q.1.cls q.2 ∈ tables_1 ∧ Cond.privateMethod q.1 ∈ tables_1 ∧ Cond.instanceMethod q.1 ∈ tables_1
theorem lw_p0 : lw_okq (⟨"SiphonReport$Form", "accepts", "(C)Z"⟩, 3) := ⟨⟨by decide +kernel, by decide +kernel⟩, List.mem_of_getElem? (i := 42) (by decide +kernel), List.mem_of_getElem? (i := 284) (by decide +kernel), List.mem_of_getElem? (i := 285) (by decide +kernel)⟩
theorem lw_p1 : lw_okq (⟨"SiphonReport$Form", "acceptsSide", "(C)Z"⟩, 3) := ⟨⟨by decide +kernel, by decide +kernel⟩, List.mem_of_getElem? (i := 42) (by decide +kernel), List.mem_of_getElem? (i := 288) (by decide +kernel), List.mem_of_getElem? (i := 289) (by decide +kernel)⟩
theorem lw_p2 : lw_okq (⟨"SiphonReport$Form", "moveTo", "(I)Z"⟩, 3) := ⟨⟨by decide +kernel, by decide +kernel⟩, List.mem_of_getElem? (i := 42) (by decide +kernel), List.mem_of_getElem? (i := 292) (by decide +kernel), List.mem_of_getElem? (i := 293) (by decide +kernel)⟩
theorem lw_p3 : lw_okq (⟨"SiphonReport$Form", "acceptsTerm", "(C)Z"⟩, 3) := ⟨⟨by decide +kernel, by decide +kernel⟩, List.mem_of_getElem? (i := 42) (by decide +kernel), List.mem_of_getElem? (i := 296) (by decide +kernel), List.mem_of_getElem? (i := 297) (by decide +kernel)⟩
theorem lw_p4 : lw_okq (⟨"SiphonReport$Form", "acceptsSpecies", "(C)Z"⟩, 3) := ⟨⟨by decide +kernel, by decide +kernel⟩, List.mem_of_getElem? (i := 42) (by decide +kernel), List.mem_of_getElem? (i := 300) (by decide +kernel), List.mem_of_getElem? (i := 301) (by decide +kernel)⟩
theorem lw_p5 : lw_okq (⟨"SiphonReport$Form", "acceptsPlus", "(C)Z"⟩, 3) := ⟨⟨by decide +kernel, by decide +kernel⟩, List.mem_of_getElem? (i := 42) (by decide +kernel), List.mem_of_getElem? (i := 307) (by decide +kernel), List.mem_of_getElem? (i := 308) (by decide +kernel)⟩
theorem lw_p6 : lw_okq (⟨"SiphonReport$Form", "acceptsSideEnd", "(C)Z"⟩, 3) := ⟨⟨by decide +kernel, by decide +kernel⟩, List.mem_of_getElem? (i := 42) (by decide +kernel), List.mem_of_getElem? (i := 311) (by decide +kernel), List.mem_of_getElem? (i := 312) (by decide +kernel)⟩
theorem lw_p7 : lw_okq (⟨"SiphonReport$Lines", "startLine", "()V"⟩, 4) := ⟨⟨by decide +kernel, by decide +kernel⟩, List.mem_of_getElem? (i := 58) (by decide +kernel), List.mem_of_getElem? (i := 323) (by decide +kernel), List.mem_of_getElem? (i := 324) (by decide +kernel)⟩
theorem lw_p8 : lw_okq (⟨"SiphonReport$Lines", "endLine", "(LSiphonReport$Network;)I"⟩, 4) := ⟨⟨by decide +kernel, by decide +kernel⟩, List.mem_of_getElem? (i := 58) (by decide +kernel), List.mem_of_getElem? (i := 327) (by decide +kernel), List.mem_of_getElem? (i := 328) (by decide +kernel)⟩
theorem lw_p9 : lw_okq (⟨"SiphonReport$Lines", "take", "(C)V"⟩, 4) := ⟨⟨by decide +kernel, by decide +kernel⟩, List.mem_of_getElem? (i := 58) (by decide +kernel), List.mem_of_getElem? (i := 346) (by decide +kernel), List.mem_of_getElem? (i := 347) (by decide +kernel)⟩
theorem lw_p10 : lw_okq (⟨"SiphonReport$Classes", "numberLinkages", "(I)V"⟩, 7) := ⟨⟨by decide +kernel, by decide +kernel⟩, List.mem_of_getElem? (i := 78) (by decide +kernel), List.mem_of_getElem? (i := 361) (by decide +kernel), List.mem_of_getElem? (i := 362) (by decide +kernel)⟩
theorem lw_p11 : lw_okq (⟨"SiphonReport$Classes", "countStrong", "(I)V"⟩, 7) := ⟨⟨by decide +kernel, by decide +kernel⟩, List.mem_of_getElem? (i := 78) (by decide +kernel), List.mem_of_getElem? (i := 368) (by decide +kernel), List.mem_of_getElem? (i := 369) (by decide +kernel)⟩
theorem lw_p12 : lw_okq (⟨"SiphonReport$Classes", "mutual", "(I)I"⟩, 7) := ⟨⟨by decide +kernel, by decide +kernel⟩, List.mem_of_getElem? (i := 78) (by decide +kernel), List.mem_of_getElem? (i := 372) (by decide +kernel), List.mem_of_getElem? (i := 373) (by decide +kernel)⟩
theorem lw_p13 : lw_okq (⟨"SiphonReport$Matrix", "rowWith", "(II)I"⟩, 3) := ⟨⟨by decide +kernel, by decide +kernel⟩, List.mem_of_getElem? (i := 119) (by decide +kernel), List.mem_of_getElem? (i := 392) (by decide +kernel), List.mem_of_getElem? (i := 393) (by decide +kernel)⟩
theorem lw_p14 : lw_okq (⟨"SiphonReport$Matrix", "clearColumn", "(II)V"⟩, 3) := ⟨⟨by decide +kernel, by decide +kernel⟩, List.mem_of_getElem? (i := 119) (by decide +kernel), List.mem_of_getElem? (i := 396) (by decide +kernel), List.mem_of_getElem? (i := 397) (by decide +kernel)⟩
theorem lw_p15 : lw_okq (⟨"SiphonReport", "fillSiphons", "()V"⟩, 9) := ⟨⟨by decide +kernel, by decide +kernel⟩, List.mem_of_getElem? (i := 15) (by decide +kernel), List.mem_of_getElem? (i := 409) (by decide +kernel), List.mem_of_getElem? (i := 410) (by decide +kernel)⟩
def lw_privs_1 : List (MethodName × Nat) := [(⟨"SiphonReport$Form", "accepts", "(C)Z"⟩, 3), (⟨"SiphonReport$Form", "acceptsSide", "(C)Z"⟩, 3), (⟨"SiphonReport$Form", "moveTo", "(I)Z"⟩, 3), (⟨"SiphonReport$Form", "acceptsTerm", "(C)Z"⟩, 3), (⟨"SiphonReport$Form", "acceptsSpecies", "(C)Z"⟩, 3), (⟨"SiphonReport$Form", "acceptsPlus", "(C)Z"⟩, 3), (⟨"SiphonReport$Form", "acceptsSideEnd", "(C)Z"⟩, 3), (⟨"SiphonReport$Lines", "startLine", "()V"⟩, 4), (⟨"SiphonReport$Lines", "endLine", "(LSiphonReport$Network;)I"⟩, 4), (⟨"SiphonReport$Lines", "take", "(C)V"⟩, 4), (⟨"SiphonReport$Classes", "numberLinkages", "(I)V"⟩, 7), (⟨"SiphonReport$Classes", "countStrong", "(I)V"⟩, 7), (⟨"SiphonReport$Classes", "mutual", "(I)I"⟩, 7), (⟨"SiphonReport$Matrix", "rowWith", "(II)I"⟩, 3), (⟨"SiphonReport$Matrix", "clearColumn", "(II)V"⟩, 3), (⟨"SiphonReport", "fillSiphons", "()V"⟩, 9)]
theorem lw_r1 : ∀ q ∈ lw_privs_1, lw_okq q := List.forall_mem_cons.mpr ⟨lw_p0, List.forall_mem_cons.mpr ⟨lw_p1, List.forall_mem_cons.mpr ⟨lw_p2, List.forall_mem_cons.mpr ⟨lw_p3, List.forall_mem_cons.mpr ⟨lw_p4, List.forall_mem_cons.mpr ⟨lw_p5, List.forall_mem_cons.mpr ⟨lw_p6, List.forall_mem_cons.mpr ⟨lw_p7, List.forall_mem_cons.mpr ⟨lw_p8, List.forall_mem_cons.mpr ⟨lw_p9, List.forall_mem_cons.mpr ⟨lw_p10, List.forall_mem_cons.mpr ⟨lw_p11, List.forall_mem_cons.mpr ⟨lw_p12, List.forall_mem_cons.mpr ⟨lw_p13, List.forall_mem_cons.mpr ⟨lw_p14, List.forall_mem_cons.mpr ⟨lw_p15, fun _ h => absurd h List.not_mem_nil⟩⟩⟩⟩⟩⟩⟩⟩⟩⟩⟩⟩⟩⟩⟩⟩
theorem lw_p16 : lw_okq (⟨"SiphonReport$Sums", "addIfPositive", "(I)V"⟩, 3) := ⟨⟨by decide +kernel, by decide +kernel⟩, List.mem_of_getElem? (i := 172) (by decide +kernel), List.mem_of_getElem? (i := 452) (by decide +kernel), List.mem_of_getElem? (i := 453) (by decide +kernel)⟩
theorem lw_p17 : lw_okq (⟨"SiphonReport$Sums", "freeColumn", "(I)I"⟩, 3) := ⟨⟨by decide +kernel, by decide +kernel⟩, List.mem_of_getElem? (i := 172) (by decide +kernel), List.mem_of_getElem? (i := 456) (by decide +kernel), List.mem_of_getElem? (i := 457) (by decide +kernel)⟩
theorem lw_p18 : lw_okq (⟨"SiphonReport$Sums", "fillWeights", "([IIJ)V"⟩, 3) := ⟨⟨by decide +kernel, by decide +kernel⟩, List.mem_of_getElem? (i := 172) (by decide +kernel), List.mem_of_getElem? (i := 466) (by decide +kernel), List.mem_of_getElem? (i := 467) (by decide +kernel)⟩
theorem lw_p19 : lw_okq (⟨"SiphonReport", "everyLinkageIsStrong", "()Z"⟩, 9) := ⟨⟨by decide +kernel, by decide +kernel⟩, List.mem_of_getElem? (i := 15) (by decide +kernel), List.mem_of_getElem? (i := 554) (by decide +kernel), List.mem_of_getElem? (i := 555) (by decide +kernel)⟩
theorem lw_p20 : lw_okq (⟨"SiphonReport", "linkagesAreNearlySimple", "()Z"⟩, 9) := ⟨⟨by decide +kernel, by decide +kernel⟩, List.mem_of_getElem? (i := 15) (by decide +kernel), List.mem_of_getElem? (i := 559) (by decide +kernel), List.mem_of_getElem? (i := 560) (by decide +kernel)⟩
theorem lw_p21 : lw_okq (⟨"SiphonReport", "everySiphonIsConserved", "()Z"⟩, 9) := ⟨⟨by decide +kernel, by decide +kernel⟩, List.mem_of_getElem? (i := 15) (by decide +kernel), List.mem_of_getElem? (i := 563) (by decide +kernel), List.mem_of_getElem? (i := 564) (by decide +kernel)⟩
theorem lw_p22 : lw_okq (⟨"SiphonReport", "everySpeciesIsConserved", "()Z"⟩, 9) := ⟨⟨by decide +kernel, by decide +kernel⟩, List.mem_of_getElem? (i := 15) (by decide +kernel), List.mem_of_getElem? (i := 568) (by decide +kernel), List.mem_of_getElem? (i := 569) (by decide +kernel)⟩
theorem lw_p23 : lw_okq (⟨"SiphonReportModel", "fault", "()I"⟩, 22) := ⟨⟨by decide +kernel, by decide +kernel⟩, List.mem_of_getElem? (i := 576) (by decide +kernel), List.mem_of_getElem? (i := 662) (by decide +kernel), List.mem_of_getElem? (i := 663) (by decide +kernel)⟩
theorem lw_p24 : lw_okq (⟨"SiphonReportModel", "fresh", "()V"⟩, 22) := ⟨⟨by decide +kernel, by decide +kernel⟩, List.mem_of_getElem? (i := 576) (by decide +kernel), List.mem_of_getElem? (i := 669) (by decide +kernel), List.mem_of_getElem? (i := 670) (by decide +kernel)⟩
theorem lw_p25 : lw_okq (⟨"SiphonReportModel", "lines", "()I"⟩, 22) := ⟨⟨by decide +kernel, by decide +kernel⟩, List.mem_of_getElem? (i := 576) (by decide +kernel), List.mem_of_getElem? (i := 673) (by decide +kernel), List.mem_of_getElem? (i := 674) (by decide +kernel)⟩
theorem lw_p26 : lw_okq (⟨"SiphonReportModel", "line", "(Z)I"⟩, 22) := ⟨⟨by decide +kernel, by decide +kernel⟩, List.mem_of_getElem? (i := 576) (by decide +kernel), List.mem_of_getElem? (i := 677) (by decide +kernel), List.mem_of_getElem? (i := 678) (by decide +kernel)⟩
theorem lw_p27 : lw_okq (⟨"SiphonReportModel", "complexOf", "(Z)I"⟩, 22) := ⟨⟨by decide +kernel, by decide +kernel⟩, List.mem_of_getElem? (i := 576) (by decide +kernel), List.mem_of_getElem? (i := 681) (by decide +kernel), List.mem_of_getElem? (i := 682) (by decide +kernel)⟩
theorem lw_p28 : lw_okq (⟨"SiphonReportModel", "give", "(II)V"⟩, 22) := ⟨⟨by decide +kernel, by decide +kernel⟩, List.mem_of_getElem? (i := 576) (by decide +kernel), List.mem_of_getElem? (i := 685) (by decide +kernel), List.mem_of_getElem? (i := 686) (by decide +kernel)⟩
theorem lw_p29 : lw_okq (⟨"SiphonReportModel", "take", "()V"⟩, 22) := ⟨⟨by decide +kernel, by decide +kernel⟩, List.mem_of_getElem? (i := 576) (by decide +kernel), List.mem_of_getElem? (i := 689) (by decide +kernel), List.mem_of_getElem? (i := 690) (by decide +kernel)⟩
theorem lw_p30 : lw_okq (⟨"SiphonReportModel", "labels", "()V"⟩, 22) := ⟨⟨by decide +kernel, by decide +kernel⟩, List.mem_of_getElem? (i := 576) (by decide +kernel), List.mem_of_getElem? (i := 693) (by decide +kernel), List.mem_of_getElem? (i := 694) (by decide +kernel)⟩
theorem lw_p31 : lw_okq (⟨"SiphonReportModel", "speciesOf", "(I)I"⟩, 22) := ⟨⟨by decide +kernel, by decide +kernel⟩, List.mem_of_getElem? (i := 576) (by decide +kernel), List.mem_of_getElem? (i := 701) (by decide +kernel), List.mem_of_getElem? (i := 702) (by decide +kernel)⟩
def lw_privs_2 : List (MethodName × Nat) := [(⟨"SiphonReport$Sums", "addIfPositive", "(I)V"⟩, 3), (⟨"SiphonReport$Sums", "freeColumn", "(I)I"⟩, 3), (⟨"SiphonReport$Sums", "fillWeights", "([IIJ)V"⟩, 3), (⟨"SiphonReport", "everyLinkageIsStrong", "()Z"⟩, 9), (⟨"SiphonReport", "linkagesAreNearlySimple", "()Z"⟩, 9), (⟨"SiphonReport", "everySiphonIsConserved", "()Z"⟩, 9), (⟨"SiphonReport", "everySpeciesIsConserved", "()Z"⟩, 9), (⟨"SiphonReportModel", "fault", "()I"⟩, 22), (⟨"SiphonReportModel", "fresh", "()V"⟩, 22), (⟨"SiphonReportModel", "lines", "()I"⟩, 22), (⟨"SiphonReportModel", "line", "(Z)I"⟩, 22), (⟨"SiphonReportModel", "complexOf", "(Z)I"⟩, 22), (⟨"SiphonReportModel", "give", "(II)V"⟩, 22), (⟨"SiphonReportModel", "take", "()V"⟩, 22), (⟨"SiphonReportModel", "labels", "()V"⟩, 22), (⟨"SiphonReportModel", "speciesOf", "(I)I"⟩, 22)]
theorem lw_r2 : ∀ q ∈ lw_privs_2, lw_okq q := List.forall_mem_cons.mpr ⟨lw_p16, List.forall_mem_cons.mpr ⟨lw_p17, List.forall_mem_cons.mpr ⟨lw_p18, List.forall_mem_cons.mpr ⟨lw_p19, List.forall_mem_cons.mpr ⟨lw_p20, List.forall_mem_cons.mpr ⟨lw_p21, List.forall_mem_cons.mpr ⟨lw_p22, List.forall_mem_cons.mpr ⟨lw_p23, List.forall_mem_cons.mpr ⟨lw_p24, List.forall_mem_cons.mpr ⟨lw_p25, List.forall_mem_cons.mpr ⟨lw_p26, List.forall_mem_cons.mpr ⟨lw_p27, List.forall_mem_cons.mpr ⟨lw_p28, List.forall_mem_cons.mpr ⟨lw_p29, List.forall_mem_cons.mpr ⟨lw_p30, List.forall_mem_cons.mpr ⟨lw_p31, fun _ h => absurd h List.not_mem_nil⟩⟩⟩⟩⟩⟩⟩⟩⟩⟩⟩⟩⟩⟩⟩⟩
theorem lw_p32 : lw_okq (⟨"SiphonReportModel", "takeSiphon", "(I)V"⟩, 22) := ⟨⟨by decide +kernel, by decide +kernel⟩, List.mem_of_getElem? (i := 576) (by decide +kernel), List.mem_of_getElem? (i := 705) (by decide +kernel), List.mem_of_getElem? (i := 706) (by decide +kernel)⟩
theorem lw_p33 : lw_okq (⟨"SiphonReportModel", "isSiphon", "(I)Z"⟩, 22) := ⟨⟨by decide +kernel, by decide +kernel⟩, List.mem_of_getElem? (i := 576) (by decide +kernel), List.mem_of_getElem? (i := 709) (by decide +kernel), List.mem_of_getElem? (i := 710) (by decide +kernel)⟩
theorem lw_p34 : lw_okq (⟨"SiphonReportModel", "takeSum", "(I)V"⟩, 22) := ⟨⟨by decide +kernel, by decide +kernel⟩, List.mem_of_getElem? (i := 576) (by decide +kernel), List.mem_of_getElem? (i := 713) (by decide +kernel), List.mem_of_getElem? (i := 714) (by decide +kernel)⟩
theorem lw_p35 : lw_okq (⟨"SiphonReportModel", "rankOf", "(II)I"⟩, 22) := ⟨⟨by decide +kernel, by decide +kernel⟩, List.mem_of_getElem? (i := 576) (by decide +kernel), List.mem_of_getElem? (i := 717) (by decide +kernel), List.mem_of_getElem? (i := 718) (by decide +kernel)⟩
theorem lw_p36 : lw_okq (⟨"SiphonReportModel", "load", "(II)V"⟩, 22) := ⟨⟨by decide +kernel, by decide +kernel⟩, List.mem_of_getElem? (i := 576) (by decide +kernel), List.mem_of_getElem? (i := 721) (by decide +kernel), List.mem_of_getElem? (i := 722) (by decide +kernel)⟩
theorem lw_p37 : lw_okq (⟨"SiphonReportModel", "swap", "(II)V"⟩, 22) := ⟨⟨by decide +kernel, by decide +kernel⟩, List.mem_of_getElem? (i := 576) (by decide +kernel), List.mem_of_getElem? (i := 725) (by decide +kernel), List.mem_of_getElem? (i := 726) (by decide +kernel)⟩
theorem lw_p38 : lw_okq (⟨"SiphonReportModel", "strike", "(III)V"⟩, 22) := ⟨⟨by decide +kernel, by decide +kernel⟩, List.mem_of_getElem? (i := 576) (by decide +kernel), List.mem_of_getElem? (i := 729) (by decide +kernel), List.mem_of_getElem? (i := 730) (by decide +kernel)⟩
theorem lw_p39 : lw_okq (⟨"SiphonReportModel", "isComplex", "(I)Z"⟩, 22) := ⟨⟨by decide +kernel, by decide +kernel⟩, List.mem_of_getElem? (i := 576) (by decide +kernel), List.mem_of_getElem? (i := 748) (by decide +kernel), List.mem_of_getElem? (i := 749) (by decide +kernel)⟩
theorem lw_p40 : lw_okq (⟨"SiphonReportModel", "heads", "(I)Z"⟩, 22) := ⟨⟨by decide +kernel, by decide +kernel⟩, List.mem_of_getElem? (i := 576) (by decide +kernel), List.mem_of_getElem? (i := 765) (by decide +kernel), List.mem_of_getElem? (i := 766) (by decide +kernel)⟩
theorem lw_p41 : lw_okq (⟨"SiphonReportModel", "single", "()Z"⟩, 22) := ⟨⟨by decide +kernel, by decide +kernel⟩, List.mem_of_getElem? (i := 576) (by decide +kernel), List.mem_of_getElem? (i := 814) (by decide +kernel), List.mem_of_getElem? (i := 815) (by decide +kernel)⟩
def lw_privs_3 : List (MethodName × Nat) := [(⟨"SiphonReportModel", "takeSiphon", "(I)V"⟩, 22), (⟨"SiphonReportModel", "isSiphon", "(I)Z"⟩, 22), (⟨"SiphonReportModel", "takeSum", "(I)V"⟩, 22), (⟨"SiphonReportModel", "rankOf", "(II)I"⟩, 22), (⟨"SiphonReportModel", "load", "(II)V"⟩, 22), (⟨"SiphonReportModel", "swap", "(II)V"⟩, 22), (⟨"SiphonReportModel", "strike", "(III)V"⟩, 22), (⟨"SiphonReportModel", "isComplex", "(I)Z"⟩, 22), (⟨"SiphonReportModel", "heads", "(I)Z"⟩, 22), (⟨"SiphonReportModel", "single", "()Z"⟩, 22)]
theorem lw_r3 : ∀ q ∈ lw_privs_3, lw_okq q := List.forall_mem_cons.mpr ⟨lw_p32, List.forall_mem_cons.mpr ⟨lw_p33, List.forall_mem_cons.mpr ⟨lw_p34, List.forall_mem_cons.mpr ⟨lw_p35, List.forall_mem_cons.mpr ⟨lw_p36, List.forall_mem_cons.mpr ⟨lw_p37, List.forall_mem_cons.mpr ⟨lw_p38, List.forall_mem_cons.mpr ⟨lw_p39, List.forall_mem_cons.mpr ⟨lw_p40, List.forall_mem_cons.mpr ⟨lw_p41, fun _ h => absurd h List.not_mem_nil⟩⟩⟩⟩⟩⟩⟩⟩⟩⟩
def lw_privs : List (MethodName × Nat) := lw_privs_1 ++ (lw_privs_2 ++ (lw_privs_3))
def lw_tbl : List Cond := k2_sels lw_privs ++ tables_1
theorem lw_privs_ok : ∀ q ∈ lw_privs, lw_okq q := by
  show ∀ q ∈ lw_privs_1 ++ (lw_privs_2 ++ (lw_privs_3)), lw_okq q
  exact List.forall_mem_append.mpr ⟨lw_r1, List.forall_mem_append.mpr ⟨lw_r2, lw_r3⟩⟩
end
section
/-! The program's tables, by wip/gen/tables.py: classes, words, methods with their instructions. -/
def zF_0 : u_T := fun k => match k with
  | 0 => ("SiphonReport", "text", "LSiphonReport$Text;", true)
  | 1 => ("SiphonReport", "form", "LSiphonReport$Form;", true)
  | 2 => ("SiphonReport", "lines", "LSiphonReport$Lines;", true)
  | 3 => ("SiphonReport", "classes", "LSiphonReport$Classes;", true)
  | 4 => ("SiphonReport", "ranks", "LSiphonReport$Ranks;", true)
  | 5 => ("SiphonReport", "siphonSets", "LSiphonReport$SetList;", true)
  | 6 => ("SiphonReport", "conservedSums", "LSiphonReport$Sums;", true)
  | 7 => ("SiphonReport", "network", "LSiphonReport$Network;", false)
  | _ => ("SiphonReport", "spare", "LSiphonReport$Network;", false)
def zF_1 : u_T := fun k => match k with
  | 0 => ("SiphonReport$Text", "signs", "[C", true)
  | _ => ("SiphonReport$Text", "length", "I", false)
def zF_2 : u_T := fun k => match k with
  | 0 => ("SiphonReport$Form", "state", "I", false)
  | 1 => ("SiphonReport$Form", "onRightSide", "Z", false)
  | _ => ("SiphonReport$Form", "refused", "Z", false)
def zF_3 : u_T := fun k => match k with
  | 0 => ("SiphonReport$Lines", "left", "[I", true)
  | 1 => ("SiphonReport$Lines", "right", "[I", true)
  | 2 => ("SiphonReport$Lines", "digit", "I", false)
  | _ => ("SiphonReport$Lines", "arrow", "C", false)
def zF_4 : u_T := fun k => match k with
  | 0 => ("SiphonReport$Network", "numbers", "[[I", true)
  | 1 => ("SiphonReport$Network", "speciesIn", "[I", true)
  | 2 => ("SiphonReport$Network", "source", "[I", true)
  | 3 => ("SiphonReport$Network", "target", "[I", true)
  | 4 => ("SiphonReport$Network", "complexCount", "I", false)
  | _ => ("SiphonReport$Network", "reactionCount", "I", false)
def zF_5 : u_T := fun k => match k with
  | 0 => ("SiphonReport$Classes", "joined", "[I", true)
  | 1 => ("SiphonReport$Classes", "reached", "[I", true)
  | 2 => ("SiphonReport$Classes", "linkageOf", "[I", true)
  | 3 => ("SiphonReport$Classes", "complexesIn", "[I", true)
  | 4 => ("SiphonReport$Classes", "terminalsIn", "[I", true)
  | 5 => ("SiphonReport$Classes", "linkageCount", "I", false)
  | _ => ("SiphonReport$Classes", "strongCount", "I", false)
def zF_6 : u_T := fun k => match k with
  | 0 => ("SiphonReport$Ranks", "reduced", "LSiphonReport$Matrix;", true)
  | 1 => ("SiphonReport$Ranks", "ofOneLinkage", "LSiphonReport$Matrix;", true)
  | 2 => ("SiphonReport$Ranks", "ofLinkage", "[I", true)
  | _ => ("SiphonReport$Ranks", "ofNetwork", "I", false)
def zF_7 : u_T := fun k => match k with
  | 0 => ("SiphonReport$Matrix", "rows", "[[J", true)
  | 1 => ("SiphonReport$Matrix", "pivotRow", "[I", true)
  | _ => ("SiphonReport$Matrix", "rowCount", "I", false)
def zF_8 : u_T := fun k => match k with
  | 0 => ("SiphonReport$SetList", "sets", "[I", true)
  | _ => ("SiphonReport$SetList", "count", "I", false)
def zF_9 : u_T := fun k => match k with
  | 0 => ("SiphonReport$Sums", "supports", "LSiphonReport$SetList;", true)
  | 1 => ("SiphonReport$Sums", "weights", "[[I", true)
  | _ => ("SiphonReport$Sums", "part", "LSiphonReport$Matrix;", true)
def zF_10 : u_T := fun k => match k with
  | 0 => ("SiphonReportModel", "text", "[C", true)
  | 1 => ("SiphonReportModel", "size", "I", false)
  | 2 => ("SiphonReportModel", "seen", "I", false)
  | 3 => ("SiphonReportModel", "said", "[I", true)
  | 4 => ("SiphonReportModel", "gives", "[Z", true)
  | 5 => ("SiphonReportModel", "given", "I", false)
  | 6 => ("SiphonReportModel", "left", "[I", true)
  | 7 => ("SiphonReportModel", "right", "[I", true)
  | 8 => ("SiphonReportModel", "many", "I", false)
  | 9 => ("SiphonReportModel", "arrows", "I", false)
  | 10 => ("SiphonReportModel", "number", "[I", true)
  | 11 => ("SiphonReportModel", "arrow", "[Z", true)
  | 12 => ("SiphonReportModel", "gets", "[Z", true)
  | 13 => ("SiphonReportModel", "label", "[I", true)
  | 14 => ("SiphonReportModel", "siphonCount", "I", false)
  | 15 => ("SiphonReportModel", "siphonSet", "[I", true)
  | 16 => ("SiphonReportModel", "sumCount", "I", false)
  | 17 => ("SiphonReportModel", "sumSet", "[I", true)
  | 18 => ("SiphonReportModel", "sumWeight", "[I", true)
  | 19 => ("SiphonReportModel", "rows", "I", false)
  | 20 => ("SiphonReportModel", "cell", "[J", true)
  | _ => ("SiphonReportModel", "pivot", "[I", true)
def zCL : List vw_C := [("SiphonReport", zF_0, 9), ("SiphonReport$Text", zF_1, 2), ("SiphonReport$Form", zF_2, 3), ("SiphonReport$Lines", zF_3, 4), ("SiphonReport$Network", zF_4, 6), ("SiphonReport$Classes", zF_5, 7), ("SiphonReport$Ranks", zF_6, 4), ("SiphonReport$Matrix", zF_7, 3), ("SiphonReport$SetList", zF_8, 2), ("SiphonReport$Sums", zF_9, 3), ("SiphonReportModel", zF_10, 22)]
def zFT : Nat → Nat → FieldType := fun ci k => match ci with
  | 0 => match k with
    | 0 => .object "SiphonReport$Text"
    | 1 => .object "SiphonReport$Form"
    | 2 => .object "SiphonReport$Lines"
    | 3 => .object "SiphonReport$Classes"
    | 4 => .object "SiphonReport$Ranks"
    | 5 => .object "SiphonReport$SetList"
    | 6 => .object "SiphonReport$Sums"
    | 7 => .object "SiphonReport$Network"
    | _ => .object "SiphonReport$Network"
  | 1 => match k with
    | 0 => .array .char
    | _ => .int
  | 2 => match k with
    | 0 => .int
    | 1 => .boolean
    | _ => .boolean
  | 3 => match k with
    | 0 => .array .int
    | 1 => .array .int
    | 2 => .int
    | _ => .char
  | 4 => match k with
    | 0 => .array (.array .int)
    | 1 => .array .int
    | 2 => .array .int
    | 3 => .array .int
    | 4 => .int
    | _ => .int
  | 5 => match k with
    | 0 => .array .int
    | 1 => .array .int
    | 2 => .array .int
    | 3 => .array .int
    | 4 => .array .int
    | 5 => .int
    | _ => .int
  | 6 => match k with
    | 0 => .object "SiphonReport$Matrix"
    | 1 => .object "SiphonReport$Matrix"
    | 2 => .array .int
    | _ => .int
  | 7 => match k with
    | 0 => .array (.array .long)
    | 1 => .array .int
    | _ => .int
  | 8 => match k with
    | 0 => .array .int
    | _ => .int
  | 9 => match k with
    | 0 => .object "SiphonReport$SetList"
    | 1 => .array (.array .int)
    | _ => .object "SiphonReport$Matrix"
  | _ => match k with
    | 0 => .array .char
    | 1 => .int
    | 2 => .int
    | 3 => .array .int
    | 4 => .array .boolean
    | 5 => .int
    | 6 => .array .int
    | 7 => .array .int
    | 8 => .int
    | 9 => .int
    | 10 => .array .int
    | 11 => .array .boolean
    | 12 => .array .boolean
    | 13 => .array .int
    | 14 => .int
    | 15 => .array .int
    | 16 => .int
    | 17 => .array .int
    | 18 => .array .int
    | 19 => .int
    | 20 => .array .long
    | _ => .array .int
def zCD : List (List Value) := [[.null, .null, .null, .null, .null, .null, .null, .null, .null], [.null, .int 0], [.int 0, .int 0, .int 0], [.null, .null, .int 0, .int 0], [.null, .null, .null, .null, .int 0, .int 0], [.null, .null, .null, .null, .null, .int 0, .int 0], [.null, .null, .null, .int 0], [.null, .null, .int 0], [.null, .int 0], [.null, .null, .null], [.null, .int 0, .int 0, .null, .null, .int 0, .null, .null, .int 0, .int 0, .null, .null, .null, .null, .int 0, .null, .int 0, .null, .null, .int 0, .null, .null]]
def zTs_1 : List Cond := [.selects "SiphonReport$Form" ⟨"SiphonReport$Form", "accepts", "(C)Z"⟩ ⟨"SiphonReport$Form", "accepts", "(C)Z"⟩,
  .selects "SiphonReport$Form" ⟨"SiphonReport$Form", "acceptsSide", "(C)Z"⟩ ⟨"SiphonReport$Form", "acceptsSide", "(C)Z"⟩,
  .selects "SiphonReport$Form" ⟨"SiphonReport$Form", "moveTo", "(I)Z"⟩ ⟨"SiphonReport$Form", "moveTo", "(I)Z"⟩,
  .selects "SiphonReport$Form" ⟨"SiphonReport$Form", "acceptsTerm", "(C)Z"⟩ ⟨"SiphonReport$Form", "acceptsTerm", "(C)Z"⟩,
  .selects "SiphonReport$Form" ⟨"SiphonReport$Form", "acceptsSpecies", "(C)Z"⟩ ⟨"SiphonReport$Form", "acceptsSpecies", "(C)Z"⟩,
  .selects "SiphonReport$Form" ⟨"SiphonReport$Form", "acceptsPlus", "(C)Z"⟩ ⟨"SiphonReport$Form", "acceptsPlus", "(C)Z"⟩,
  .selects "SiphonReport$Form" ⟨"SiphonReport$Form", "acceptsSideEnd", "(C)Z"⟩ ⟨"SiphonReport$Form", "acceptsSideEnd", "(C)Z"⟩,
  .selects "SiphonReport$Lines" ⟨"SiphonReport$Lines", "startLine", "()V"⟩ ⟨"SiphonReport$Lines", "startLine", "()V"⟩,
  .selects "SiphonReport$Lines" ⟨"SiphonReport$Lines", "endLine", "(LSiphonReport$Network;)I"⟩ ⟨"SiphonReport$Lines", "endLine", "(LSiphonReport$Network;)I"⟩,
  .selects "SiphonReport$Lines" ⟨"SiphonReport$Lines", "take", "(C)V"⟩ ⟨"SiphonReport$Lines", "take", "(C)V"⟩,
  .selects "SiphonReport$Classes" ⟨"SiphonReport$Classes", "numberLinkages", "(I)V"⟩ ⟨"SiphonReport$Classes", "numberLinkages", "(I)V"⟩,
  .selects "SiphonReport$Classes" ⟨"SiphonReport$Classes", "countStrong", "(I)V"⟩ ⟨"SiphonReport$Classes", "countStrong", "(I)V"⟩,
  .selects "SiphonReport$Classes" ⟨"SiphonReport$Classes", "mutual", "(I)I"⟩ ⟨"SiphonReport$Classes", "mutual", "(I)I"⟩,
  .selects "SiphonReport$Matrix" ⟨"SiphonReport$Matrix", "rowWith", "(II)I"⟩ ⟨"SiphonReport$Matrix", "rowWith", "(II)I"⟩,
  .selects "SiphonReport$Matrix" ⟨"SiphonReport$Matrix", "clearColumn", "(II)V"⟩ ⟨"SiphonReport$Matrix", "clearColumn", "(II)V"⟩,
  .selects "SiphonReport" ⟨"SiphonReport", "fillSiphons", "()V"⟩ ⟨"SiphonReport", "fillSiphons", "()V"⟩,
  .selects "SiphonReport$Sums" ⟨"SiphonReport$Sums", "addIfPositive", "(I)V"⟩ ⟨"SiphonReport$Sums", "addIfPositive", "(I)V"⟩,
  .selects "SiphonReport$Sums" ⟨"SiphonReport$Sums", "freeColumn", "(I)I"⟩ ⟨"SiphonReport$Sums", "freeColumn", "(I)I"⟩,
  .selects "SiphonReport$Sums" ⟨"SiphonReport$Sums", "fillWeights", "([IIJ)V"⟩ ⟨"SiphonReport$Sums", "fillWeights", "([IIJ)V"⟩,
  .selects "SiphonReport" ⟨"SiphonReport", "everyLinkageIsStrong", "()Z"⟩ ⟨"SiphonReport", "everyLinkageIsStrong", "()Z"⟩,
  .selects "SiphonReport" ⟨"SiphonReport", "linkagesAreNearlySimple", "()Z"⟩ ⟨"SiphonReport", "linkagesAreNearlySimple", "()Z"⟩,
  .selects "SiphonReport" ⟨"SiphonReport", "everySiphonIsConserved", "()Z"⟩ ⟨"SiphonReport", "everySiphonIsConserved", "()Z"⟩,
  .selects "SiphonReport" ⟨"SiphonReport", "everySpeciesIsConserved", "()Z"⟩ ⟨"SiphonReport", "everySpeciesIsConserved", "()Z"⟩,
  .selects "SiphonReportModel" ⟨"SiphonReportModel", "fault", "()I"⟩ ⟨"SiphonReportModel", "fault", "()I"⟩,
  .selects "SiphonReportModel" ⟨"SiphonReportModel", "fresh", "()V"⟩ ⟨"SiphonReportModel", "fresh", "()V"⟩,
  .selects "SiphonReportModel" ⟨"SiphonReportModel", "lines", "()I"⟩ ⟨"SiphonReportModel", "lines", "()I"⟩,
  .selects "SiphonReportModel" ⟨"SiphonReportModel", "line", "(Z)I"⟩ ⟨"SiphonReportModel", "line", "(Z)I"⟩,
  .selects "SiphonReportModel" ⟨"SiphonReportModel", "complexOf", "(Z)I"⟩ ⟨"SiphonReportModel", "complexOf", "(Z)I"⟩,
  .selects "SiphonReportModel" ⟨"SiphonReportModel", "give", "(II)V"⟩ ⟨"SiphonReportModel", "give", "(II)V"⟩,
  .selects "SiphonReportModel" ⟨"SiphonReportModel", "take", "()V"⟩ ⟨"SiphonReportModel", "take", "()V"⟩,
  .selects "SiphonReportModel" ⟨"SiphonReportModel", "labels", "()V"⟩ ⟨"SiphonReportModel", "labels", "()V"⟩,
  .selects "SiphonReportModel" ⟨"SiphonReportModel", "speciesOf", "(I)I"⟩ ⟨"SiphonReportModel", "speciesOf", "(I)I"⟩,
  .selects "SiphonReportModel" ⟨"SiphonReportModel", "takeSiphon", "(I)V"⟩ ⟨"SiphonReportModel", "takeSiphon", "(I)V"⟩,
  .selects "SiphonReportModel" ⟨"SiphonReportModel", "isSiphon", "(I)Z"⟩ ⟨"SiphonReportModel", "isSiphon", "(I)Z"⟩,
  .selects "SiphonReportModel" ⟨"SiphonReportModel", "takeSum", "(I)V"⟩ ⟨"SiphonReportModel", "takeSum", "(I)V"⟩,
  .selects "SiphonReportModel" ⟨"SiphonReportModel", "rankOf", "(II)I"⟩ ⟨"SiphonReportModel", "rankOf", "(II)I"⟩,
  .selects "SiphonReportModel" ⟨"SiphonReportModel", "load", "(II)V"⟩ ⟨"SiphonReportModel", "load", "(II)V"⟩,
  .selects "SiphonReportModel" ⟨"SiphonReportModel", "swap", "(II)V"⟩ ⟨"SiphonReportModel", "swap", "(II)V"⟩,
  .selects "SiphonReportModel" ⟨"SiphonReportModel", "strike", "(III)V"⟩ ⟨"SiphonReportModel", "strike", "(III)V"⟩,
  .selects "SiphonReportModel" ⟨"SiphonReportModel", "isComplex", "(I)Z"⟩ ⟨"SiphonReportModel", "isComplex", "(I)Z"⟩,
  .selects "SiphonReportModel" ⟨"SiphonReportModel", "heads", "(I)Z"⟩ ⟨"SiphonReportModel", "heads", "(I)Z"⟩,
  .selects "SiphonReportModel" ⟨"SiphonReportModel", "single", "()Z"⟩ ⟨"SiphonReportModel", "single", "()Z"⟩,
  .initialized "SiphonReport",
  .initialized "SiphonReport$Text",
  .initialized "SiphonReport$Form",
  .initialized "SiphonReport$Lines",
  .initialized "SiphonReport$Classes",
  .initialized "SiphonReport$Ranks",
  .initialized "SiphonReport$Matrix",
  .initialized "SiphonReport$SetList",
  .initialized "SiphonReport$Sums",
  .initialized "SiphonReport$Network",
  .initialized "SiphonReportModel",
  .initialized "java/lang/Math",
  .initialized "java/lang/Integer",
  .classLink "SiphonReportLaw" 7 "SiphonReport",
  .instantiable "SiphonReport" 9,
  .methodLink "SiphonReportLaw" 9 ⟨"SiphonReport", "<init>", "()V"⟩,
  .instanceMethod ⟨"SiphonReport", "<init>", "()V"⟩,
  .code ⟨"SiphonReport", "<init>", "()V"⟩ prog_1_method_1_code 1 none]
def zTs_2 : List Cond := [.methodLink "SiphonReport" 3 ⟨"java/lang/Object", "<init>", "()V"⟩,
  .instanceMethod ⟨"java/lang/Object", "<init>", "()V"⟩,
  .code ⟨"java/lang/Object", "<init>", "()V"⟩ object_method_1_code 1 none,
  .classLink "SiphonReport" 9 "SiphonReport$Text",
  .instantiable "SiphonReport$Text" 2,
  .instanceMethod ⟨"SiphonReport$Text", "<init>", "()V"⟩,
  .code ⟨"SiphonReport$Text", "<init>", "()V"⟩ prog_10_method_1_code 1 none,
  .methodLink "SiphonReport$Text" 3 ⟨"java/lang/Object", "<init>", "()V"⟩,
  .fieldLink "SiphonReport$Text" 9 "SiphonReport$Text" "signs" "[C",
  .fieldLink "SiphonReport$Text" 15 "SiphonReport$Text" "length" "I",
  .laysFinal "SiphonReport$Text" "SiphonReport$Text" "signs" "[C",
  .lays "SiphonReport$Text" "SiphonReport$Text" "length" "I",
  .arrayClass .char,
  .classLink "SiphonReport" 16 "SiphonReport$Form",
  .instantiable "SiphonReport$Form" 3,
  .instanceMethod ⟨"SiphonReport$Form", "<init>", "()V"⟩,
  .code ⟨"SiphonReport$Form", "<init>", "()V"⟩ prog_3_method_1_code 1 none,
  .methodLink "SiphonReport$Form" 1 ⟨"java/lang/Object", "<init>", "()V"⟩,
  .fieldLink "SiphonReport$Form" 9 "SiphonReport$Form" "state" "I",
  .fieldLink "SiphonReport$Form" 13 "SiphonReport$Form" "onRightSide" "Z",
  .fieldLink "SiphonReport$Form" 17 "SiphonReport$Form" "refused" "Z",
  .lays "SiphonReport$Form" "SiphonReport$Form" "state" "I",
  .lays "SiphonReport$Form" "SiphonReport$Form" "onRightSide" "Z",
  .lays "SiphonReport$Form" "SiphonReport$Form" "refused" "Z",
  .classLink "SiphonReport" 23 "SiphonReport$Lines",
  .instantiable "SiphonReport$Lines" 4,
  .instanceMethod ⟨"SiphonReport$Lines", "<init>", "()V"⟩,
  .code ⟨"SiphonReport$Lines", "<init>", "()V"⟩ prog_4_method_1_code 1 none,
  .methodLink "SiphonReport$Lines" 3 ⟨"java/lang/Object", "<init>", "()V"⟩,
  .fieldLink "SiphonReport$Lines" 9 "SiphonReport$Lines" "left" "[I",
  .fieldLink "SiphonReport$Lines" 15 "SiphonReport$Lines" "right" "[I",
  .fieldLink "SiphonReport$Lines" 51 "SiphonReport$Lines" "digit" "I",
  .fieldLink "SiphonReport$Lines" 47 "SiphonReport$Lines" "arrow" "C",
  .laysFinal "SiphonReport$Lines" "SiphonReport$Lines" "left" "[I",
  .laysFinal "SiphonReport$Lines" "SiphonReport$Lines" "right" "[I",
  .lays "SiphonReport$Lines" "SiphonReport$Lines" "digit" "I",
  .lays "SiphonReport$Lines" "SiphonReport$Lines" "arrow" "C",
  .arrayClass .int,
  .classLink "SiphonReport" 30 "SiphonReport$Classes",
  .instantiable "SiphonReport$Classes" 7,
  .instanceMethod ⟨"SiphonReport$Classes", "<init>", "()V"⟩,
  .code ⟨"SiphonReport$Classes", "<init>", "()V"⟩ prog_2_method_1_code 1 none,
  .methodLink "SiphonReport$Classes" 3 ⟨"java/lang/Object", "<init>", "()V"⟩,
  .fieldLink "SiphonReport$Classes" 9 "SiphonReport$Classes" "joined" "[I",
  .fieldLink "SiphonReport$Classes" 15 "SiphonReport$Classes" "reached" "[I",
  .fieldLink "SiphonReport$Classes" 18 "SiphonReport$Classes" "linkageOf" "[I",
  .fieldLink "SiphonReport$Classes" 21 "SiphonReport$Classes" "complexesIn" "[I",
  .fieldLink "SiphonReport$Classes" 24 "SiphonReport$Classes" "terminalsIn" "[I",
  .fieldLink "SiphonReport$Classes" 61 "SiphonReport$Classes" "linkageCount" "I",
  .fieldLink "SiphonReport$Classes" 67 "SiphonReport$Classes" "strongCount" "I",
  .laysFinal "SiphonReport$Classes" "SiphonReport$Classes" "joined" "[I",
  .laysFinal "SiphonReport$Classes" "SiphonReport$Classes" "reached" "[I",
  .laysFinal "SiphonReport$Classes" "SiphonReport$Classes" "linkageOf" "[I",
  .laysFinal "SiphonReport$Classes" "SiphonReport$Classes" "complexesIn" "[I",
  .laysFinal "SiphonReport$Classes" "SiphonReport$Classes" "terminalsIn" "[I",
  .lays "SiphonReport$Classes" "SiphonReport$Classes" "linkageCount" "I",
  .lays "SiphonReport$Classes" "SiphonReport$Classes" "strongCount" "I",
  .classLink "SiphonReport" 37 "SiphonReport$Ranks",
  .instantiable "SiphonReport$Ranks" 4,
  .instanceMethod ⟨"SiphonReport$Ranks", "<init>", "()V"⟩]
def zTs_3 : List Cond := [.code ⟨"SiphonReport$Ranks", "<init>", "()V"⟩ prog_7_method_1_code 1 none,
  .methodLink "SiphonReport$Ranks" 3 ⟨"java/lang/Object", "<init>", "()V"⟩,
  .classLink "SiphonReport$Ranks" 9 "SiphonReport$Matrix",
  .instantiable "SiphonReport$Matrix" 3,
  .instanceMethod ⟨"SiphonReport$Matrix", "<init>", "()V"⟩,
  .code ⟨"SiphonReport$Matrix", "<init>", "()V"⟩ prog_5_method_1_code 1 none,
  .methodLink "SiphonReport$Matrix" 3 ⟨"java/lang/Object", "<init>", "()V"⟩,
  .classLink "SiphonReport$Matrix" 9 "[[J",
  .fieldLink "SiphonReport$Matrix" 11 "SiphonReport$Matrix" "rows" "[[J",
  .fieldLink "SiphonReport$Matrix" 16 "SiphonReport$Matrix" "pivotRow" "[I",
  .fieldLink "SiphonReport$Matrix" 20 "SiphonReport$Matrix" "rowCount" "I",
  .laysFinal "SiphonReport$Matrix" "SiphonReport$Matrix" "rows" "[[J",
  .laysFinal "SiphonReport$Matrix" "SiphonReport$Matrix" "pivotRow" "[I",
  .lays "SiphonReport$Matrix" "SiphonReport$Matrix" "rowCount" "I",
  .arrayClass .long,
  .fieldLink "SiphonReport$Ranks" 12 "SiphonReport$Ranks" "reduced" "LSiphonReport$Matrix;",
  .fieldLink "SiphonReport$Ranks" 18 "SiphonReport$Ranks" "ofOneLinkage" "LSiphonReport$Matrix;",
  .fieldLink "SiphonReport$Ranks" 21 "SiphonReport$Ranks" "ofLinkage" "[I",
  .fieldLink "SiphonReport$Ranks" 53 "SiphonReport$Ranks" "ofNetwork" "I",
  .laysFinal "SiphonReport$Ranks" "SiphonReport$Ranks" "reduced" "LSiphonReport$Matrix;",
  .laysFinal "SiphonReport$Ranks" "SiphonReport$Ranks" "ofOneLinkage" "LSiphonReport$Matrix;",
  .laysFinal "SiphonReport$Ranks" "SiphonReport$Ranks" "ofLinkage" "[I",
  .lays "SiphonReport$Ranks" "SiphonReport$Ranks" "ofNetwork" "I",
  .classLink "SiphonReport" 44 "SiphonReport$SetList",
  .instantiable "SiphonReport$SetList" 2,
  .instanceMethod ⟨"SiphonReport$SetList", "<init>", "()V"⟩,
  .code ⟨"SiphonReport$SetList", "<init>", "()V"⟩ prog_8_method_1_code 1 none,
  .methodLink "SiphonReport$SetList" 3 ⟨"java/lang/Object", "<init>", "()V"⟩,
  .fieldLink "SiphonReport$SetList" 9 "SiphonReport$SetList" "sets" "[I",
  .fieldLink "SiphonReport$SetList" 15 "SiphonReport$SetList" "count" "I",
  .laysFinal "SiphonReport$SetList" "SiphonReport$SetList" "sets" "[I",
  .lays "SiphonReport$SetList" "SiphonReport$SetList" "count" "I",
  .classLink "SiphonReport" 51 "SiphonReport$Sums",
  .instantiable "SiphonReport$Sums" 3,
  .instanceMethod ⟨"SiphonReport$Sums", "<init>", "()V"⟩,
  .code ⟨"SiphonReport$Sums", "<init>", "()V"⟩ prog_9_method_1_code 1 none,
  .methodLink "SiphonReport$Sums" 3 ⟨"java/lang/Object", "<init>", "()V"⟩,
  .classLink "SiphonReport$Sums" 9 "SiphonReport$SetList",
  .classLink "SiphonReport$Sums" 18 "[[I",
  .classLink "SiphonReport$Sums" 23 "SiphonReport$Matrix",
  .fieldLink "SiphonReport$Sums" 12 "SiphonReport$Sums" "supports" "LSiphonReport$SetList;",
  .fieldLink "SiphonReport$Sums" 20 "SiphonReport$Sums" "weights" "[[I",
  .fieldLink "SiphonReport$Sums" 26 "SiphonReport$Sums" "part" "LSiphonReport$Matrix;",
  .laysFinal "SiphonReport$Sums" "SiphonReport$Sums" "supports" "LSiphonReport$SetList;",
  .laysFinal "SiphonReport$Sums" "SiphonReport$Sums" "weights" "[[I",
  .laysFinal "SiphonReport$Sums" "SiphonReport$Sums" "part" "LSiphonReport$Matrix;",
  .classLink "SiphonReport" 58 "SiphonReport$Network",
  .instantiable "SiphonReport$Network" 6,
  .instanceMethod ⟨"SiphonReport$Network", "<init>", "()V"⟩,
  .code ⟨"SiphonReport$Network", "<init>", "()V"⟩ prog_6_method_1_code 1 none,
  .methodLink "SiphonReport$Network" 3 ⟨"java/lang/Object", "<init>", "()V"⟩,
  .classLink "SiphonReport$Network" 9 "[[I",
  .fieldLink "SiphonReport$Network" 11 "SiphonReport$Network" "numbers" "[[I",
  .fieldLink "SiphonReport$Network" 16 "SiphonReport$Network" "speciesIn" "[I",
  .fieldLink "SiphonReport$Network" 20 "SiphonReport$Network" "source" "[I",
  .fieldLink "SiphonReport$Network" 23 "SiphonReport$Network" "target" "[I",
  .fieldLink "SiphonReport$Network" 26 "SiphonReport$Network" "complexCount" "I",
  .fieldLink "SiphonReport$Network" 34 "SiphonReport$Network" "reactionCount" "I",
  .laysFinal "SiphonReport$Network" "SiphonReport$Network" "numbers" "[[I",
  .laysFinal "SiphonReport$Network" "SiphonReport$Network" "speciesIn" "[I"]
def zTs_4 : List Cond := [.laysFinal "SiphonReport$Network" "SiphonReport$Network" "source" "[I",
  .laysFinal "SiphonReport$Network" "SiphonReport$Network" "target" "[I",
  .lays "SiphonReport$Network" "SiphonReport$Network" "complexCount" "I",
  .lays "SiphonReport$Network" "SiphonReport$Network" "reactionCount" "I",
  .fieldLink "SiphonReport" 12 "SiphonReport" "text" "LSiphonReport$Text;",
  .fieldLink "SiphonReport" 19 "SiphonReport" "form" "LSiphonReport$Form;",
  .fieldLink "SiphonReport" 26 "SiphonReport" "lines" "LSiphonReport$Lines;",
  .fieldLink "SiphonReport" 33 "SiphonReport" "classes" "LSiphonReport$Classes;",
  .fieldLink "SiphonReport" 40 "SiphonReport" "ranks" "LSiphonReport$Ranks;",
  .fieldLink "SiphonReport" 47 "SiphonReport" "siphonSets" "LSiphonReport$SetList;",
  .fieldLink "SiphonReport" 54 "SiphonReport" "conservedSums" "LSiphonReport$Sums;",
  .fieldLink "SiphonReport" 61 "SiphonReport" "network" "LSiphonReport$Network;",
  .fieldLink "SiphonReport" 65 "SiphonReport" "spare" "LSiphonReport$Network;",
  .laysFinal "SiphonReport" "SiphonReport" "text" "LSiphonReport$Text;",
  .laysFinal "SiphonReport" "SiphonReport" "form" "LSiphonReport$Form;",
  .laysFinal "SiphonReport" "SiphonReport" "lines" "LSiphonReport$Lines;",
  .laysFinal "SiphonReport" "SiphonReport" "classes" "LSiphonReport$Classes;",
  .laysFinal "SiphonReport" "SiphonReport" "ranks" "LSiphonReport$Ranks;",
  .laysFinal "SiphonReport" "SiphonReport" "siphonSets" "LSiphonReport$SetList;",
  .laysFinal "SiphonReport" "SiphonReport" "conservedSums" "LSiphonReport$Sums;",
  .lays "SiphonReport" "SiphonReport" "network" "LSiphonReport$Network;",
  .lays "SiphonReport" "SiphonReport" "spare" "LSiphonReport$Network;",
  .methodLink "SiphonReportLaw" 13 ⟨"SiphonReport", "type", "(C)Z"⟩,
  .instanceMethod ⟨"SiphonReport", "type", "(C)Z"⟩,
  .selects "SiphonReport" ⟨"SiphonReport", "type", "(C)Z"⟩ ⟨"SiphonReport", "type", "(C)Z"⟩,
  .code ⟨"SiphonReport", "type", "(C)Z"⟩ prog_1_method_2_code 2 (some .boolean),
  .methodLink "SiphonReport" 68 ⟨"SiphonReport$Text", "append", "(C)Z"⟩,
  .instanceMethod ⟨"SiphonReport$Text", "append", "(C)Z"⟩,
  .selects "SiphonReport$Text" ⟨"SiphonReport$Text", "append", "(C)Z"⟩ ⟨"SiphonReport$Text", "append", "(C)Z"⟩,
  .code ⟨"SiphonReport$Text", "append", "(C)Z"⟩ prog_10_method_2_code 2 (some .boolean),
  .methodLink "SiphonReportLaw" 18 ⟨"SiphonReport", "clear", "()V"⟩,
  .instanceMethod ⟨"SiphonReport", "clear", "()V"⟩,
  .selects "SiphonReport" ⟨"SiphonReport", "clear", "()V"⟩ ⟨"SiphonReport", "clear", "()V"⟩,
  .code ⟨"SiphonReport", "clear", "()V"⟩ prog_1_method_3_code 1 none,
  .methodLink "SiphonReportLaw" 22 ⟨"SiphonReport", "read", "()I"⟩,
  .instanceMethod ⟨"SiphonReport", "read", "()I"⟩,
  .selects "SiphonReport" ⟨"SiphonReport", "read", "()I"⟩ ⟨"SiphonReport", "read", "()I"⟩,
  .code ⟨"SiphonReport", "read", "()I"⟩ prog_1_method_4_code 4 (some .int),
  .methodLink "SiphonReport" 76 ⟨"SiphonReport$Form", "follow", "(LSiphonReport$Text;)I"⟩,
  .instanceMethod ⟨"SiphonReport$Form", "follow", "(LSiphonReport$Text;)I"⟩,
  .selects "SiphonReport$Form" ⟨"SiphonReport$Form", "follow", "(LSiphonReport$Text;)I"⟩ ⟨"SiphonReport$Form", "follow", "(LSiphonReport$Text;)I"⟩,
  .code ⟨"SiphonReport$Form", "follow", "(LSiphonReport$Text;)I"⟩ prog_3_method_2_code 3 (some .int),
  .methodLink "SiphonReport$Form" 29 ⟨"SiphonReport$Form", "accepts", "(C)Z"⟩,
  .instanceMethod ⟨"SiphonReport$Form", "accepts", "(C)Z"⟩,
  .code ⟨"SiphonReport$Form", "accepts", "(C)Z"⟩ prog_3_method_4_code 2 (some .boolean),
  .methodLink "SiphonReport$Form" 33 ⟨"SiphonReport$Form", "acceptsSide", "(C)Z"⟩,
  .instanceMethod ⟨"SiphonReport$Form", "acceptsSide", "(C)Z"⟩,
  .code ⟨"SiphonReport$Form", "acceptsSide", "(C)Z"⟩ prog_3_method_5_code 2 (some .boolean),
  .methodLink "SiphonReport$Form" 48 ⟨"SiphonReport$Form", "moveTo", "(I)Z"⟩,
  .instanceMethod ⟨"SiphonReport$Form", "moveTo", "(I)Z"⟩,
  .code ⟨"SiphonReport$Form", "moveTo", "(I)Z"⟩ prog_3_method_10_code 2 (some .boolean),
  .methodLink "SiphonReport$Form" 36 ⟨"SiphonReport$Form", "acceptsTerm", "(C)Z"⟩,
  .instanceMethod ⟨"SiphonReport$Form", "acceptsTerm", "(C)Z"⟩,
  .code ⟨"SiphonReport$Form", "acceptsTerm", "(C)Z"⟩ prog_3_method_6_code 2 (some .boolean),
  .methodLink "SiphonReport$Form" 39 ⟨"SiphonReport$Form", "acceptsSpecies", "(C)Z"⟩,
  .instanceMethod ⟨"SiphonReport$Form", "acceptsSpecies", "(C)Z"⟩,
  .code ⟨"SiphonReport$Form", "acceptsSpecies", "(C)Z"⟩ prog_3_method_7_code 2 (some .boolean),
  .static ⟨"SiphonReport", "isSpecies", "(I)Z"⟩,
  .code ⟨"SiphonReport", "isSpecies", "(I)Z"⟩ prog_1_method_27_code 1 (some .boolean),
  .methodLink "SiphonReport$Form" 42 ⟨"SiphonReport$Form", "acceptsPlus", "(C)Z"⟩]
def zTs_5 : List Cond := [.instanceMethod ⟨"SiphonReport$Form", "acceptsPlus", "(C)Z"⟩,
  .code ⟨"SiphonReport$Form", "acceptsPlus", "(C)Z"⟩ prog_3_method_8_code 2 (some .boolean),
  .methodLink "SiphonReport$Form" 45 ⟨"SiphonReport$Form", "acceptsSideEnd", "(C)Z"⟩,
  .instanceMethod ⟨"SiphonReport$Form", "acceptsSideEnd", "(C)Z"⟩,
  .code ⟨"SiphonReport$Form", "acceptsSideEnd", "(C)Z"⟩ prog_3_method_9_code 3 (some .boolean),
  .methodLink "SiphonReport" 80 ⟨"SiphonReport$Form", "isRight", "()Z"⟩,
  .instanceMethod ⟨"SiphonReport$Form", "isRight", "()Z"⟩,
  .selects "SiphonReport$Form" ⟨"SiphonReport$Form", "isRight", "()Z"⟩ ⟨"SiphonReport$Form", "isRight", "()Z"⟩,
  .code ⟨"SiphonReport$Form", "isRight", "()Z"⟩ prog_3_method_3_code 2 (some .boolean),
  .methodLink "SiphonReport" 84 ⟨"SiphonReport$Lines", "fill", "(LSiphonReport$Network;LSiphonReport$Text;)I"⟩,
  .instanceMethod ⟨"SiphonReport$Lines", "fill", "(LSiphonReport$Network;LSiphonReport$Text;)I"⟩,
  .selects "SiphonReport$Lines" ⟨"SiphonReport$Lines", "fill", "(LSiphonReport$Network;LSiphonReport$Text;)I"⟩ ⟨"SiphonReport$Lines", "fill", "(LSiphonReport$Network;LSiphonReport$Text;)I"⟩,
  .code ⟨"SiphonReport$Lines", "fill", "(LSiphonReport$Network;LSiphonReport$Text;)I"⟩ prog_4_method_2_code 6 (some .int),
  .methodLink "SiphonReport$Lines" 27 ⟨"SiphonReport$Lines", "startLine", "()V"⟩,
  .instanceMethod ⟨"SiphonReport$Lines", "startLine", "()V"⟩,
  .code ⟨"SiphonReport$Lines", "startLine", "()V"⟩ prog_4_method_3_code 2 none,
  .methodLink "SiphonReport$Lines" 39 ⟨"SiphonReport$Lines", "endLine", "(LSiphonReport$Network;)I"⟩,
  .instanceMethod ⟨"SiphonReport$Lines", "endLine", "(LSiphonReport$Network;)I"⟩,
  .code ⟨"SiphonReport$Lines", "endLine", "(LSiphonReport$Network;)I"⟩ prog_4_method_5_code 5 (some .int),
  .methodLink "SiphonReport$Lines" 58 ⟨"SiphonReport$Lines", "isHigh", "([I)Z"⟩,
  .static ⟨"SiphonReport$Lines", "isHigh", "([I)Z"⟩,
  .code ⟨"SiphonReport$Lines", "isHigh", "([I)Z"⟩ prog_4_method_6_code 2 (some .boolean),
  .static ⟨"SiphonReport", "sameNumbers", "([I[I)Z"⟩,
  .code ⟨"SiphonReport", "sameNumbers", "([I[I)Z"⟩ prog_1_method_30_code 3 (some .boolean),
  .methodLink "SiphonReport$Lines" 66 ⟨"SiphonReport$Network", "place", "([I)I"⟩,
  .instanceMethod ⟨"SiphonReport$Network", "place", "([I)I"⟩,
  .selects "SiphonReport$Network" ⟨"SiphonReport$Network", "place", "([I)I"⟩ ⟨"SiphonReport$Network", "place", "([I)I"⟩,
  .code ⟨"SiphonReport$Network", "place", "([I)I"⟩ prog_6_method_3_code 4 (some .int),
  .methodLink "SiphonReport$Lines" 70 ⟨"SiphonReport$Network", "join", "(II)Z"⟩,
  .instanceMethod ⟨"SiphonReport$Network", "join", "(II)Z"⟩,
  .selects "SiphonReport$Network" ⟨"SiphonReport$Network", "join", "(II)Z"⟩ ⟨"SiphonReport$Network", "join", "(II)Z"⟩,
  .code ⟨"SiphonReport$Network", "join", "(II)Z"⟩ prog_6_method_4_code 4 (some .boolean),
  .methodLink "SiphonReport$Lines" 43 ⟨"SiphonReport$Lines", "take", "(C)V"⟩,
  .instanceMethod ⟨"SiphonReport$Lines", "take", "(C)V"⟩,
  .code ⟨"SiphonReport$Lines", "take", "(C)V"⟩ prog_4_method_4_code 3 none,
  .methodLink "SiphonReport" 88 ⟨"SiphonReport$Classes", "fill", "(LSiphonReport$Network;)V"⟩,
  .instanceMethod ⟨"SiphonReport$Classes", "fill", "(LSiphonReport$Network;)V"⟩,
  .selects "SiphonReport$Classes" ⟨"SiphonReport$Classes", "fill", "(LSiphonReport$Network;)V"⟩ ⟨"SiphonReport$Classes", "fill", "(LSiphonReport$Network;)V"⟩,
  .code ⟨"SiphonReport$Classes", "fill", "(LSiphonReport$Network;)V"⟩ prog_2_method_2_code 6 none,
  .methodLink "SiphonReport$Classes" 42 ⟨"SiphonReport$Classes", "extend", "([II)V"⟩,
  .static ⟨"SiphonReport$Classes", "extend", "([II)V"⟩,
  .code ⟨"SiphonReport$Classes", "extend", "([II)V"⟩ prog_2_method_4_code 4 none,
  .static ⟨"SiphonReport", "holds", "(II)Z"⟩,
  .code ⟨"SiphonReport", "holds", "(II)Z"⟩ prog_1_method_29_code 2 (some .boolean),
  .methodLink "SiphonReport$Classes" 46 ⟨"SiphonReport$Classes", "numberLinkages", "(I)V"⟩,
  .instanceMethod ⟨"SiphonReport$Classes", "numberLinkages", "(I)V"⟩,
  .code ⟨"SiphonReport$Classes", "numberLinkages", "(I)V"⟩ prog_2_method_5_code 4 none,
  .methodLink "SiphonReport$Classes" 64 ⟨"SiphonReport$Classes", "least", "(I)I"⟩,
  .static ⟨"SiphonReport$Classes", "least", "(I)I"⟩,
  .code ⟨"SiphonReport$Classes", "least", "(I)I"⟩ prog_2_method_8_code 2 (some .int),
  .methodLink "SiphonReport$Classes" 50 ⟨"SiphonReport$Classes", "countStrong", "(I)V"⟩,
  .instanceMethod ⟨"SiphonReport$Classes", "countStrong", "(I)V"⟩,
  .code ⟨"SiphonReport$Classes", "countStrong", "(I)V"⟩ prog_2_method_6_code 3 none,
  .methodLink "SiphonReport$Classes" 53 ⟨"SiphonReport$Classes", "mutual", "(I)I"⟩,
  .instanceMethod ⟨"SiphonReport$Classes", "mutual", "(I)I"⟩,
  .code ⟨"SiphonReport$Classes", "mutual", "(I)I"⟩ prog_2_method_7_code 4 (some .int),
  .methodLink "SiphonReport$Classes" 70 ⟨"SiphonReport$Classes", "isTerminal", "(I)Z"⟩,
  .instanceMethod ⟨"SiphonReport$Classes", "isTerminal", "(I)Z"⟩,
  .selects "SiphonReport$Classes" ⟨"SiphonReport$Classes", "isTerminal", "(I)Z"⟩ ⟨"SiphonReport$Classes", "isTerminal", "(I)Z"⟩,
  .code ⟨"SiphonReport$Classes", "isTerminal", "(I)Z"⟩ prog_2_method_3_code 2 (some .boolean)]
def zTs_6 : List Cond := [.methodLink "SiphonReport" 91 ⟨"SiphonReport$Ranks", "fill", "(LSiphonReport$Network;LSiphonReport$Classes;)V"⟩,
  .instanceMethod ⟨"SiphonReport$Ranks", "fill", "(LSiphonReport$Network;LSiphonReport$Classes;)V"⟩,
  .selects "SiphonReport$Ranks" ⟨"SiphonReport$Ranks", "fill", "(LSiphonReport$Network;LSiphonReport$Classes;)V"⟩ ⟨"SiphonReport$Ranks", "fill", "(LSiphonReport$Network;LSiphonReport$Classes;)V"⟩,
  .code ⟨"SiphonReport$Ranks", "fill", "(LSiphonReport$Network;LSiphonReport$Classes;)V"⟩ prog_7_method_2_code 5 none,
  .methodLink "SiphonReport$Ranks" 45 ⟨"SiphonReport$Matrix", "addVector", "(LSiphonReport$Network;I)V"⟩,
  .instanceMethod ⟨"SiphonReport$Matrix", "addVector", "(LSiphonReport$Network;I)V"⟩,
  .selects "SiphonReport$Matrix" ⟨"SiphonReport$Matrix", "addVector", "(LSiphonReport$Network;I)V"⟩ ⟨"SiphonReport$Matrix", "addVector", "(LSiphonReport$Network;I)V"⟩,
  .code ⟨"SiphonReport$Matrix", "addVector", "(LSiphonReport$Network;I)V"⟩ prog_5_method_2_code 6 none,
  .methodLink "SiphonReport$Ranks" 49 ⟨"SiphonReport$Matrix", "reduce", "()I"⟩,
  .instanceMethod ⟨"SiphonReport$Matrix", "reduce", "()I"⟩,
  .selects "SiphonReport$Matrix" ⟨"SiphonReport$Matrix", "reduce", "()I"⟩ ⟨"SiphonReport$Matrix", "reduce", "()I"⟩,
  .code ⟨"SiphonReport$Matrix", "reduce", "()I"⟩ prog_5_method_4_code 5 (some .int),
  .methodLink "SiphonReport$Matrix" 40 ⟨"SiphonReport$Matrix", "rowWith", "(II)I"⟩,
  .instanceMethod ⟨"SiphonReport$Matrix", "rowWith", "(II)I"⟩,
  .code ⟨"SiphonReport$Matrix", "rowWith", "(II)I"⟩ prog_5_method_5_code 4 (some .int),
  .methodLink "SiphonReport$Matrix" 44 ⟨"SiphonReport$Matrix", "clearColumn", "(II)V"⟩,
  .instanceMethod ⟨"SiphonReport$Matrix", "clearColumn", "(II)V"⟩,
  .code ⟨"SiphonReport$Matrix", "clearColumn", "(II)V"⟩ prog_5_method_6_code 9 none,
  .methodLink "SiphonReport$Matrix" 48 ⟨"SiphonReport$Matrix", "shrink", "([J)V"⟩,
  .static ⟨"SiphonReport$Matrix", "shrink", "([J)V"⟩,
  .code ⟨"SiphonReport$Matrix", "shrink", "([J)V"⟩ prog_5_method_7_code 4 none,
  .static ⟨"SiphonReport", "commonDivisor", "(JJ)J"⟩,
  .code ⟨"SiphonReport", "commonDivisor", "(JJ)J"⟩ prog_1_method_31_code 11 (some .long),
  .methodLink "SiphonReport" 199 ⟨"java/lang/Math", "abs", "(J)J"⟩,
  .static ⟨"java/lang/Math", "abs", "(J)J"⟩,
  .code ⟨"java/lang/Math", "abs", "(J)J"⟩ prog_14_method_61_code 2 (some .long),
  .methodLink "SiphonReport" 94 ⟨"SiphonReport", "fillSiphons", "()V"⟩,
  .instanceMethod ⟨"SiphonReport", "fillSiphons", "()V"⟩,
  .code ⟨"SiphonReport", "fillSiphons", "()V"⟩ prog_1_method_22_code 3 none,
  .methodLink "SiphonReport" 121 ⟨"SiphonReport$Network", "speciesSet", "()I"⟩,
  .instanceMethod ⟨"SiphonReport$Network", "speciesSet", "()I"⟩,
  .selects "SiphonReport$Network" ⟨"SiphonReport$Network", "speciesSet", "()I"⟩ ⟨"SiphonReport$Network", "speciesSet", "()I"⟩,
  .code ⟨"SiphonReport$Network", "speciesSet", "()I"⟩ prog_6_method_5_code 3 (some .int),
  .methodLink "SiphonReport" 179 ⟨"SiphonReport", "isPart", "(II)Z"⟩,
  .static ⟨"SiphonReport", "isPart", "(II)Z"⟩,
  .code ⟨"SiphonReport", "isPart", "(II)Z"⟩ prog_1_method_28_code 2 (some .boolean),
  .methodLink "SiphonReport" 158 ⟨"SiphonReport$SetList", "hasPartOf", "(I)Z"⟩,
  .instanceMethod ⟨"SiphonReport$SetList", "hasPartOf", "(I)Z"⟩,
  .selects "SiphonReport$SetList" ⟨"SiphonReport$SetList", "hasPartOf", "(I)Z"⟩ ⟨"SiphonReport$SetList", "hasPartOf", "(I)Z"⟩,
  .code ⟨"SiphonReport$SetList", "hasPartOf", "(I)Z"⟩ prog_8_method_5_code 3 (some .boolean),
  .methodLink "SiphonReport" 183 ⟨"SiphonReport$Network", "isSiphon", "(I)Z"⟩,
  .instanceMethod ⟨"SiphonReport$Network", "isSiphon", "(I)Z"⟩,
  .selects "SiphonReport$Network" ⟨"SiphonReport$Network", "isSiphon", "(I)Z"⟩ ⟨"SiphonReport$Network", "isSiphon", "(I)Z"⟩,
  .code ⟨"SiphonReport$Network", "isSiphon", "(I)Z"⟩ prog_6_method_6_code 5 (some .boolean),
  .methodLink "SiphonReport" 186 ⟨"SiphonReport$SetList", "add", "(I)V"⟩,
  .instanceMethod ⟨"SiphonReport$SetList", "add", "(I)V"⟩,
  .selects "SiphonReport$SetList" ⟨"SiphonReport$SetList", "add", "(I)V"⟩ ⟨"SiphonReport$SetList", "add", "(I)V"⟩,
  .code ⟨"SiphonReport$SetList", "add", "(I)V"⟩ prog_8_method_4_code 2 none,
  .methodLink "SiphonReport" 101 ⟨"SiphonReport$Sums", "fill", "(LSiphonReport$Network;LSiphonReport$Matrix;)V"⟩,
  .instanceMethod ⟨"SiphonReport$Sums", "fill", "(LSiphonReport$Network;LSiphonReport$Matrix;)V"⟩,
  .selects "SiphonReport$Sums" ⟨"SiphonReport$Sums", "fill", "(LSiphonReport$Network;LSiphonReport$Matrix;)V"⟩ ⟨"SiphonReport$Sums", "fill", "(LSiphonReport$Network;LSiphonReport$Matrix;)V"⟩,
  .code ⟨"SiphonReport$Sums", "fill", "(LSiphonReport$Network;LSiphonReport$Matrix;)V"⟩ prog_9_method_2_code 5 none,
  .methodLink "SiphonReport$Sums" 34 ⟨"SiphonReport$Network", "speciesSet", "()I"⟩,
  .methodLink "SiphonReport$Sums" 44 ⟨"SiphonReport$SetList", "hasPartOf", "(I)Z"⟩,
  .methodLink "SiphonReport$Sums" 48 ⟨"SiphonReport$Matrix", "copyColumns", "(LSiphonReport$Matrix;I)V"⟩,
  .instanceMethod ⟨"SiphonReport$Matrix", "copyColumns", "(LSiphonReport$Matrix;I)V"⟩,
  .selects "SiphonReport$Matrix" ⟨"SiphonReport$Matrix", "copyColumns", "(LSiphonReport$Matrix;I)V"⟩ ⟨"SiphonReport$Matrix", "copyColumns", "(LSiphonReport$Matrix;I)V"⟩,
  .code ⟨"SiphonReport$Matrix", "copyColumns", "(LSiphonReport$Matrix;I)V"⟩ prog_5_method_3_code 5 none,
  .methodLink "SiphonReport$Sums" 52 ⟨"SiphonReport$Matrix", "reduce", "()I"⟩,
  .methodLink "SiphonReport$Sums" 55 ⟨"java/lang/Integer", "bitCount", "(I)I"⟩]
def zTs_7 : List Cond := [.static ⟨"java/lang/Integer", "bitCount", "(I)I"⟩,
  .code ⟨"java/lang/Integer", "bitCount", "(I)I"⟩ prog_13_method_49_code 1 (some .int),
  .constant "java/lang/Integer" 265 1431655765,
  .constant "java/lang/Integer" 266 858993459,
  .constant "java/lang/Integer" 267 252645135,
  .methodLink "SiphonReport$Sums" 61 ⟨"SiphonReport$Sums", "addIfPositive", "(I)V"⟩,
  .instanceMethod ⟨"SiphonReport$Sums", "addIfPositive", "(I)V"⟩,
  .code ⟨"SiphonReport$Sums", "addIfPositive", "(I)V"⟩ prog_9_method_3_code 13 none,
  .methodLink "SiphonReport$Sums" 65 ⟨"SiphonReport$Sums", "freeColumn", "(I)I"⟩,
  .instanceMethod ⟨"SiphonReport$Sums", "freeColumn", "(I)I"⟩,
  .code ⟨"SiphonReport$Sums", "freeColumn", "(I)I"⟩ prog_9_method_4_code 3 (some .int),
  .methodLink "SiphonReport$Sums" 76 ⟨"java/lang/Math", "abs", "(J)J"⟩,
  .methodLink "SiphonReport$Sums" 86 ⟨"java/lang/Math", "max", "(JJ)J"⟩,
  .static ⟨"java/lang/Math", "max", "(JJ)J"⟩,
  .code ⟨"java/lang/Math", "max", "(JJ)J"⟩ prog_14_method_66_code 4 (some .long),
  .methodLink "SiphonReport$Sums" 89 ⟨"SiphonReport$Sums", "fillWeights", "([IIJ)V"⟩,
  .instanceMethod ⟨"SiphonReport$Sums", "fillWeights", "([IIJ)V"⟩,
  .code ⟨"SiphonReport$Sums", "fillWeights", "([IIJ)V"⟩ prog_9_method_5_code 7 none,
  .methodLink "SiphonReport$Sums" 93 ⟨"SiphonReport$SetList", "add", "(I)V"⟩,
  .methodLink "SiphonReportLaw" 27 ⟨"SiphonReport", "reactions", "()I"⟩,
  .instanceMethod ⟨"SiphonReport", "reactions", "()I"⟩,
  .selects "SiphonReport" ⟨"SiphonReport", "reactions", "()I"⟩ ⟨"SiphonReport", "reactions", "()I"⟩,
  .code ⟨"SiphonReport", "reactions", "()I"⟩ prog_1_method_5_code 1 (some .int),
  .methodLink "SiphonReportLaw" 31 ⟨"SiphonReport", "complexes", "()I"⟩,
  .instanceMethod ⟨"SiphonReport", "complexes", "()I"⟩,
  .selects "SiphonReport" ⟨"SiphonReport", "complexes", "()I"⟩ ⟨"SiphonReport", "complexes", "()I"⟩,
  .code ⟨"SiphonReport", "complexes", "()I"⟩ prog_1_method_6_code 1 (some .int),
  .methodLink "SiphonReportLaw" 35 ⟨"SiphonReport", "coefficient", "(II)I"⟩,
  .instanceMethod ⟨"SiphonReport", "coefficient", "(II)I"⟩,
  .selects "SiphonReport" ⟨"SiphonReport", "coefficient", "(II)I"⟩ ⟨"SiphonReport", "coefficient", "(II)I"⟩,
  .code ⟨"SiphonReport", "coefficient", "(II)I"⟩ prog_1_method_7_code 3 (some .int),
  .methodLink "SiphonReport" 110 ⟨"SiphonReport$Network", "has", "(I)Z"⟩,
  .instanceMethod ⟨"SiphonReport$Network", "has", "(I)Z"⟩,
  .selects "SiphonReport$Network" ⟨"SiphonReport$Network", "has", "(I)Z"⟩ ⟨"SiphonReport$Network", "has", "(I)Z"⟩,
  .code ⟨"SiphonReport$Network", "has", "(I)Z"⟩ prog_6_method_2_code 2 (some .boolean),
  .methodLink "SiphonReport" 114 ⟨"SiphonReport", "isSpecies", "(I)Z"⟩,
  .methodLink "SiphonReportLaw" 40 ⟨"SiphonReport", "occurring", "()I"⟩,
  .instanceMethod ⟨"SiphonReport", "occurring", "()I"⟩,
  .selects "SiphonReport" ⟨"SiphonReport", "occurring", "()I"⟩ ⟨"SiphonReport", "occurring", "()I"⟩,
  .code ⟨"SiphonReport", "occurring", "()I"⟩ prog_1_method_8_code 1 (some .int),
  .methodLink "SiphonReportLaw" 44 ⟨"SiphonReport", "linkage", "()I"⟩,
  .instanceMethod ⟨"SiphonReport", "linkage", "()I"⟩,
  .selects "SiphonReport" ⟨"SiphonReport", "linkage", "()I"⟩ ⟨"SiphonReport", "linkage", "()I"⟩,
  .code ⟨"SiphonReport", "linkage", "()I"⟩ prog_1_method_9_code 1 (some .int),
  .methodLink "SiphonReportLaw" 48 ⟨"SiphonReport", "classOf", "(I)I"⟩,
  .instanceMethod ⟨"SiphonReport", "classOf", "(I)I"⟩,
  .selects "SiphonReport" ⟨"SiphonReport", "classOf", "(I)I"⟩ ⟨"SiphonReport", "classOf", "(I)I"⟩,
  .code ⟨"SiphonReport", "classOf", "(I)I"⟩ prog_1_method_10_code 2 (some .int),
  .methodLink "SiphonReportLaw" 53 ⟨"SiphonReport", "strong", "()I"⟩,
  .instanceMethod ⟨"SiphonReport", "strong", "()I"⟩,
  .selects "SiphonReport" ⟨"SiphonReport", "strong", "()I"⟩ ⟨"SiphonReport", "strong", "()I"⟩,
  .code ⟨"SiphonReport", "strong", "()I"⟩ prog_1_method_11_code 1 (some .int),
  .methodLink "SiphonReportLaw" 57 ⟨"SiphonReport", "terminal", "(I)Z"⟩,
  .instanceMethod ⟨"SiphonReport", "terminal", "(I)Z"⟩,
  .selects "SiphonReport" ⟨"SiphonReport", "terminal", "(I)Z"⟩ ⟨"SiphonReport", "terminal", "(I)Z"⟩,
  .code ⟨"SiphonReport", "terminal", "(I)Z"⟩ prog_1_method_12_code 2 (some .boolean),
  .methodLink "SiphonReport" 135 ⟨"SiphonReport$Classes", "isTerminal", "(I)Z"⟩,
  .methodLink "SiphonReportLaw" 62 ⟨"SiphonReport", "rank", "()I"⟩,
  .instanceMethod ⟨"SiphonReport", "rank", "()I"⟩,
  .selects "SiphonReport" ⟨"SiphonReport", "rank", "()I"⟩ ⟨"SiphonReport", "rank", "()I"⟩]
def zTs_8 : List Cond := [.code ⟨"SiphonReport", "rank", "()I"⟩ prog_1_method_13_code 1 (some .int),
  .methodLink "SiphonReportLaw" 66 ⟨"SiphonReport", "deficiency", "(I)I"⟩,
  .instanceMethod ⟨"SiphonReport", "deficiency", "(I)I"⟩,
  .selects "SiphonReport" ⟨"SiphonReport", "deficiency", "(I)I"⟩ ⟨"SiphonReport", "deficiency", "(I)I"⟩,
  .code ⟨"SiphonReport", "deficiency", "(I)I"⟩ prog_1_method_14_code 2 (some .int),
  .methodLink "SiphonReportLaw" 70 ⟨"SiphonReport", "siphons", "()I"⟩,
  .instanceMethod ⟨"SiphonReport", "siphons", "()I"⟩,
  .selects "SiphonReport" ⟨"SiphonReport", "siphons", "()I"⟩ ⟨"SiphonReport", "siphons", "()I"⟩,
  .code ⟨"SiphonReport", "siphons", "()I"⟩ prog_1_method_15_code 1 (some .int),
  .methodLink "SiphonReportLaw" 74 ⟨"SiphonReport", "siphon", "(I)I"⟩,
  .instanceMethod ⟨"SiphonReport", "siphon", "(I)I"⟩,
  .selects "SiphonReport" ⟨"SiphonReport", "siphon", "(I)I"⟩ ⟨"SiphonReport", "siphon", "(I)I"⟩,
  .code ⟨"SiphonReport", "siphon", "(I)I"⟩ prog_1_method_16_code 2 (some .int),
  .methodLink "SiphonReport" 150 ⟨"SiphonReport$SetList", "at", "(I)I"⟩,
  .instanceMethod ⟨"SiphonReport$SetList", "at", "(I)I"⟩,
  .selects "SiphonReport$SetList" ⟨"SiphonReport$SetList", "at", "(I)I"⟩ ⟨"SiphonReport$SetList", "at", "(I)I"⟩,
  .code ⟨"SiphonReport$SetList", "at", "(I)I"⟩ prog_8_method_3_code 2 (some .int),
  .methodLink "SiphonReport$SetList" 19 ⟨"SiphonReport$SetList", "has", "(I)Z"⟩,
  .instanceMethod ⟨"SiphonReport$SetList", "has", "(I)Z"⟩,
  .selects "SiphonReport$SetList" ⟨"SiphonReport$SetList", "has", "(I)Z"⟩ ⟨"SiphonReport$SetList", "has", "(I)Z"⟩,
  .code ⟨"SiphonReport$SetList", "has", "(I)Z"⟩ prog_8_method_2_code 2 (some .boolean),
  .methodLink "SiphonReportLaw" 78 ⟨"SiphonReport", "conserved", "(I)Z"⟩,
  .instanceMethod ⟨"SiphonReport", "conserved", "(I)Z"⟩,
  .selects "SiphonReport" ⟨"SiphonReport", "conserved", "(I)Z"⟩ ⟨"SiphonReport", "conserved", "(I)Z"⟩,
  .code ⟨"SiphonReport", "conserved", "(I)Z"⟩ prog_1_method_17_code 2 (some .boolean),
  .methodLink "SiphonReport" 154 ⟨"SiphonReport$SetList", "has", "(I)Z"⟩,
  .methodLink "SiphonReportLaw" 82 ⟨"SiphonReport", "sums", "()I"⟩,
  .instanceMethod ⟨"SiphonReport", "sums", "()I"⟩,
  .selects "SiphonReport" ⟨"SiphonReport", "sums", "()I"⟩ ⟨"SiphonReport", "sums", "()I"⟩,
  .code ⟨"SiphonReport", "sums", "()I"⟩ prog_1_method_18_code 1 (some .int),
  .methodLink "SiphonReportLaw" 86 ⟨"SiphonReport", "support", "(I)I"⟩,
  .instanceMethod ⟨"SiphonReport", "support", "(I)I"⟩,
  .selects "SiphonReport" ⟨"SiphonReport", "support", "(I)I"⟩ ⟨"SiphonReport", "support", "(I)I"⟩,
  .code ⟨"SiphonReport", "support", "(I)I"⟩ prog_1_method_19_code 2 (some .int),
  .methodLink "SiphonReportLaw" 90 ⟨"SiphonReport", "weight", "(II)I"⟩,
  .instanceMethod ⟨"SiphonReport", "weight", "(II)I"⟩,
  .selects "SiphonReport" ⟨"SiphonReport", "weight", "(II)I"⟩ ⟨"SiphonReport", "weight", "(II)I"⟩,
  .code ⟨"SiphonReport", "weight", "(II)I"⟩ prog_1_method_20_code 3 (some .int),
  .methodLink "SiphonReportLaw" 94 ⟨"SiphonReport", "flags", "()I"⟩,
  .instanceMethod ⟨"SiphonReport", "flags", "()I"⟩,
  .selects "SiphonReport" ⟨"SiphonReport", "flags", "()I"⟩ ⟨"SiphonReport", "flags", "()I"⟩,
  .code ⟨"SiphonReport", "flags", "()I"⟩ prog_1_method_21_code 2 (some .int),
  .methodLink "SiphonReport" 164 ⟨"SiphonReport", "everyLinkageIsStrong", "()Z"⟩,
  .instanceMethod ⟨"SiphonReport", "everyLinkageIsStrong", "()Z"⟩,
  .code ⟨"SiphonReport", "everyLinkageIsStrong", "()Z"⟩ prog_1_method_23_code 1 (some .boolean),
  .methodLink "SiphonReport" 167 ⟨"SiphonReport", "deficiency", "(I)I"⟩,
  .methodLink "SiphonReport" 170 ⟨"SiphonReport", "linkagesAreNearlySimple", "()Z"⟩,
  .instanceMethod ⟨"SiphonReport", "linkagesAreNearlySimple", "()Z"⟩,
  .code ⟨"SiphonReport", "linkagesAreNearlySimple", "()Z"⟩ prog_1_method_24_code 4 (some .boolean),
  .methodLink "SiphonReport" 173 ⟨"SiphonReport", "everySiphonIsConserved", "()Z"⟩,
  .instanceMethod ⟨"SiphonReport", "everySiphonIsConserved", "()Z"⟩,
  .code ⟨"SiphonReport", "everySiphonIsConserved", "()Z"⟩ prog_1_method_25_code 2 (some .boolean),
  .methodLink "SiphonReport" 193 ⟨"SiphonReport", "conserved", "(I)Z"⟩,
  .methodLink "SiphonReport" 176 ⟨"SiphonReport", "everySpeciesIsConserved", "()Z"⟩,
  .instanceMethod ⟨"SiphonReport", "everySpeciesIsConserved", "()Z"⟩,
  .code ⟨"SiphonReport", "everySpeciesIsConserved", "()Z"⟩ prog_1_method_26_code 1 (some .boolean),
  .methodLink "SiphonReport" 196 ⟨"SiphonReport$SetList", "union", "()I"⟩,
  .instanceMethod ⟨"SiphonReport$SetList", "union", "()I"⟩,
  .selects "SiphonReport$SetList" ⟨"SiphonReport$SetList", "union", "()I"⟩ ⟨"SiphonReport$SetList", "union", "()I"⟩,
  .code ⟨"SiphonReport$SetList", "union", "()I"⟩ prog_8_method_6_code 3 (some .int)]
def zTs_9 : List Cond := [.classLink "SiphonReportLaw" 10 "SiphonReportModel",
  .instantiable "SiphonReportModel" 22,
  .methodLink "SiphonReportLaw" 12 ⟨"SiphonReportModel", "<init>", "()V"⟩,
  .instanceMethod ⟨"SiphonReportModel", "<init>", "()V"⟩,
  .code ⟨"SiphonReportModel", "<init>", "()V"⟩ prog_12_method_1_code 1 none,
  .methodLink "SiphonReportModel" 1 ⟨"java/lang/Object", "<init>", "()V"⟩,
  .fieldLink "SiphonReportModel" 7 "SiphonReportModel" "text" "[C",
  .fieldLink "SiphonReportModel" 55 "SiphonReportModel" "size" "I",
  .fieldLink "SiphonReportModel" 63 "SiphonReportModel" "seen" "I",
  .fieldLink "SiphonReportModel" 13 "SiphonReportModel" "said" "[I",
  .fieldLink "SiphonReportModel" 17 "SiphonReportModel" "gives" "[Z",
  .fieldLink "SiphonReportModel" 66 "SiphonReportModel" "given" "I",
  .fieldLink "SiphonReportModel" 21 "SiphonReportModel" "left" "[I",
  .fieldLink "SiphonReportModel" 24 "SiphonReportModel" "right" "[I",
  .fieldLink "SiphonReportModel" 96 "SiphonReportModel" "many" "I",
  .fieldLink "SiphonReportModel" 93 "SiphonReportModel" "arrows" "I",
  .fieldLink "SiphonReportModel" 27 "SiphonReportModel" "number" "[I",
  .fieldLink "SiphonReportModel" 30 "SiphonReportModel" "arrow" "[Z",
  .fieldLink "SiphonReportModel" 33 "SiphonReportModel" "gets" "[Z",
  .fieldLink "SiphonReportModel" 36 "SiphonReportModel" "label" "[I",
  .fieldLink "SiphonReportModel" 102 "SiphonReportModel" "siphonCount" "I",
  .fieldLink "SiphonReportModel" 39 "SiphonReportModel" "siphonSet" "[I",
  .fieldLink "SiphonReportModel" 105 "SiphonReportModel" "sumCount" "I",
  .fieldLink "SiphonReportModel" 42 "SiphonReportModel" "sumSet" "[I",
  .fieldLink "SiphonReportModel" 45 "SiphonReportModel" "sumWeight" "[I",
  .fieldLink "SiphonReportModel" 126 "SiphonReportModel" "rows" "I",
  .fieldLink "SiphonReportModel" 48 "SiphonReportModel" "cell" "[J",
  .fieldLink "SiphonReportModel" 52 "SiphonReportModel" "pivot" "[I",
  .laysFinal "SiphonReportModel" "SiphonReportModel" "text" "[C",
  .lays "SiphonReportModel" "SiphonReportModel" "size" "I",
  .lays "SiphonReportModel" "SiphonReportModel" "seen" "I",
  .laysFinal "SiphonReportModel" "SiphonReportModel" "said" "[I",
  .laysFinal "SiphonReportModel" "SiphonReportModel" "gives" "[Z",
  .lays "SiphonReportModel" "SiphonReportModel" "given" "I",
  .laysFinal "SiphonReportModel" "SiphonReportModel" "left" "[I",
  .laysFinal "SiphonReportModel" "SiphonReportModel" "right" "[I",
  .lays "SiphonReportModel" "SiphonReportModel" "many" "I",
  .lays "SiphonReportModel" "SiphonReportModel" "arrows" "I",
  .laysFinal "SiphonReportModel" "SiphonReportModel" "number" "[I",
  .laysFinal "SiphonReportModel" "SiphonReportModel" "arrow" "[Z",
  .laysFinal "SiphonReportModel" "SiphonReportModel" "gets" "[Z",
  .laysFinal "SiphonReportModel" "SiphonReportModel" "label" "[I",
  .lays "SiphonReportModel" "SiphonReportModel" "siphonCount" "I",
  .laysFinal "SiphonReportModel" "SiphonReportModel" "siphonSet" "[I",
  .lays "SiphonReportModel" "SiphonReportModel" "sumCount" "I",
  .laysFinal "SiphonReportModel" "SiphonReportModel" "sumSet" "[I",
  .laysFinal "SiphonReportModel" "SiphonReportModel" "sumWeight" "[I",
  .lays "SiphonReportModel" "SiphonReportModel" "rows" "I",
  .laysFinal "SiphonReportModel" "SiphonReportModel" "cell" "[J",
  .laysFinal "SiphonReportModel" "SiphonReportModel" "pivot" "[I",
  .arrayClass .boolean,
  .methodLink "SiphonReportLaw" 17 ⟨"SiphonReportModel", "type", "(C)Z"⟩,
  .instanceMethod ⟨"SiphonReportModel", "type", "(C)Z"⟩,
  .selects "SiphonReportModel" ⟨"SiphonReportModel", "type", "(C)Z"⟩ ⟨"SiphonReportModel", "type", "(C)Z"⟩,
  .code ⟨"SiphonReportModel", "type", "(C)Z"⟩ prog_12_method_2_code 2 (some .boolean),
  .methodLink "SiphonReportLaw" 21 ⟨"SiphonReportModel", "clear", "()V"⟩,
  .instanceMethod ⟨"SiphonReportModel", "clear", "()V"⟩,
  .selects "SiphonReportModel" ⟨"SiphonReportModel", "clear", "()V"⟩ ⟨"SiphonReportModel", "clear", "()V"⟩,
  .code ⟨"SiphonReportModel", "clear", "()V"⟩ prog_12_method_3_code 1 none,
  .methodLink "SiphonReportLaw" 26 ⟨"SiphonReportModel", "read", "()I"⟩]
def zTs_10 : List Cond := [.instanceMethod ⟨"SiphonReportModel", "read", "()I"⟩,
  .selects "SiphonReportModel" ⟨"SiphonReportModel", "read", "()I"⟩ ⟨"SiphonReportModel", "read", "()I"⟩,
  .code ⟨"SiphonReportModel", "read", "()I"⟩ prog_12_method_11_code 4 (some .int),
  .methodLink "SiphonReportModel" 83 ⟨"SiphonReportModel", "fault", "()I"⟩,
  .instanceMethod ⟨"SiphonReportModel", "fault", "()I"⟩,
  .code ⟨"SiphonReportModel", "fault", "()I"⟩ prog_12_method_5_code 4 (some .int),
  .methodLink "SiphonReportModel" 59 ⟨"SiphonReportModel", "after", "(II)I"⟩,
  .static ⟨"SiphonReportModel", "after", "(II)I"⟩,
  .code ⟨"SiphonReportModel", "after", "(II)I"⟩ prog_12_method_4_code 4 (some .int),
  .methodLink "SiphonReportModel" 80 ⟨"SiphonReportModel", "fresh", "()V"⟩,
  .instanceMethod ⟨"SiphonReportModel", "fresh", "()V"⟩,
  .code ⟨"SiphonReportModel", "fresh", "()V"⟩ prog_12_method_6_code 2 none,
  .methodLink "SiphonReportModel" 87 ⟨"SiphonReportModel", "lines", "()I"⟩,
  .instanceMethod ⟨"SiphonReportModel", "lines", "()I"⟩,
  .code ⟨"SiphonReportModel", "lines", "()I"⟩ prog_12_method_10_code 7 (some .int),
  .methodLink "SiphonReportModel" 77 ⟨"SiphonReportModel", "line", "(Z)I"⟩,
  .instanceMethod ⟨"SiphonReportModel", "line", "(Z)I"⟩,
  .code ⟨"SiphonReportModel", "line", "(Z)I"⟩ prog_12_method_9_code 6 (some .int),
  .methodLink "SiphonReportModel" 69 ⟨"SiphonReportModel", "complexOf", "(Z)I"⟩,
  .instanceMethod ⟨"SiphonReportModel", "complexOf", "(Z)I"⟩,
  .code ⟨"SiphonReportModel", "complexOf", "(Z)I"⟩ prog_12_method_7_code 5 (some .int),
  .methodLink "SiphonReportModel" 73 ⟨"SiphonReportModel", "give", "(II)V"⟩,
  .instanceMethod ⟨"SiphonReportModel", "give", "(II)V"⟩,
  .code ⟨"SiphonReportModel", "give", "(II)V"⟩ prog_12_method_8_code 3 none,
  .methodLink "SiphonReportModel" 90 ⟨"SiphonReportModel", "take", "()V"⟩,
  .instanceMethod ⟨"SiphonReportModel", "take", "()V"⟩,
  .code ⟨"SiphonReportModel", "take", "()V"⟩ prog_12_method_12_code 4 none,
  .methodLink "SiphonReportModel" 99 ⟨"SiphonReportModel", "labels", "()V"⟩,
  .instanceMethod ⟨"SiphonReportModel", "labels", "()V"⟩,
  .code ⟨"SiphonReportModel", "labels", "()V"⟩ prog_12_method_13_code 4 none,
  .methodLink "SiphonReportModel" 108 ⟨"SiphonReportModel", "occurring", "()I"⟩,
  .instanceMethod ⟨"SiphonReportModel", "occurring", "()I"⟩,
  .selects "SiphonReportModel" ⟨"SiphonReportModel", "occurring", "()I"⟩ ⟨"SiphonReportModel", "occurring", "()I"⟩,
  .code ⟨"SiphonReportModel", "occurring", "()I"⟩ prog_12_method_27_code 3 (some .int),
  .methodLink "SiphonReportModel" 118 ⟨"SiphonReportModel", "speciesOf", "(I)I"⟩,
  .instanceMethod ⟨"SiphonReportModel", "speciesOf", "(I)I"⟩,
  .code ⟨"SiphonReportModel", "speciesOf", "(I)I"⟩ prog_12_method_14_code 4 (some .int),
  .methodLink "SiphonReportModel" 111 ⟨"SiphonReportModel", "takeSiphon", "(I)V"⟩,
  .instanceMethod ⟨"SiphonReportModel", "takeSiphon", "(I)V"⟩,
  .code ⟨"SiphonReportModel", "takeSiphon", "(I)V"⟩ prog_12_method_16_code 3 none,
  .methodLink "SiphonReportModel" 122 ⟨"SiphonReportModel", "isSiphon", "(I)Z"⟩,
  .instanceMethod ⟨"SiphonReportModel", "isSiphon", "(I)Z"⟩,
  .code ⟨"SiphonReportModel", "isSiphon", "(I)Z"⟩ prog_12_method_15_code 4 (some .boolean),
  .methodLink "SiphonReportModel" 115 ⟨"SiphonReportModel", "takeSum", "(I)V"⟩,
  .instanceMethod ⟨"SiphonReportModel", "takeSum", "(I)V"⟩,
  .code ⟨"SiphonReportModel", "takeSum", "(I)V"⟩ prog_12_method_22_code 15 none,
  .methodLink "SiphonReportModel" 143 ⟨"SiphonReportModel", "rankOf", "(II)I"⟩,
  .instanceMethod ⟨"SiphonReportModel", "rankOf", "(II)I"⟩,
  .code ⟨"SiphonReportModel", "rankOf", "(II)I"⟩ prog_12_method_21_code 7 (some .int),
  .methodLink "SiphonReportModel" 133 ⟨"SiphonReportModel", "load", "(II)V"⟩,
  .instanceMethod ⟨"SiphonReportModel", "load", "(II)V"⟩,
  .code ⟨"SiphonReportModel", "load", "(II)V"⟩ prog_12_method_18_code 6 none,
  .methodLink "SiphonReportModel" 136 ⟨"SiphonReportModel", "swap", "(II)V"⟩,
  .instanceMethod ⟨"SiphonReportModel", "swap", "(II)V"⟩,
  .code ⟨"SiphonReportModel", "swap", "(II)V"⟩ prog_12_method_19_code 6 none,
  .methodLink "SiphonReportModel" 139 ⟨"SiphonReportModel", "strike", "(III)V"⟩,
  .instanceMethod ⟨"SiphonReportModel", "strike", "(III)V"⟩,
  .code ⟨"SiphonReportModel", "strike", "(III)V"⟩ prog_12_method_20_code 11 none,
  .methodLink "SiphonReportModel" 129 ⟨"SiphonReportModel", "gcd", "(JJ)J"⟩,
  .static ⟨"SiphonReportModel", "gcd", "(JJ)J"⟩]
def zTs_11 : List Cond := [.code ⟨"SiphonReportModel", "gcd", "(JJ)J"⟩ prog_12_method_17_code 11 (some .long),
  .methodLink "SiphonReportLaw" 30 ⟨"SiphonReportModel", "reactions", "()I"⟩,
  .instanceMethod ⟨"SiphonReportModel", "reactions", "()I"⟩,
  .selects "SiphonReportModel" ⟨"SiphonReportModel", "reactions", "()I"⟩ ⟨"SiphonReportModel", "reactions", "()I"⟩,
  .code ⟨"SiphonReportModel", "reactions", "()I"⟩ prog_12_method_24_code 1 (some .int),
  .methodLink "SiphonReportLaw" 34 ⟨"SiphonReportModel", "complexes", "()I"⟩,
  .instanceMethod ⟨"SiphonReportModel", "complexes", "()I"⟩,
  .selects "SiphonReportModel" ⟨"SiphonReportModel", "complexes", "()I"⟩ ⟨"SiphonReportModel", "complexes", "()I"⟩,
  .code ⟨"SiphonReportModel", "complexes", "()I"⟩ prog_12_method_25_code 1 (some .int),
  .methodLink "SiphonReportLaw" 39 ⟨"SiphonReportModel", "coefficient", "(II)I"⟩,
  .instanceMethod ⟨"SiphonReportModel", "coefficient", "(II)I"⟩,
  .selects "SiphonReportModel" ⟨"SiphonReportModel", "coefficient", "(II)I"⟩ ⟨"SiphonReportModel", "coefficient", "(II)I"⟩,
  .code ⟨"SiphonReportModel", "coefficient", "(II)I"⟩ prog_12_method_26_code 3 (some .int),
  .methodLink "SiphonReportModel" 146 ⟨"SiphonReportModel", "isComplex", "(I)Z"⟩,
  .instanceMethod ⟨"SiphonReportModel", "isComplex", "(I)Z"⟩,
  .code ⟨"SiphonReportModel", "isComplex", "(I)Z"⟩ prog_12_method_23_code 2 (some .boolean),
  .methodLink "SiphonReportLaw" 43 ⟨"SiphonReportModel", "occurring", "()I"⟩,
  .methodLink "SiphonReportLaw" 47 ⟨"SiphonReportModel", "linkage", "()I"⟩,
  .instanceMethod ⟨"SiphonReportModel", "linkage", "()I"⟩,
  .selects "SiphonReportModel" ⟨"SiphonReportModel", "linkage", "()I"⟩ ⟨"SiphonReportModel", "linkage", "()I"⟩,
  .code ⟨"SiphonReportModel", "linkage", "()I"⟩ prog_12_method_28_code 3 (some .int),
  .methodLink "SiphonReportLaw" 52 ⟨"SiphonReportModel", "classOf", "(I)I"⟩,
  .instanceMethod ⟨"SiphonReportModel", "classOf", "(I)I"⟩,
  .selects "SiphonReportModel" ⟨"SiphonReportModel", "classOf", "(I)I"⟩ ⟨"SiphonReportModel", "classOf", "(I)I"⟩,
  .code ⟨"SiphonReportModel", "classOf", "(I)I"⟩ prog_12_method_29_code 4 (some .int),
  .methodLink "SiphonReportLaw" 56 ⟨"SiphonReportModel", "strong", "()I"⟩,
  .instanceMethod ⟨"SiphonReportModel", "strong", "()I"⟩,
  .selects "SiphonReportModel" ⟨"SiphonReportModel", "strong", "()I"⟩ ⟨"SiphonReportModel", "strong", "()I"⟩,
  .code ⟨"SiphonReportModel", "strong", "()I"⟩ prog_12_method_31_code 3 (some .int),
  .methodLink "SiphonReportModel" 149 ⟨"SiphonReportModel", "heads", "(I)Z"⟩,
  .instanceMethod ⟨"SiphonReportModel", "heads", "(I)Z"⟩,
  .code ⟨"SiphonReportModel", "heads", "(I)Z"⟩ prog_12_method_30_code 4 (some .boolean),
  .methodLink "SiphonReportLaw" 61 ⟨"SiphonReportModel", "terminal", "(I)Z"⟩,
  .instanceMethod ⟨"SiphonReportModel", "terminal", "(I)Z"⟩,
  .selects "SiphonReportModel" ⟨"SiphonReportModel", "terminal", "(I)Z"⟩ ⟨"SiphonReportModel", "terminal", "(I)Z"⟩,
  .code ⟨"SiphonReportModel", "terminal", "(I)Z"⟩ prog_12_method_32_code 3 (some .boolean),
  .methodLink "SiphonReportLaw" 65 ⟨"SiphonReportModel", "rank", "()I"⟩,
  .instanceMethod ⟨"SiphonReportModel", "rank", "()I"⟩,
  .selects "SiphonReportModel" ⟨"SiphonReportModel", "rank", "()I"⟩ ⟨"SiphonReportModel", "rank", "()I"⟩,
  .code ⟨"SiphonReportModel", "rank", "()I"⟩ prog_12_method_33_code 1 (some .int),
  .methodLink "SiphonReportLaw" 69 ⟨"SiphonReportModel", "deficiency", "(I)I"⟩,
  .instanceMethod ⟨"SiphonReportModel", "deficiency", "(I)I"⟩,
  .selects "SiphonReportModel" ⟨"SiphonReportModel", "deficiency", "(I)I"⟩ ⟨"SiphonReportModel", "deficiency", "(I)I"⟩,
  .code ⟨"SiphonReportModel", "deficiency", "(I)I"⟩ prog_12_method_34_code 5 (some .int),
  .methodLink "SiphonReportModel" 152 ⟨"SiphonReportModel", "linkage", "()I"⟩,
  .methodLink "SiphonReportModel" 155 ⟨"SiphonReportModel", "rank", "()I"⟩,
  .methodLink "SiphonReportModel" 158 ⟨"SiphonReportModel", "classOf", "(I)I"⟩,
  .methodLink "SiphonReportLaw" 73 ⟨"SiphonReportModel", "siphons", "()I"⟩,
  .instanceMethod ⟨"SiphonReportModel", "siphons", "()I"⟩,
  .selects "SiphonReportModel" ⟨"SiphonReportModel", "siphons", "()I"⟩ ⟨"SiphonReportModel", "siphons", "()I"⟩,
  .code ⟨"SiphonReportModel", "siphons", "()I"⟩ prog_12_method_35_code 1 (some .int),
  .methodLink "SiphonReportLaw" 77 ⟨"SiphonReportModel", "siphon", "(I)I"⟩,
  .instanceMethod ⟨"SiphonReportModel", "siphon", "(I)I"⟩,
  .selects "SiphonReportModel" ⟨"SiphonReportModel", "siphon", "(I)I"⟩ ⟨"SiphonReportModel", "siphon", "(I)I"⟩,
  .code ⟨"SiphonReportModel", "siphon", "(I)I"⟩ prog_12_method_36_code 2 (some .int),
  .methodLink "SiphonReportLaw" 81 ⟨"SiphonReportModel", "conserved", "(I)Z"⟩,
  .instanceMethod ⟨"SiphonReportModel", "conserved", "(I)Z"⟩,
  .selects "SiphonReportModel" ⟨"SiphonReportModel", "conserved", "(I)Z"⟩ ⟨"SiphonReportModel", "conserved", "(I)Z"⟩,
  .code ⟨"SiphonReportModel", "conserved", "(I)Z"⟩ prog_12_method_37_code 4 (some .boolean),
  .methodLink "SiphonReportLaw" 85 ⟨"SiphonReportModel", "sums", "()I"⟩]
def zTs_12 : List Cond := [.instanceMethod ⟨"SiphonReportModel", "sums", "()I"⟩,
  .selects "SiphonReportModel" ⟨"SiphonReportModel", "sums", "()I"⟩ ⟨"SiphonReportModel", "sums", "()I"⟩,
  .code ⟨"SiphonReportModel", "sums", "()I"⟩ prog_12_method_38_code 1 (some .int),
  .methodLink "SiphonReportLaw" 89 ⟨"SiphonReportModel", "support", "(I)I"⟩,
  .instanceMethod ⟨"SiphonReportModel", "support", "(I)I"⟩,
  .selects "SiphonReportModel" ⟨"SiphonReportModel", "support", "(I)I"⟩ ⟨"SiphonReportModel", "support", "(I)I"⟩,
  .code ⟨"SiphonReportModel", "support", "(I)I"⟩ prog_12_method_39_code 2 (some .int),
  .methodLink "SiphonReportLaw" 93 ⟨"SiphonReportModel", "weight", "(II)I"⟩,
  .instanceMethod ⟨"SiphonReportModel", "weight", "(II)I"⟩,
  .selects "SiphonReportModel" ⟨"SiphonReportModel", "weight", "(II)I"⟩ ⟨"SiphonReportModel", "weight", "(II)I"⟩,
  .code ⟨"SiphonReportModel", "weight", "(II)I"⟩ prog_12_method_40_code 3 (some .int),
  .methodLink "SiphonReportLaw" 97 ⟨"SiphonReportModel", "flags", "()I"⟩,
  .instanceMethod ⟨"SiphonReportModel", "flags", "()I"⟩,
  .selects "SiphonReportModel" ⟨"SiphonReportModel", "flags", "()I"⟩ ⟨"SiphonReportModel", "flags", "()I"⟩,
  .code ⟨"SiphonReportModel", "flags", "()I"⟩ prog_12_method_42_code 6 (some .int),
  .methodLink "SiphonReportModel" 167 ⟨"SiphonReportModel", "strong", "()I"⟩,
  .methodLink "SiphonReportModel" 164 ⟨"SiphonReportModel", "deficiency", "(I)I"⟩,
  .methodLink "SiphonReportModel" 170 ⟨"SiphonReportModel", "single", "()Z"⟩,
  .instanceMethod ⟨"SiphonReportModel", "single", "()Z"⟩,
  .code ⟨"SiphonReportModel", "single", "()Z"⟩ prog_12_method_41_code 5 (some .boolean),
  .methodLink "SiphonReportModel" 161 ⟨"SiphonReportModel", "terminal", "(I)Z"⟩,
  .methodLink "SiphonReportModel" 174 ⟨"SiphonReportModel", "conserved", "(I)Z"⟩]
def zTs : List Cond := zTs_1 ++ (zTs_2 ++ (zTs_3 ++ (zTs_4 ++ (zTs_5 ++ (zTs_6 ++ (zTs_7 ++ (zTs_8 ++ (zTs_9 ++ (zTs_10 ++ (zTs_11 ++ (zTs_12)))))))))))
def zNs_1 : List Cond := [.methodLinkNest "SiphonReport" 11 ⟨"SiphonReport$Text", "<init>", "()V"⟩ "SiphonReport",
  .fieldLinkNest "SiphonReport$Lines" 35 "SiphonReport$Text" "signs" "[C" "SiphonReport",
  .fieldLinkNest "SiphonReport$Form" 25 "SiphonReport$Text" "signs" "[C" "SiphonReport",
  .fieldLinkNest "SiphonReport$Lines" 30 "SiphonReport$Text" "length" "I" "SiphonReport",
  .fieldLinkNest "SiphonReport$Form" 20 "SiphonReport$Text" "length" "I" "SiphonReport",
  .fieldLinkNest "SiphonReport" 72 "SiphonReport$Text" "length" "I" "SiphonReport",
  .methodLinkNest "SiphonReport" 18 ⟨"SiphonReport$Form", "<init>", "()V"⟩ "SiphonReport",
  .methodLinkNest "SiphonReport" 25 ⟨"SiphonReport$Lines", "<init>", "()V"⟩ "SiphonReport",
  .methodLinkNest "SiphonReport" 32 ⟨"SiphonReport$Classes", "<init>", "()V"⟩ "SiphonReport",
  .fieldLinkNest "SiphonReport$Ranks" 39 "SiphonReport$Classes" "linkageOf" "[I" "SiphonReport",
  .fieldLinkNest "SiphonReport" 128 "SiphonReport$Classes" "linkageOf" "[I" "SiphonReport",
  .fieldLinkNest "SiphonReport" 141 "SiphonReport$Classes" "complexesIn" "[I" "SiphonReport",
  .fieldLinkNest "SiphonReport" 190 "SiphonReport$Classes" "terminalsIn" "[I" "SiphonReport",
  .fieldLinkNest "SiphonReport$Ranks" 25 "SiphonReport$Classes" "linkageCount" "I" "SiphonReport",
  .fieldLinkNest "SiphonReport" 125 "SiphonReport$Classes" "linkageCount" "I" "SiphonReport",
  .fieldLinkNest "SiphonReport" 132 "SiphonReport$Classes" "strongCount" "I" "SiphonReport",
  .methodLinkNest "SiphonReport" 39 ⟨"SiphonReport$Ranks", "<init>", "()V"⟩ "SiphonReport",
  .methodLinkNest "SiphonReport$Ranks" 11 ⟨"SiphonReport$Matrix", "<init>", "()V"⟩ "SiphonReport",
  .fieldLinkNest "SiphonReport$Sums" 72 "SiphonReport$Matrix" "rows" "[[J" "SiphonReport",
  .fieldLinkNest "SiphonReport$Sums" 68 "SiphonReport$Matrix" "pivotRow" "[I" "SiphonReport",
  .fieldLinkNest "SiphonReport$Ranks" 31 "SiphonReport$Matrix" "rowCount" "I" "SiphonReport",
  .fieldLinkNest "SiphonReport" 97 "SiphonReport$Ranks" "reduced" "LSiphonReport$Matrix;" "SiphonReport",
  .fieldLinkNest "SiphonReport" 144 "SiphonReport$Ranks" "ofLinkage" "[I" "SiphonReport",
  .fieldLinkNest "SiphonReport" 138 "SiphonReport$Ranks" "ofNetwork" "I" "SiphonReport",
  .methodLinkNest "SiphonReport" 46 ⟨"SiphonReport$SetList", "<init>", "()V"⟩ "SiphonReport",
  .fieldLinkNest "SiphonReport$Sums" 30 "SiphonReport$SetList" "count" "I" "SiphonReport",
  .fieldLinkNest "SiphonReport" 147 "SiphonReport$SetList" "count" "I" "SiphonReport",
  .methodLinkNest "SiphonReport" 53 ⟨"SiphonReport$Sums", "<init>", "()V"⟩ "SiphonReport",
  .methodLinkNest "SiphonReport$Sums" 11 ⟨"SiphonReport$SetList", "<init>", "()V"⟩ "SiphonReport",
  .methodLinkNest "SiphonReport$Sums" 25 ⟨"SiphonReport$Matrix", "<init>", "()V"⟩ "SiphonReport",
  .fieldLinkNest "SiphonReport" 155 "SiphonReport$Sums" "supports" "LSiphonReport$SetList;" "SiphonReport",
  .fieldLinkNest "SiphonReport" 161 "SiphonReport$Sums" "weights" "[[I" "SiphonReport",
  .methodLinkNest "SiphonReport" 60 ⟨"SiphonReport$Network", "<init>", "()V"⟩ "SiphonReport",
  .fieldLinkNest "SiphonReport$Matrix" 24 "SiphonReport$Network" "numbers" "[[I" "SiphonReport",
  .fieldLinkNest "SiphonReport" 117 "SiphonReport$Network" "numbers" "[[I" "SiphonReport",
  .fieldLinkNest "SiphonReport$Matrix" 30 "SiphonReport$Network" "source" "[I" "SiphonReport",
  .fieldLinkNest "SiphonReport$Ranks" 42 "SiphonReport$Network" "source" "[I" "SiphonReport",
  .fieldLinkNest "SiphonReport$Classes" 36 "SiphonReport$Network" "source" "[I" "SiphonReport",
  .fieldLinkNest "SiphonReport$Matrix" 33 "SiphonReport$Network" "target" "[I" "SiphonReport",
  .fieldLinkNest "SiphonReport$Classes" 39 "SiphonReport$Network" "target" "[I" "SiphonReport",
  .fieldLinkNest "SiphonReport$Classes" 27 "SiphonReport$Network" "complexCount" "I" "SiphonReport",
  .fieldLinkNest "SiphonReport$Lines" 18 "SiphonReport$Network" "complexCount" "I" "SiphonReport",
  .fieldLinkNest "SiphonReport" 107 "SiphonReport$Network" "complexCount" "I" "SiphonReport",
  .fieldLinkNest "SiphonReport$Lines" 24 "SiphonReport$Network" "reactionCount" "I" "SiphonReport",
  .fieldLinkNest "SiphonReport$Ranks" 34 "SiphonReport$Network" "reactionCount" "I" "SiphonReport",
  .fieldLinkNest "SiphonReport$Classes" 33 "SiphonReport$Network" "reactionCount" "I" "SiphonReport",
  .fieldLinkNest "SiphonReport" 104 "SiphonReport$Network" "reactionCount" "I" "SiphonReport",
  .methodLinkNest "SiphonReport$Form" 52 ⟨"SiphonReport", "isSpecies", "(I)Z"⟩ "SiphonReport",
  .methodLinkNest "SiphonReport$Lines" 62 ⟨"SiphonReport", "sameNumbers", "([I[I)Z"⟩ "SiphonReport",
  .methodLinkNest "SiphonReport$Network" 30 ⟨"SiphonReport", "sameNumbers", "([I[I)Z"⟩ "SiphonReport",
  .methodLinkNest "SiphonReport$Lines" 54 ⟨"SiphonReport", "isSpecies", "(I)Z"⟩ "SiphonReport",
  .methodLinkNest "SiphonReport$Classes" 57 ⟨"SiphonReport", "holds", "(II)Z"⟩ "SiphonReport",
  .methodLinkNest "SiphonReport$Matrix" 52 ⟨"SiphonReport", "commonDivisor", "(JJ)J"⟩ "SiphonReport",
  .methodLinkNest "SiphonReport$SetList" 23 ⟨"SiphonReport", "isPart", "(II)Z"⟩ "SiphonReport",
  .methodLinkNest "SiphonReport$Sums" 40 ⟨"SiphonReport", "isPart", "(II)Z"⟩ "SiphonReport",
  .methodLinkNest "SiphonReport$Matrix" 36 ⟨"SiphonReport", "holds", "(II)Z"⟩ "SiphonReport",
  .methodLinkNest "SiphonReport$Sums" 96 ⟨"SiphonReport", "holds", "(II)Z"⟩ "SiphonReport",
  .methodLinkNest "SiphonReport$Sums" 82 ⟨"SiphonReport", "commonDivisor", "(JJ)J"⟩ "SiphonReport"]
def zNs : List Cond := zNs_1
def zm_0 : zM := (⟨"SiphonReport$Text", "<init>", "()V"⟩, prog_10_method_1_code, 1, none, 1, 20, 1, 0, [
  (0, .aload_n 0, 1, 0, 0, 0),
  (1, .invokespecial 3, 3, 0, 0, 0),
  (4, .aload_n 0, 1, 0, 0, 0),
  (5, .bipush 100, 2, 0, 0, 0),
  (7, .newarray .char, 2, 0, 0, 0),
  (9, .putfield 9, 3, 1, 0, 0),
  (12, .return_, 1, 0, 0, 0)])
def zm_1 : zM := (⟨"SiphonReport$Form", "<init>", "()V"⟩, prog_3_method_1_code, 1, none, 1, 20, 1, 0, [
  (0, .aload_n 0, 1, 0, 0, 0),
  (1, .invokespecial 1, 3, 0, 0, 0),
  (4, .return_, 1, 0, 0, 0)])
def zm_2 : zM := (⟨"SiphonReport$Lines", "<init>", "()V"⟩, prog_4_method_1_code, 1, none, 1, 20, 1, 0, [
  (0, .aload_n 0, 1, 0, 0, 0),
  (1, .invokespecial 3, 3, 0, 0, 0),
  (4, .aload_n 0, 1, 0, 0, 0),
  (5, .bipush 7, 2, 0, 0, 0),
  (7, .newarray .int, 2, 0, 0, 0),
  (9, .putfield 9, 3, 3, 0, 0),
  (12, .aload_n 0, 1, 0, 0, 0),
  (13, .bipush 7, 2, 0, 0, 0),
  (15, .newarray .int, 2, 0, 0, 0),
  (17, .putfield 15, 3, 3, 1, 0),
  (20, .return_, 1, 0, 0, 0)])
def zm_3 : zM := (⟨"SiphonReport$Classes", "<init>", "()V"⟩, prog_2_method_1_code, 1, none, 1, 20, 1, 0, [
  (0, .aload_n 0, 1, 0, 0, 0),
  (1, .invokespecial 3, 3, 0, 0, 0),
  (4, .aload_n 0, 1, 0, 0, 0),
  (5, .bipush 9, 2, 0, 0, 0),
  (7, .newarray .int, 2, 0, 0, 0),
  (9, .putfield 9, 3, 5, 0, 0),
  (12, .aload_n 0, 1, 0, 0, 0),
  (13, .bipush 9, 2, 0, 0, 0),
  (15, .newarray .int, 2, 0, 0, 0),
  (17, .putfield 15, 3, 5, 1, 0),
  (20, .aload_n 0, 1, 0, 0, 0),
  (21, .bipush 9, 2, 0, 0, 0),
  (23, .newarray .int, 2, 0, 0, 0),
  (25, .putfield 18, 3, 5, 2, 0),
  (28, .aload_n 0, 1, 0, 0, 0),
  (29, .bipush 9, 2, 0, 0, 0),
  (31, .newarray .int, 2, 0, 0, 0),
  (33, .putfield 21, 3, 5, 3, 0),
  (36, .aload_n 0, 1, 0, 0, 0),
  (37, .bipush 9, 2, 0, 0, 0),
  (39, .newarray .int, 2, 0, 0, 0),
  (41, .putfield 24, 3, 5, 4, 0),
  (44, .return_, 1, 0, 0, 0)])
def zm_4 : zM := (⟨"SiphonReport$Matrix", "<init>", "()V"⟩, prog_5_method_1_code, 1, none, 1, 20, 1, 0, [
  (0, .aload_n 0, 1, 0, 0, 0),
  (1, .invokespecial 3, 3, 0, 0, 0),
  (4, .aload_n 0, 1, 0, 0, 0),
  (5, .bipush 10, 2, 0, 0, 0),
  (7, .bipush 7, 2, 0, 0, 0),
  (9, .multianewarray 9 2, 4, 1, 0, 0),
  (13, .putfield 11, 3, 7, 0, 0),
  (16, .aload_n 0, 1, 0, 0, 0),
  (17, .bipush 7, 2, 0, 0, 0),
  (19, .newarray .int, 2, 0, 0, 0),
  (21, .putfield 16, 3, 7, 1, 0),
  (24, .return_, 1, 0, 0, 0)])
def zm_5 : zM := (⟨"SiphonReport$Ranks", "<init>", "()V"⟩, prog_7_method_1_code, 1, none, 2, 40, 1, 0, [
  (0, .aload_n 0, 1, 0, 0, 0),
  (1, .invokespecial 3, 3, 0, 0, 0),
  (4, .aload_n 0, 1, 0, 0, 0),
  (5, .new 9, 3, 7, 0, 0),
  (8, .dup, 1, 0, 0, 0),
  (9, .invokespecial 11, 4, 4, 1, 1),
  (12, .putfield 12, 3, 6, 0, 0),
  (15, .aload_n 0, 1, 0, 0, 0),
  (16, .new 9, 3, 7, 0, 0),
  (19, .dup, 1, 0, 0, 0),
  (20, .invokespecial 11, 4, 4, 1, 1),
  (23, .putfield 18, 3, 6, 1, 0),
  (26, .aload_n 0, 1, 0, 0, 0),
  (27, .bipush 9, 2, 0, 0, 0),
  (29, .newarray .int, 2, 0, 0, 0),
  (31, .putfield 21, 3, 6, 2, 0),
  (34, .return_, 1, 0, 0, 0)])
def zm_6 : zM := (⟨"SiphonReport$SetList", "<init>", "()V"⟩, prog_8_method_1_code, 1, none, 1, 20, 1, 0, [
  (0, .aload_n 0, 1, 0, 0, 0),
  (1, .invokespecial 3, 3, 0, 0, 0),
  (4, .aload_n 0, 1, 0, 0, 0),
  (5, .bipush 35, 2, 0, 0, 0),
  (7, .newarray .int, 2, 0, 0, 0),
  (9, .putfield 9, 3, 8, 0, 0),
  (12, .return_, 1, 0, 0, 0)])
def zm_7 : zM := (⟨"SiphonReport$Sums", "<init>", "()V"⟩, prog_9_method_1_code, 1, none, 2, 40, 1, 0, [
  (0, .aload_n 0, 1, 0, 0, 0),
  (1, .invokespecial 3, 3, 0, 0, 0),
  (4, .aload_n 0, 1, 0, 0, 0),
  (5, .new 9, 3, 8, 0, 0),
  (8, .dup, 1, 0, 0, 0),
  (9, .invokespecial 11, 4, 6, 1, 1),
  (12, .putfield 12, 3, 9, 0, 0),
  (15, .aload_n 0, 1, 0, 0, 0),
  (16, .bipush 35, 2, 0, 0, 0),
  (18, .bipush 7, 2, 0, 0, 0),
  (20, .multianewarray 18 2, 4, 0, 0, 0),
  (24, .putfield 20, 3, 9, 1, 0),
  (27, .aload_n 0, 1, 0, 0, 0),
  (28, .new 23, 3, 7, 0, 0),
  (31, .dup, 1, 0, 0, 0),
  (32, .invokespecial 25, 4, 4, 1, 1),
  (35, .putfield 26, 3, 9, 2, 0),
  (38, .return_, 1, 0, 0, 0)])
def zm_8 : zM := (⟨"SiphonReport$Network", "<init>", "()V"⟩, prog_6_method_1_code, 1, none, 1, 20, 1, 0, [
  (0, .aload_n 0, 1, 0, 0, 0),
  (1, .invokespecial 3, 3, 0, 0, 0),
  (4, .aload_n 0, 1, 0, 0, 0),
  (5, .bipush 9, 2, 0, 0, 0),
  (7, .bipush 7, 2, 0, 0, 0),
  (9, .multianewarray 9 2, 4, 0, 0, 0),
  (13, .putfield 11, 3, 4, 0, 0),
  (16, .aload_n 0, 1, 0, 0, 0),
  (17, .bipush 9, 2, 0, 0, 0),
  (19, .newarray .int, 2, 0, 0, 0),
  (21, .putfield 16, 3, 4, 1, 0),
  (24, .aload_n 0, 1, 0, 0, 0),
  (25, .bipush 10, 2, 0, 0, 0),
  (27, .newarray .int, 2, 0, 0, 0),
  (29, .putfield 20, 3, 4, 2, 0),
  (32, .aload_n 0, 1, 0, 0, 0),
  (33, .bipush 10, 2, 0, 0, 0),
  (35, .newarray .int, 2, 0, 0, 0),
  (37, .putfield 23, 3, 4, 3, 0),
  (40, .return_, 1, 0, 0, 0)])
def zm_9 : zM := (⟨"SiphonReport", "<init>", "()V"⟩, prog_1_method_1_code, 1, none, 3, 60, 1, 0, [
  (0, .aload_n 0, 1, 0, 0, 0),
  (1, .invokespecial 3, 3, 0, 0, 0),
  (4, .aload_n 0, 1, 0, 0, 0),
  (5, .new 9, 3, 1, 0, 0),
  (8, .dup, 1, 0, 0, 0),
  (9, .invokespecial 11, 4, 0, 1, 1),
  (12, .putfield 12, 3, 0, 0, 0),
  (15, .aload_n 0, 1, 0, 0, 0),
  (16, .new 16, 3, 2, 0, 0),
  (19, .dup, 1, 0, 0, 0),
  (20, .invokespecial 18, 4, 1, 1, 1),
  (23, .putfield 19, 3, 0, 1, 0),
  (26, .aload_n 0, 1, 0, 0, 0),
  (27, .new 23, 3, 3, 0, 0),
  (30, .dup, 1, 0, 0, 0),
  (31, .invokespecial 25, 4, 2, 1, 1),
  (34, .putfield 26, 3, 0, 2, 0),
  (37, .aload_n 0, 1, 0, 0, 0),
  (38, .new 30, 3, 5, 0, 0),
  (41, .dup, 1, 0, 0, 0),
  (42, .invokespecial 32, 4, 3, 1, 1),
  (45, .putfield 33, 3, 0, 3, 0),
  (48, .aload_n 0, 1, 0, 0, 0),
  (49, .new 37, 3, 6, 0, 0),
  (52, .dup, 1, 0, 0, 0),
  (53, .invokespecial 39, 4, 5, 1, 1),
  (56, .putfield 40, 3, 0, 4, 0),
  (59, .aload_n 0, 1, 0, 0, 0),
  (60, .new 44, 3, 8, 0, 0),
  (63, .dup, 1, 0, 0, 0),
  (64, .invokespecial 46, 4, 6, 1, 1),
  (67, .putfield 47, 3, 0, 5, 0),
  (70, .aload_n 0, 1, 0, 0, 0),
  (71, .new 51, 3, 9, 0, 0),
  (74, .dup, 1, 0, 0, 0),
  (75, .invokespecial 53, 4, 7, 1, 1),
  (78, .putfield 54, 3, 0, 6, 0),
  (81, .aload_n 0, 1, 0, 0, 0),
  (82, .new 58, 3, 4, 0, 0),
  (85, .dup, 1, 0, 0, 0),
  (86, .invokespecial 60, 4, 8, 1, 1),
  (89, .putfield 61, 3, 0, 7, 0),
  (92, .aload_n 0, 1, 0, 0, 0),
  (93, .new 58, 3, 4, 0, 0),
  (96, .dup, 1, 0, 0, 0),
  (97, .invokespecial 60, 4, 8, 1, 1),
  (100, .putfield 65, 3, 0, 8, 0),
  (103, .return_, 1, 0, 0, 0)])
def zm_10 : zM := (⟨"SiphonReportModel", "<init>", "()V"⟩, prog_12_method_1_code, 1, none, 1, 20, 1, 0, [
  (0, .aload_n 0, 1, 0, 0, 0),
  (1, .invokespecial 1, 3, 0, 0, 0),
  (4, .aload_n 0, 1, 0, 0, 0),
  (5, .bipush 100, 2, 0, 0, 0),
  (7, .newarray .char, 2, 0, 0, 0),
  (9, .putfield 7, 3, 10, 0, 0),
  (12, .aload_n 0, 1, 0, 0, 0),
  (13, .bipush 77, 2, 0, 0, 0),
  (15, .newarray .int, 2, 0, 0, 0),
  (17, .putfield 13, 3, 10, 3, 0),
  (20, .aload_n 0, 1, 0, 0, 0),
  (21, .bipush 121, 2, 0, 0, 0),
  (23, .newarray .boolean, 2, 0, 0, 0),
  (25, .putfield 17, 3, 10, 4, 0),
  (28, .aload_n 0, 1, 0, 0, 0),
  (29, .bipush 7, 2, 0, 0, 0),
  (31, .newarray .int, 2, 0, 0, 0),
  (33, .putfield 21, 3, 10, 6, 0),
  (36, .aload_n 0, 1, 0, 0, 0),
  (37, .bipush 7, 2, 0, 0, 0),
  (39, .newarray .int, 2, 0, 0, 0),
  (41, .putfield 24, 3, 10, 7, 0),
  (44, .aload_n 0, 1, 0, 0, 0),
  (45, .bipush 63, 2, 0, 0, 0),
  (47, .newarray .int, 2, 0, 0, 0),
  (49, .putfield 27, 3, 10, 10, 0),
  (52, .aload_n 0, 1, 0, 0, 0),
  (53, .bipush 81, 2, 0, 0, 0),
  (55, .newarray .boolean, 2, 0, 0, 0),
  (57, .putfield 30, 3, 10, 11, 0),
  (60, .aload_n 0, 1, 0, 0, 0),
  (61, .bipush 81, 2, 0, 0, 0),
  (63, .newarray .boolean, 2, 0, 0, 0),
  (65, .putfield 33, 3, 10, 12, 0),
  (68, .aload_n 0, 1, 0, 0, 0),
  (69, .bipush 9, 2, 0, 0, 0),
  (71, .newarray .int, 2, 0, 0, 0),
  (73, .putfield 36, 3, 10, 13, 0),
  (76, .aload_n 0, 1, 0, 0, 0),
  (77, .bipush 35, 2, 0, 0, 0),
  (79, .newarray .int, 2, 0, 0, 0),
  (81, .putfield 39, 3, 10, 15, 0),
  (84, .aload_n 0, 1, 0, 0, 0),
  (85, .bipush 35, 2, 0, 0, 0),
  (87, .newarray .int, 2, 0, 0, 0),
  (89, .putfield 42, 3, 10, 17, 0),
  (92, .aload_n 0, 1, 0, 0, 0),
  (93, .sipush 245, 3, 0, 0, 0),
  (96, .newarray .int, 2, 0, 0, 0),
  (98, .putfield 45, 3, 10, 18, 0),
  (101, .aload_n 0, 1, 0, 0, 0),
  (102, .bipush 70, 2, 0, 0, 0),
  (104, .newarray .long, 2, 0, 0, 0),
  (106, .putfield 48, 3, 10, 20, 0),
  (109, .aload_n 0, 1, 0, 0, 0),
  (110, .bipush 7, 2, 0, 0, 0),
  (112, .newarray .int, 2, 0, 0, 0),
  (114, .putfield 52, 3, 10, 21, 0),
  (117, .return_, 1, 0, 0, 0)])
def zm_11 : zM := (⟨"SiphonReport$Text", "append", "(C)Z"⟩, prog_10_method_2_code, 2, (some .boolean), 0, 0, 2, 1, [
  (0, .iload_n 1, 1, 0, 0, 0),
  (1, .bipush 32, 2, 0, 0, 0),
  (3, .if_icmp .lt 18, 3, 0, 0, 0),
  (6, .iload_n 1, 1, 0, 0, 0),
  (7, .bipush 126, 2, 0, 0, 0),
  (9, .if_icmp .gt 12, 3, 0, 0, 0),
  (12, .aload_n 0, 1, 0, 0, 0),
  (13, .getfield 15, 3, 1, 1, 0),
  (16, .bipush 100, 2, 0, 0, 0),
  (18, .if_icmp .lt 5, 3, 0, 0, 0),
  (21, .iconst 0, 1, 0, 0, 0),
  (22, .ireturn, 1, 0, 0, 0),
  (23, .aload_n 0, 1, 0, 0, 0),
  (24, .getfield 9, 3, 1, 0, 0),
  (27, .aload_n 0, 1, 0, 0, 0),
  (28, .getfield 15, 3, 1, 1, 0),
  (31, .iload_n 1, 1, 0, 0, 0),
  (32, .castore, 1, 0, 0, 0),
  (33, .aload_n 0, 1, 0, 0, 0),
  (34, .dup, 1, 0, 0, 0),
  (35, .getfield 15, 3, 1, 1, 0),
  (38, .iconst 1, 1, 0, 0, 0),
  (39, .iadd, 1, 0, 0, 0),
  (40, .putfield 15, 3, 1, 1, 0),
  (43, .iconst 1, 1, 0, 0, 0),
  (44, .ireturn, 1, 0, 0, 0)])
def zm_12 : zM := (⟨"SiphonReport", "type", "(C)Z"⟩, prog_1_method_2_code, 2, (some .boolean), 1, 21, 2, 1, [
  (0, .aload_n 0, 1, 0, 0, 0),
  (1, .getfield 12, 3, 0, 0, 0),
  (4, .iload_n 1, 1, 0, 0, 0),
  (5, .invokevirtual 68, 3, 11, 2, 1),
  (8, .ireturn, 1, 0, 0, 0)])
def zm_13 : zM := (⟨"SiphonReportModel", "type", "(C)Z"⟩, prog_12_method_2_code, 2, (some .boolean), 0, 0, 2, 1, [
  (0, .iload_n 1, 1, 0, 0, 0),
  (1, .bipush 32, 2, 0, 0, 0),
  (3, .if_icmp .lt 18, 3, 0, 0, 0),
  (6, .iload_n 1, 1, 0, 0, 0),
  (7, .bipush 126, 2, 0, 0, 0),
  (9, .if_icmp .gt 12, 3, 0, 0, 0),
  (12, .aload_n 0, 1, 0, 0, 0),
  (13, .getfield 55, 3, 10, 1, 0),
  (16, .bipush 100, 2, 0, 0, 0),
  (18, .if_icmp .ne 5, 3, 0, 0, 0),
  (21, .iconst 0, 1, 0, 0, 0),
  (22, .ireturn, 1, 0, 0, 0),
  (23, .aload_n 0, 1, 0, 0, 0),
  (24, .getfield 7, 3, 10, 0, 0),
  (27, .aload_n 0, 1, 0, 0, 0),
  (28, .getfield 55, 3, 10, 1, 0),
  (31, .iload_n 1, 1, 0, 0, 0),
  (32, .castore, 1, 0, 0, 0),
  (33, .aload_n 0, 1, 0, 0, 0),
  (34, .dup, 1, 0, 0, 0),
  (35, .getfield 55, 3, 10, 1, 0),
  (38, .iconst 1, 1, 0, 0, 0),
  (39, .iadd, 1, 0, 0, 0),
  (40, .putfield 55, 3, 10, 1, 0),
  (43, .iconst 1, 1, 0, 0, 0),
  (44, .ireturn, 1, 0, 0, 0)])
def zm_14 : zM := (⟨"SiphonReport", "clear", "()V"⟩, prog_1_method_3_code, 1, none, 0, 0, 2, 0, [
  (0, .aload_n 0, 1, 0, 0, 0),
  (1, .getfield 12, 3, 0, 0, 0),
  (4, .iconst 0, 1, 0, 0, 0),
  (5, .putfield 72, 4, 1, 1, 0),
  (8, .return_, 1, 0, 0, 0)])
def zm_15 : zM := (⟨"SiphonReportModel", "clear", "()V"⟩, prog_12_method_3_code, 1, none, 0, 0, 2, 0, [
  (0, .aload_n 0, 1, 0, 0, 0),
  (1, .iconst 0, 1, 0, 0, 0),
  (2, .putfield 55, 3, 10, 1, 0),
  (5, .return_, 1, 0, 0, 0)])
def zm_16 : zM := (⟨"SiphonReport$Form", "moveTo", "(I)Z"⟩, prog_3_method_10_code, 2, (some .boolean), 0, 0, 2, 1, [
  (0, .aload_n 0, 1, 0, 0, 0),
  (1, .iload_n 1, 1, 0, 0, 0),
  (2, .putfield 9, 3, 2, 0, 0),
  (5, .iconst 1, 1, 0, 0, 0),
  (6, .ireturn, 1, 0, 0, 0)])
def zm_17 : zM := (⟨"SiphonReport", "isSpecies", "(I)Z"⟩, prog_1_method_27_code, 1, (some .boolean), 0, 0, 0, 1, [
  (0, .iload_n 0, 1, 0, 0, 0),
  (1, .ifCond .lt 13, 3, 0, 0, 0),
  (4, .iload_n 0, 1, 0, 0, 0),
  (5, .bipush 7, 2, 0, 0, 0),
  (7, .if_icmp .ge 7, 3, 0, 0, 0),
  (10, .iconst 1, 1, 0, 0, 0),
  (11, .goto 4, 3, 0, 0, 0),
  (14, .iconst 0, 1, 0, 0, 0),
  (15, .ireturn, 1, 0, 0, 0)])
def zm_18 : zM := (⟨"SiphonReport$Form", "acceptsSpecies", "(C)Z"⟩, prog_3_method_7_code, 2, (some .boolean), 1, 21, 2, 1, [
  (0, .iload_n 1, 1, 0, 0, 0),
  (1, .bipush 65, 2, 0, 0, 0),
  (3, .isub, 1, 0, 0, 0),
  (4, .invokestatic 52, 4, 17, 1, 0),
  (7, .ifCond .eq 15, 3, 0, 0, 0),
  (10, .aload_n 0, 1, 0, 0, 0),
  (11, .iconst 4, 1, 0, 0, 0),
  (12, .invokevirtual 48, 3, 16, 2, 2),
  (15, .ifCond .eq 7, 3, 0, 0, 0),
  (18, .iconst 1, 1, 0, 0, 0),
  (19, .goto 4, 3, 0, 0, 0),
  (22, .iconst 0, 1, 0, 0, 0),
  (23, .ireturn, 1, 0, 0, 0)])
def zm_19 : zM := (⟨"SiphonReport$Form", "acceptsTerm", "(C)Z"⟩, prog_3_method_6_code, 2, (some .boolean), 2, 42, 2, 1, [
  (0, .iload_n 1, 1, 0, 0, 0),
  (1, .bipush 49, 2, 0, 0, 0),
  (3, .if_icmp .lt 17, 3, 0, 0, 0),
  (6, .iload_n 1, 1, 0, 0, 0),
  (7, .bipush 57, 2, 0, 0, 0),
  (9, .if_icmp .gt 11, 3, 0, 0, 0),
  (12, .aload_n 0, 1, 0, 0, 0),
  (13, .iconst 3, 1, 0, 0, 0),
  (14, .invokevirtual 48, 3, 16, 2, 2),
  (17, .goto 8, 3, 0, 0, 0),
  (20, .aload_n 0, 1, 0, 0, 0),
  (21, .iload_n 1, 1, 0, 0, 0),
  (22, .invokevirtual 39, 3, 18, 2, 2),
  (25, .ireturn, 1, 0, 0, 0)])
def zm_20 : zM := (⟨"SiphonReport$Form", "acceptsSide", "(C)Z"⟩, prog_3_method_5_code, 2, (some .boolean), 3, 63, 2, 1, [
  (0, .iload_n 1, 1, 0, 0, 0),
  (1, .bipush 48, 2, 0, 0, 0),
  (3, .if_icmp .ne 11, 3, 0, 0, 0),
  (6, .aload_n 0, 1, 0, 0, 0),
  (7, .iconst 5, 1, 0, 0, 0),
  (8, .invokevirtual 48, 3, 16, 2, 2),
  (11, .goto 8, 3, 0, 0, 0),
  (14, .aload_n 0, 1, 0, 0, 0),
  (15, .iload_n 1, 1, 0, 0, 0),
  (16, .invokevirtual 36, 3, 19, 2, 2),
  (19, .ireturn, 1, 0, 0, 0)])
def zm_21 : zM := (⟨"SiphonReport$Form", "acceptsPlus", "(C)Z"⟩, prog_3_method_8_code, 2, (some .boolean), 1, 21, 2, 1, [
  (0, .iload_n 1, 1, 0, 0, 0),
  (1, .bipush 43, 2, 0, 0, 0),
  (3, .if_icmp .ne 15, 3, 0, 0, 0),
  (6, .aload_n 0, 1, 0, 0, 0),
  (7, .iconst 2, 1, 0, 0, 0),
  (8, .invokevirtual 48, 3, 16, 2, 2),
  (11, .ifCond .eq 7, 3, 0, 0, 0),
  (14, .iconst 1, 1, 0, 0, 0),
  (15, .goto 4, 3, 0, 0, 0),
  (18, .iconst 0, 1, 0, 0, 0),
  (19, .ireturn, 1, 0, 0, 0)])
def zm_22 : zM := (⟨"SiphonReport$Form", "acceptsSideEnd", "(C)Z"⟩, prog_3_method_9_code, 3, (some .boolean), 0, 0, 2, 1, [
  (0, .aload_n 0, 1, 0, 0, 0),
  (1, .getfield 13, 3, 2, 1, 0),
  (4, .ifCond .eq 17, 3, 0, 0, 0),
  (7, .iload_n 1, 1, 0, 0, 0),
  (8, .bipush 59, 2, 0, 0, 0),
  (10, .if_icmp .ne 7, 3, 0, 0, 0),
  (13, .iconst 1, 1, 0, 0, 0),
  (14, .goto 24, 3, 0, 0, 0),
  (17, .iconst 0, 1, 0, 0, 0),
  (18, .goto 20, 3, 0, 0, 0),
  (21, .iload_n 1, 1, 0, 0, 0),
  (22, .bipush 62, 2, 0, 0, 0),
  (24, .if_icmp .eq 9, 3, 0, 0, 0),
  (27, .iload_n 1, 1, 0, 0, 0),
  (28, .bipush 61, 2, 0, 0, 0),
  (30, .if_icmp .ne 7, 3, 0, 0, 0),
  (33, .iconst 1, 1, 0, 0, 0),
  (34, .goto 4, 3, 0, 0, 0),
  (37, .iconst 0, 1, 0, 0, 0),
  (38, .istore_n 2, 1, 0, 0, 0),
  (39, .iload_n 2, 1, 0, 0, 0),
  (40, .ifCond .eq 24, 3, 0, 0, 0),
  (43, .aload_n 0, 1, 0, 0, 0),
  (44, .aload_n 0, 1, 0, 0, 0),
  (45, .getfield 13, 3, 2, 1, 0),
  (48, .ifCond .ne 7, 3, 0, 0, 0),
  (51, .iconst 1, 1, 0, 0, 0),
  (52, .goto 4, 3, 0, 0, 0),
  (55, .iconst 0, 1, 0, 0, 0),
  (56, .putfield 13, 3, 2, 1, 0),
  (59, .aload_n 0, 1, 0, 0, 0),
  (60, .iconst 1, 1, 0, 0, 0),
  (61, .putfield 9, 3, 2, 0, 0),
  (64, .iload_n 2, 1, 0, 0, 0),
  (65, .ireturn, 1, 0, 0, 0)])
def zm_23 : zM := (⟨"SiphonReport$Form", "accepts", "(C)Z"⟩, prog_3_method_4_code, 2, (some .boolean), 4, 84, 2, 1, [
  (0, .iload_n 1, 1, 0, 0, 0),
  (1, .bipush 32, 2, 0, 0, 0),
  (3, .if_icmp .ne 5, 3, 0, 0, 0),
  (6, .iconst 1, 1, 0, 0, 0),
  (7, .ireturn, 1, 0, 0, 0),
  (8, .aload_n 0, 1, 0, 0, 0),
  (9, .getfield 9, 3, 2, 0, 0),
  (12, .tableswitch 76 0 4 #[36, 36, 42, 48, 54], 36, 0, 0, 0),
  (48, .aload_n 0, 1, 0, 0, 0),
  (49, .iload_n 1, 1, 0, 0, 0),
  (50, .invokevirtual 33, 3, 20, 2, 2),
  (53, .ireturn, 1, 0, 0, 0),
  (54, .aload_n 0, 1, 0, 0, 0),
  (55, .iload_n 1, 1, 0, 0, 0),
  (56, .invokevirtual 36, 3, 19, 2, 2),
  (59, .ireturn, 1, 0, 0, 0),
  (60, .aload_n 0, 1, 0, 0, 0),
  (61, .iload_n 1, 1, 0, 0, 0),
  (62, .invokevirtual 39, 3, 18, 2, 2),
  (65, .ireturn, 1, 0, 0, 0),
  (66, .aload_n 0, 1, 0, 0, 0),
  (67, .iload_n 1, 1, 0, 0, 0),
  (68, .invokevirtual 42, 3, 21, 2, 2),
  (71, .ifCond .ne 11, 3, 0, 0, 0),
  (74, .aload_n 0, 1, 0, 0, 0),
  (75, .iload_n 1, 1, 0, 0, 0),
  (76, .invokevirtual 45, 3, 22, 2, 2),
  (79, .ifCond .eq 7, 3, 0, 0, 0),
  (82, .iconst 1, 1, 0, 0, 0),
  (83, .goto 4, 3, 0, 0, 0),
  (86, .iconst 0, 1, 0, 0, 0),
  (87, .ireturn, 1, 0, 0, 0),
  (88, .aload_n 0, 1, 0, 0, 0),
  (89, .iload_n 1, 1, 0, 0, 0),
  (90, .invokevirtual 45, 3, 22, 2, 2),
  (93, .ireturn, 1, 0, 0, 0)])
def zm_24 : zM := (⟨"SiphonReport$Form", "follow", "(LSiphonReport$Text;)I"⟩, prog_3_method_2_code, 3, (some .int), 5, 105, 2, 1, [
  (0, .aload_n 0, 1, 0, 0, 0),
  (1, .iconst 0, 1, 0, 0, 0),
  (2, .putfield 9, 3, 2, 0, 0),
  (5, .aload_n 0, 1, 0, 0, 0),
  (6, .iconst 0, 1, 0, 0, 0),
  (7, .putfield 13, 3, 2, 1, 0),
  (10, .aload_n 0, 1, 0, 0, 0),
  (11, .iconst 0, 1, 0, 0, 0),
  (12, .putfield 17, 3, 2, 2, 0),
  (15, .iconst 0, 1, 0, 0, 0),
  (16, .istore_n 2, 1, 0, 0, 0),
  (17, .iload_n 2, 1, 0, 0, 0),
  (18, .aload_n 1, 1, 0, 0, 0),
  (19, .getfield 20, 4, 1, 1, 0),
  (22, .if_icmp .ge 29, 3, 0, 0, 0),
  (25, .aload_n 0, 1, 0, 0, 0),
  (26, .aload_n 1, 1, 0, 0, 0),
  (27, .getfield 25, 4, 1, 0, 0),
  (30, .iload_n 2, 1, 0, 0, 0),
  (31, .caload, 1, 0, 0, 0),
  (32, .invokevirtual 29, 3, 23, 2, 2),
  (35, .ifCond .ne 10, 3, 0, 0, 0),
  (38, .aload_n 0, 1, 0, 0, 0),
  (39, .iconst 1, 1, 0, 0, 0),
  (40, .putfield 17, 3, 2, 2, 0),
  (43, .iload_n 2, 1, 0, 0, 0),
  (44, .ireturn, 1, 0, 0, 0),
  (45, .iinc 2 1, 3, 0, 0, 0),
  (48, .goto (-31), 3, 0, 0, 0),
  (51, .aload_n 1, 1, 0, 0, 0),
  (52, .getfield 20, 4, 1, 1, 0),
  (55, .ireturn, 1, 0, 0, 0)])
def zm_25 : zM := (⟨"SiphonReport$Form", "isRight", "()Z"⟩, prog_3_method_3_code, 2, (some .boolean), 0, 0, 2, 0, [
  (0, .aload_n 0, 1, 0, 0, 0),
  (1, .getfield 9, 3, 2, 0, 0),
  (4, .iconst 4, 1, 0, 0, 0),
  (5, .if_icmp .eq 11, 3, 0, 0, 0),
  (8, .aload_n 0, 1, 0, 0, 0),
  (9, .getfield 9, 3, 2, 0, 0),
  (12, .iconst 5, 1, 0, 0, 0),
  (13, .if_icmp .ne 7, 3, 0, 0, 0),
  (16, .iconst 1, 1, 0, 0, 0),
  (17, .goto 4, 3, 0, 0, 0),
  (20, .iconst 0, 1, 0, 0, 0),
  (21, .istore_n 1, 1, 0, 0, 0),
  (22, .aload_n 0, 1, 0, 0, 0),
  (23, .getfield 17, 3, 2, 2, 0),
  (26, .ifCond .ne 25, 3, 0, 0, 0),
  (29, .aload_n 0, 1, 0, 0, 0),
  (30, .getfield 9, 3, 2, 0, 0),
  (33, .ifCond .eq 14, 3, 0, 0, 0),
  (36, .aload_n 0, 1, 0, 0, 0),
  (37, .getfield 13, 3, 2, 1, 0),
  (40, .ifCond .eq 11, 3, 0, 0, 0),
  (43, .iload_n 1, 1, 0, 0, 0),
  (44, .ifCond .eq 7, 3, 0, 0, 0),
  (47, .iconst 1, 1, 0, 0, 0),
  (48, .goto 4, 3, 0, 0, 0),
  (51, .iconst 0, 1, 0, 0, 0),
  (52, .ireturn, 1, 0, 0, 0)])
def zm_26 : zM := (⟨"SiphonReport$Lines", "startLine", "()V"⟩, prog_4_method_3_code, 2, none, 0, 0, 2, 0, [
  (0, .iconst 0, 1, 0, 0, 0),
  (1, .istore_n 1, 1, 0, 0, 0),
  (2, .iload_n 1, 1, 0, 0, 0),
  (3, .bipush 7, 2, 0, 0, 0),
  (5, .if_icmp .ge 23, 3, 0, 0, 0),
  (8, .aload_n 0, 1, 0, 0, 0),
  (9, .getfield 9, 3, 3, 0, 0),
  (12, .iload_n 1, 1, 0, 0, 0),
  (13, .iconst 0, 1, 0, 0, 0),
  (14, .iastore, 1, 0, 0, 0),
  (15, .aload_n 0, 1, 0, 0, 0),
  (16, .getfield 15, 3, 3, 1, 0),
  (19, .iload_n 1, 1, 0, 0, 0),
  (20, .iconst 0, 1, 0, 0, 0),
  (21, .iastore, 1, 0, 0, 0),
  (22, .iinc 1 1, 3, 0, 0, 0),
  (25, .goto (-23), 3, 0, 0, 0),
  (28, .aload_n 0, 1, 0, 0, 0),
  (29, .iconst 1, 1, 0, 0, 0),
  (30, .putfield 51, 3, 3, 2, 0),
  (33, .aload_n 0, 1, 0, 0, 0),
  (34, .bipush 32, 2, 0, 0, 0),
  (36, .putfield 47, 3, 3, 3, 0),
  (39, .return_, 1, 0, 0, 0)])
def zm_27 : zM := (⟨"SiphonReport$Lines", "isHigh", "([I)Z"⟩, prog_4_method_6_code, 2, (some .boolean), 0, 0, 0, 1, [
  (0, .iconst 0, 1, 0, 0, 0),
  (1, .istore_n 1, 1, 0, 0, 0),
  (2, .iload_n 1, 1, 0, 0, 0),
  (3, .bipush 7, 2, 0, 0, 0),
  (5, .if_icmp .ge 18, 3, 0, 0, 0),
  (8, .aload_n 0, 1, 0, 0, 0),
  (9, .iload_n 1, 1, 0, 0, 0),
  (10, .iaload, 1, 0, 0, 0),
  (11, .iconst 4, 1, 0, 0, 0),
  (12, .if_icmp .le 5, 3, 0, 0, 0),
  (15, .iconst 1, 1, 0, 0, 0),
  (16, .ireturn, 1, 0, 0, 0),
  (17, .iinc 1 1, 3, 0, 0, 0),
  (20, .goto (-18), 3, 0, 0, 0),
  (23, .iconst 0, 1, 0, 0, 0),
  (24, .ireturn, 1, 0, 0, 0)])
def zm_28 : zM := (⟨"SiphonReport", "sameNumbers", "([I[I)Z"⟩, prog_1_method_30_code, 3, (some .boolean), 0, 0, 0, 2, [
  (0, .iconst 0, 1, 0, 0, 0),
  (1, .istore_n 2, 1, 0, 0, 0),
  (2, .iload_n 2, 1, 0, 0, 0),
  (3, .bipush 7, 2, 0, 0, 0),
  (5, .if_icmp .ge 20, 3, 0, 0, 0),
  (8, .aload_n 0, 1, 0, 0, 0),
  (9, .iload_n 2, 1, 0, 0, 0),
  (10, .iaload, 1, 0, 0, 0),
  (11, .aload_n 1, 1, 0, 0, 0),
  (12, .iload_n 2, 1, 0, 0, 0),
  (13, .iaload, 1, 0, 0, 0),
  (14, .if_icmp .eq 5, 3, 0, 0, 0),
  (17, .iconst 0, 1, 0, 0, 0),
  (18, .ireturn, 1, 0, 0, 0),
  (19, .iinc 2 1, 3, 0, 0, 0),
  (22, .goto (-20), 3, 0, 0, 0),
  (25, .iconst 1, 1, 0, 0, 0),
  (26, .ireturn, 1, 0, 0, 0)])
def zm_29 : zM := (⟨"SiphonReport$Network", "place", "([I)I"⟩, prog_6_method_3_code, 4, (some .int), 1, 22, 2, 1, [
  (0, .iconst 0, 1, 0, 0, 0),
  (1, .istore_n 2, 1, 0, 0, 0),
  (2, .iload_n 2, 1, 0, 0, 0),
  (3, .aload_n 0, 1, 0, 0, 0),
  (4, .getfield 26, 3, 4, 4, 0),
  (7, .if_icmp .ge 24, 3, 0, 0, 0),
  (10, .aload_n 0, 1, 0, 0, 0),
  (11, .getfield 11, 3, 4, 0, 0),
  (14, .iload_n 2, 1, 0, 0, 0),
  (15, .aaload, 1, 0, 0, 0),
  (16, .aload_n 1, 1, 0, 0, 0),
  (17, .invokestatic 30, 4, 28, 2, 0),
  (20, .ifCond .eq 5, 3, 0, 0, 0),
  (23, .iload_n 2, 1, 0, 0, 0),
  (24, .ireturn, 1, 0, 0, 0),
  (25, .iinc 2 1, 3, 0, 0, 0),
  (28, .goto (-26), 3, 0, 0, 0),
  (31, .aload_n 0, 1, 0, 0, 0),
  (32, .getfield 26, 3, 4, 4, 0),
  (35, .bipush 9, 2, 0, 0, 0),
  (37, .if_icmp .lt 5, 3, 0, 0, 0),
  (40, .iconst (-1), 1, 0, 0, 0),
  (41, .ireturn, 1, 0, 0, 0),
  (42, .aload_n 0, 1, 0, 0, 0),
  (43, .getfield 26, 3, 4, 4, 0),
  (46, .istore_n 2, 1, 0, 0, 0),
  (47, .aload_n 0, 1, 0, 0, 0),
  (48, .getfield 16, 3, 4, 1, 0),
  (51, .iload_n 2, 1, 0, 0, 0),
  (52, .iconst 0, 1, 0, 0, 0),
  (53, .iastore, 1, 0, 0, 0),
  (54, .iconst 0, 1, 0, 0, 0),
  (55, .istore_n 3, 1, 0, 0, 0),
  (56, .iload_n 3, 1, 0, 0, 0),
  (57, .bipush 7, 2, 0, 0, 0),
  (59, .if_icmp .ge 38, 3, 0, 0, 0),
  (62, .aload_n 0, 1, 0, 0, 0),
  (63, .getfield 11, 3, 4, 0, 0),
  (66, .iload_n 2, 1, 0, 0, 0),
  (67, .aaload, 1, 0, 0, 0),
  (68, .iload_n 3, 1, 0, 0, 0),
  (69, .aload_n 1, 1, 0, 0, 0),
  (70, .iload_n 3, 1, 0, 0, 0),
  (71, .iaload, 1, 0, 0, 0),
  (72, .iastore, 1, 0, 0, 0),
  (73, .aload_n 1, 1, 0, 0, 0),
  (74, .iload_n 3, 1, 0, 0, 0),
  (75, .iaload, 1, 0, 0, 0),
  (76, .ifCond .le 15, 3, 0, 0, 0),
  (79, .aload_n 0, 1, 0, 0, 0),
  (80, .getfield 16, 3, 4, 1, 0),
  (83, .iload_n 2, 1, 0, 0, 0),
  (84, .dup2, 1, 0, 0, 0),
  (85, .iaload, 1, 0, 0, 0),
  (86, .iconst 1, 1, 0, 0, 0),
  (87, .iload_n 3, 1, 0, 0, 0),
  (88, .ishl, 1, 0, 0, 0),
  (89, .ior, 1, 0, 0, 0),
  (90, .iastore, 1, 0, 0, 0),
  (91, .iinc 3 1, 3, 0, 0, 0),
  (94, .goto (-38), 3, 0, 0, 0),
  (97, .aload_n 0, 1, 0, 0, 0),
  (98, .dup, 1, 0, 0, 0),
  (99, .getfield 26, 3, 4, 4, 0),
  (102, .iconst 1, 1, 0, 0, 0),
  (103, .iadd, 1, 0, 0, 0),
  (104, .putfield 26, 3, 4, 4, 0),
  (107, .iload_n 2, 1, 0, 0, 0),
  (108, .ireturn, 1, 0, 0, 0)])
def zm_30 : zM := (⟨"SiphonReport$Network", "join", "(II)Z"⟩, prog_6_method_4_code, 4, (some .boolean), 0, 0, 2, 2, [
  (0, .iconst 0, 1, 0, 0, 0),
  (1, .istore_n 3, 1, 0, 0, 0),
  (2, .iload_n 3, 1, 0, 0, 0),
  (3, .aload_n 0, 1, 0, 0, 0),
  (4, .getfield 34, 3, 4, 5, 0),
  (7, .if_icmp .ge 31, 3, 0, 0, 0),
  (10, .aload_n 0, 1, 0, 0, 0),
  (11, .getfield 20, 3, 4, 2, 0),
  (14, .iload_n 3, 1, 0, 0, 0),
  (15, .iaload, 1, 0, 0, 0),
  (16, .iload_n 1, 1, 0, 0, 0),
  (17, .if_icmp .ne 15, 3, 0, 0, 0),
  (20, .aload_n 0, 1, 0, 0, 0),
  (21, .getfield 23, 3, 4, 3, 0),
  (24, .iload_n 3, 1, 0, 0, 0),
  (25, .iaload, 1, 0, 0, 0),
  (26, .iload_n 2, 1, 0, 0, 0),
  (27, .if_icmp .ne 5, 3, 0, 0, 0),
  (30, .iconst 1, 1, 0, 0, 0),
  (31, .ireturn, 1, 0, 0, 0),
  (32, .iinc 3 1, 3, 0, 0, 0),
  (35, .goto (-33), 3, 0, 0, 0),
  (38, .aload_n 0, 1, 0, 0, 0),
  (39, .getfield 34, 3, 4, 5, 0),
  (42, .bipush 10, 2, 0, 0, 0),
  (44, .if_icmp .lt 5, 3, 0, 0, 0),
  (47, .iconst 0, 1, 0, 0, 0),
  (48, .ireturn, 1, 0, 0, 0),
  (49, .aload_n 0, 1, 0, 0, 0),
  (50, .getfield 20, 3, 4, 2, 0),
  (53, .aload_n 0, 1, 0, 0, 0),
  (54, .getfield 34, 3, 4, 5, 0),
  (57, .iload_n 1, 1, 0, 0, 0),
  (58, .iastore, 1, 0, 0, 0),
  (59, .aload_n 0, 1, 0, 0, 0),
  (60, .getfield 23, 3, 4, 3, 0),
  (63, .aload_n 0, 1, 0, 0, 0),
  (64, .getfield 34, 3, 4, 5, 0),
  (67, .iload_n 2, 1, 0, 0, 0),
  (68, .iastore, 1, 0, 0, 0),
  (69, .aload_n 0, 1, 0, 0, 0),
  (70, .dup, 1, 0, 0, 0),
  (71, .getfield 34, 3, 4, 5, 0),
  (74, .iconst 1, 1, 0, 0, 0),
  (75, .iadd, 1, 0, 0, 0),
  (76, .putfield 34, 3, 4, 5, 0),
  (79, .iconst 1, 1, 0, 0, 0),
  (80, .ireturn, 1, 0, 0, 0)])
def zm_31 : zM := (⟨"SiphonReport$Lines", "endLine", "(LSiphonReport$Network;)I"⟩, prog_4_method_5_code, 5, (some .int), 2, 45, 2, 1, [
  (0, .aload_n 0, 1, 0, 0, 0),
  (1, .getfield 9, 3, 3, 0, 0),
  (4, .invokestatic 58, 3, 27, 1, 0),
  (7, .ifCond .ne 13, 3, 0, 0, 0),
  (10, .aload_n 0, 1, 0, 0, 0),
  (11, .getfield 15, 3, 3, 1, 0),
  (14, .invokestatic 58, 3, 27, 1, 0),
  (17, .ifCond .eq 7, 3, 0, 0, 0),
  (20, .sipush (-200), 3, 0, 0, 0),
  (23, .ireturn, 1, 0, 0, 0),
  (24, .aload_n 0, 1, 0, 0, 0),
  (25, .getfield 9, 3, 3, 0, 0),
  (28, .aload_n 0, 1, 0, 0, 0),
  (29, .getfield 15, 3, 3, 1, 0),
  (32, .invokestatic 62, 4, 28, 2, 0),
  (35, .ifCond .eq 7, 3, 0, 0, 0),
  (38, .sipush (-201), 3, 0, 0, 0),
  (41, .ireturn, 1, 0, 0, 0),
  (42, .aload_n 1, 1, 0, 0, 0),
  (43, .aload_n 0, 1, 0, 0, 0),
  (44, .getfield 9, 3, 3, 0, 0),
  (47, .invokevirtual 66, 3, 29, 2, 4),
  (50, .istore_n 2, 1, 0, 0, 0),
  (51, .aload_n 1, 1, 0, 0, 0),
  (52, .aload_n 0, 1, 0, 0, 0),
  (53, .getfield 15, 3, 3, 1, 0),
  (56, .invokevirtual 66, 3, 29, 2, 4),
  (59, .istore_n 3, 1, 0, 0, 0),
  (60, .iload_n 2, 1, 0, 0, 0),
  (61, .ifCond .lt 7, 3, 0, 0, 0),
  (64, .iload_n 3, 1, 0, 0, 0),
  (65, .ifCond .ge 7, 3, 0, 0, 0),
  (68, .sipush (-202), 3, 0, 0, 0),
  (71, .ireturn, 1, 0, 0, 0),
  (72, .aload_n 1, 1, 0, 0, 0),
  (73, .iload_n 2, 1, 0, 0, 0),
  (74, .iload_n 3, 1, 0, 0, 0),
  (75, .invokevirtual 70, 3, 30, 3, 4),
  (78, .ifCond .eq 25, 3, 0, 0, 0),
  (81, .aload_n 0, 1, 0, 0, 0),
  (82, .getfield 47, 3, 3, 3, 0),
  (85, .bipush 62, 2, 0, 0, 0),
  (87, .if_icmp .eq 12, 3, 0, 0, 0),
  (90, .aload_n 1, 1, 0, 0, 0),
  (91, .iload_n 3, 1, 0, 0, 0),
  (92, .iload_n 2, 1, 0, 0, 0),
  (93, .invokevirtual 70, 3, 30, 3, 4),
  (96, .ifCond .eq 7, 3, 0, 0, 0),
  (99, .iconst 1, 1, 0, 0, 0),
  (100, .goto 4, 3, 0, 0, 0),
  (103, .iconst 0, 1, 0, 0, 0),
  (104, .istore 4, 2, 0, 0, 0),
  (106, .iload 4, 2, 0, 0, 0),
  (108, .ifCond .eq 7, 3, 0, 0, 0),
  (111, .iconst 0, 1, 0, 0, 0),
  (112, .goto 6, 3, 0, 0, 0),
  (115, .sipush (-203), 3, 0, 0, 0),
  (118, .ireturn, 1, 0, 0, 0)])
def zm_32 : zM := (⟨"SiphonReport$Lines", "take", "(C)V"⟩, prog_4_method_4_code, 3, none, 1, 20, 2, 1, [
  (0, .iload_n 1, 1, 0, 0, 0),
  (1, .bipush 62, 2, 0, 0, 0),
  (3, .if_icmp .eq 9, 3, 0, 0, 0),
  (6, .iload_n 1, 1, 0, 0, 0),
  (7, .bipush 61, 2, 0, 0, 0),
  (9, .if_icmp .ne 11, 3, 0, 0, 0),
  (12, .aload_n 0, 1, 0, 0, 0),
  (13, .iload_n 1, 1, 0, 0, 0),
  (14, .putfield 47, 3, 3, 3, 0),
  (17, .goto 75, 3, 0, 0, 0),
  (20, .iload_n 1, 1, 0, 0, 0),
  (21, .bipush 49, 2, 0, 0, 0),
  (23, .if_icmp .lt 20, 3, 0, 0, 0),
  (26, .iload_n 1, 1, 0, 0, 0),
  (27, .bipush 57, 2, 0, 0, 0),
  (29, .if_icmp .gt 14, 3, 0, 0, 0),
  (32, .aload_n 0, 1, 0, 0, 0),
  (33, .iload_n 1, 1, 0, 0, 0),
  (34, .bipush 48, 2, 0, 0, 0),
  (36, .isub, 1, 0, 0, 0),
  (37, .putfield 51, 3, 3, 2, 0),
  (40, .goto 52, 3, 0, 0, 0),
  (43, .iload_n 1, 1, 0, 0, 0),
  (44, .bipush 65, 2, 0, 0, 0),
  (46, .isub, 1, 0, 0, 0),
  (47, .invokestatic 54, 4, 17, 1, 0),
  (50, .ifCond .eq 42, 3, 0, 0, 0),
  (53, .aload_n 0, 1, 0, 0, 0),
  (54, .getfield 47, 3, 3, 3, 0),
  (57, .bipush 32, 2, 0, 0, 0),
  (59, .if_icmp .ne 10, 3, 0, 0, 0),
  (62, .aload_n 0, 1, 0, 0, 0),
  (63, .getfield 9, 3, 3, 0, 0),
  (66, .goto 7, 3, 0, 0, 0),
  (69, .aload_n 0, 1, 0, 0, 0),
  (70, .getfield 15, 3, 3, 1, 0),
  (73, .astore_n 2, 1, 0, 0, 0),
  (74, .aload_n 2, 1, 0, 0, 0),
  (75, .iload_n 1, 1, 0, 0, 0),
  (76, .bipush 65, 2, 0, 0, 0),
  (78, .isub, 1, 0, 0, 0),
  (79, .dup2, 1, 0, 0, 0),
  (80, .iaload, 1, 0, 0, 0),
  (81, .aload_n 0, 1, 0, 0, 0),
  (82, .getfield 51, 3, 3, 2, 0),
  (85, .iadd, 1, 0, 0, 0),
  (86, .iastore, 1, 0, 0, 0),
  (87, .aload_n 0, 1, 0, 0, 0),
  (88, .iconst 1, 1, 0, 0, 0),
  (89, .putfield 51, 3, 3, 2, 0),
  (92, .return_, 1, 0, 0, 0)])
def zm_33 : zM := (⟨"SiphonReport$Lines", "fill", "(LSiphonReport$Network;LSiphonReport$Text;)I"⟩, prog_4_method_2_code, 6, (some .int), 3, 69, 2, 2, [
  (0, .aload_n 1, 1, 0, 0, 0),
  (1, .iconst 0, 1, 0, 0, 0),
  (2, .putfield 18, 4, 4, 4, 0),
  (5, .aload_n 1, 1, 0, 0, 0),
  (6, .iconst 0, 1, 0, 0, 0),
  (7, .putfield 24, 4, 4, 5, 0),
  (10, .aload_n 0, 1, 0, 0, 0),
  (11, .invokevirtual 27, 3, 26, 1, 3),
  (14, .iconst 0, 1, 0, 0, 0),
  (15, .istore_n 3, 1, 0, 0, 0),
  (16, .iload_n 3, 1, 0, 0, 0),
  (17, .aload_n 2, 1, 0, 0, 0),
  (18, .getfield 30, 4, 1, 1, 0),
  (21, .if_icmp .ge 52, 3, 0, 0, 0),
  (24, .aload_n 2, 1, 0, 0, 0),
  (25, .getfield 35, 4, 1, 0, 0),
  (28, .iload_n 3, 1, 0, 0, 0),
  (29, .caload, 1, 0, 0, 0),
  (30, .istore 4, 2, 0, 0, 0),
  (32, .iload 4, 2, 0, 0, 0),
  (34, .bipush 59, 2, 0, 0, 0),
  (36, .if_icmp .ne 25, 3, 0, 0, 0),
  (39, .aload_n 0, 1, 0, 0, 0),
  (40, .aload_n 1, 1, 0, 0, 0),
  (41, .invokevirtual 39, 3, 31, 2, 3),
  (44, .istore 5, 2, 0, 0, 0),
  (46, .iload 5, 2, 0, 0, 0),
  (48, .ifCond .ge 6, 3, 0, 0, 0),
  (51, .iload 5, 2, 0, 0, 0),
  (53, .ireturn, 1, 0, 0, 0),
  (54, .aload_n 0, 1, 0, 0, 0),
  (55, .invokevirtual 27, 3, 26, 1, 3),
  (58, .goto 9, 3, 0, 0, 0),
  (61, .aload_n 0, 1, 0, 0, 0),
  (62, .iload 4, 2, 0, 0, 0),
  (64, .invokevirtual 43, 3, 32, 2, 3),
  (67, .iinc 3 1, 3, 0, 0, 0),
  (70, .goto (-54), 3, 0, 0, 0),
  (73, .aload_n 0, 1, 0, 0, 0),
  (74, .getfield 47, 3, 3, 3, 0),
  (77, .bipush 32, 2, 0, 0, 0),
  (79, .if_icmp .ne 7, 3, 0, 0, 0),
  (82, .iconst 0, 1, 0, 0, 0),
  (83, .goto 8, 3, 0, 0, 0),
  (86, .aload_n 0, 1, 0, 0, 0),
  (87, .aload_n 1, 1, 0, 0, 0),
  (88, .invokevirtual 39, 3, 31, 2, 3),
  (91, .ireturn, 1, 0, 0, 0)])
def zm_34 : zM := (⟨"SiphonReport", "holds", "(II)Z"⟩, prog_1_method_29_code, 2, (some .boolean), 0, 0, 0, 2, [
  (0, .iload_n 0, 1, 0, 0, 0),
  (1, .iload_n 1, 1, 0, 0, 0),
  (2, .ishr, 1, 0, 0, 0),
  (3, .iconst 1, 1, 0, 0, 0),
  (4, .iand, 1, 0, 0, 0),
  (5, .ifCond .eq 7, 3, 0, 0, 0),
  (8, .iconst 1, 1, 0, 0, 0),
  (9, .goto 4, 3, 0, 0, 0),
  (12, .iconst 0, 1, 0, 0, 0),
  (13, .ireturn, 1, 0, 0, 0)])
def zm_35 : zM := (⟨"SiphonReport$Classes", "extend", "([II)V"⟩, prog_2_method_4_code, 4, none, 1, 21, 0, 2, [
  (0, .iconst 0, 1, 0, 0, 0),
  (1, .istore_n 2, 1, 0, 0, 0),
  (2, .iload_n 2, 1, 0, 0, 0),
  (3, .iload_n 1, 1, 0, 0, 0),
  (4, .if_icmp .ge 41, 3, 0, 0, 0),
  (7, .iconst 0, 1, 0, 0, 0),
  (8, .istore_n 3, 1, 0, 0, 0),
  (9, .iload_n 3, 1, 0, 0, 0),
  (10, .iload_n 1, 1, 0, 0, 0),
  (11, .if_icmp .ge 28, 3, 0, 0, 0),
  (14, .aload_n 0, 1, 0, 0, 0),
  (15, .iload_n 3, 1, 0, 0, 0),
  (16, .iaload, 1, 0, 0, 0),
  (17, .iload_n 2, 1, 0, 0, 0),
  (18, .invokestatic 57, 4, 34, 2, 0),
  (21, .ifCond .eq 12, 3, 0, 0, 0),
  (24, .aload_n 0, 1, 0, 0, 0),
  (25, .iload_n 3, 1, 0, 0, 0),
  (26, .dup2, 1, 0, 0, 0),
  (27, .iaload, 1, 0, 0, 0),
  (28, .aload_n 0, 1, 0, 0, 0),
  (29, .iload_n 2, 1, 0, 0, 0),
  (30, .iaload, 1, 0, 0, 0),
  (31, .ior, 1, 0, 0, 0),
  (32, .iastore, 1, 0, 0, 0),
  (33, .iinc 3 1, 3, 0, 0, 0),
  (36, .goto (-27), 3, 0, 0, 0),
  (39, .iinc 2 1, 3, 0, 0, 0),
  (42, .goto (-40), 3, 0, 0, 0),
  (45, .return_, 1, 0, 0, 0)])
def zm_36 : zM := (⟨"SiphonReport$Classes", "least", "(I)I"⟩, prog_2_method_8_code, 2, (some .int), 1, 21, 0, 1, [
  (0, .iconst 0, 1, 0, 0, 0),
  (1, .istore_n 1, 1, 0, 0, 0),
  (2, .iload_n 1, 1, 0, 0, 0),
  (3, .bipush 9, 2, 0, 0, 0),
  (5, .if_icmp .ge 19, 3, 0, 0, 0),
  (8, .iload_n 0, 1, 0, 0, 0),
  (9, .iload_n 1, 1, 0, 0, 0),
  (10, .invokestatic 57, 4, 34, 2, 0),
  (13, .ifCond .eq 5, 3, 0, 0, 0),
  (16, .iload_n 1, 1, 0, 0, 0),
  (17, .ireturn, 1, 0, 0, 0),
  (18, .iinc 1 1, 3, 0, 0, 0),
  (21, .goto (-19), 3, 0, 0, 0),
  (24, .iconst 0, 1, 0, 0, 0),
  (25, .ireturn, 1, 0, 0, 0)])
def zm_37 : zM := (⟨"SiphonReport$Classes", "numberLinkages", "(I)V"⟩, prog_2_method_5_code, 4, none, 2, 42, 2, 1, [
  (0, .aload_n 0, 1, 0, 0, 0),
  (1, .iconst 0, 1, 0, 0, 0),
  (2, .putfield 61, 3, 5, 5, 0),
  (5, .iconst 0, 1, 0, 0, 0),
  (6, .istore_n 2, 1, 0, 0, 0),
  (7, .iload_n 2, 1, 0, 0, 0),
  (8, .iload_n 1, 1, 0, 0, 0),
  (9, .if_icmp .ge 94, 3, 0, 0, 0),
  (12, .aload_n 0, 1, 0, 0, 0),
  (13, .getfield 9, 3, 5, 0, 0),
  (16, .iload_n 2, 1, 0, 0, 0),
  (17, .iaload, 1, 0, 0, 0),
  (18, .invokestatic 64, 3, 36, 1, 0),
  (21, .istore_n 3, 1, 0, 0, 0),
  (22, .iload_n 3, 1, 0, 0, 0),
  (23, .iload_n 2, 1, 0, 0, 0),
  (24, .if_icmp .ne 46, 3, 0, 0, 0),
  (27, .aload_n 0, 1, 0, 0, 0),
  (28, .getfield 18, 3, 5, 2, 0),
  (31, .iload_n 2, 1, 0, 0, 0),
  (32, .aload_n 0, 1, 0, 0, 0),
  (33, .getfield 61, 3, 5, 5, 0),
  (36, .iastore, 1, 0, 0, 0),
  (37, .aload_n 0, 1, 0, 0, 0),
  (38, .getfield 21, 3, 5, 3, 0),
  (41, .aload_n 0, 1, 0, 0, 0),
  (42, .getfield 61, 3, 5, 5, 0),
  (45, .iconst 0, 1, 0, 0, 0),
  (46, .iastore, 1, 0, 0, 0),
  (47, .aload_n 0, 1, 0, 0, 0),
  (48, .getfield 24, 3, 5, 4, 0),
  (51, .aload_n 0, 1, 0, 0, 0),
  (52, .getfield 61, 3, 5, 5, 0),
  (55, .iconst 0, 1, 0, 0, 0),
  (56, .iastore, 1, 0, 0, 0),
  (57, .aload_n 0, 1, 0, 0, 0),
  (58, .dup, 1, 0, 0, 0),
  (59, .getfield 61, 3, 5, 5, 0),
  (62, .iconst 1, 1, 0, 0, 0),
  (63, .iadd, 1, 0, 0, 0),
  (64, .putfield 61, 3, 5, 5, 0),
  (67, .goto 15, 3, 0, 0, 0),
  (70, .aload_n 0, 1, 0, 0, 0),
  (71, .getfield 18, 3, 5, 2, 0),
  (74, .iload_n 2, 1, 0, 0, 0),
  (75, .aload_n 0, 1, 0, 0, 0),
  (76, .getfield 18, 3, 5, 2, 0),
  (79, .iload_n 3, 1, 0, 0, 0),
  (80, .iaload, 1, 0, 0, 0),
  (81, .iastore, 1, 0, 0, 0),
  (82, .aload_n 0, 1, 0, 0, 0),
  (83, .getfield 21, 3, 5, 3, 0),
  (86, .aload_n 0, 1, 0, 0, 0),
  (87, .getfield 18, 3, 5, 2, 0),
  (90, .iload_n 2, 1, 0, 0, 0),
  (91, .iaload, 1, 0, 0, 0),
  (92, .dup2, 1, 0, 0, 0),
  (93, .iaload, 1, 0, 0, 0),
  (94, .iconst 1, 1, 0, 0, 0),
  (95, .iadd, 1, 0, 0, 0),
  (96, .iastore, 1, 0, 0, 0),
  (97, .iinc 2 1, 3, 0, 0, 0),
  (100, .goto (-93), 3, 0, 0, 0),
  (103, .return_, 1, 0, 0, 0)])
def zm_38 : zM := (⟨"SiphonReport$Classes", "mutual", "(I)I"⟩, prog_2_method_7_code, 4, (some .int), 1, 21, 2, 1, [
  (0, .iconst 0, 1, 0, 0, 0),
  (1, .istore_n 2, 1, 0, 0, 0),
  (2, .iconst 0, 1, 0, 0, 0),
  (3, .istore_n 3, 1, 0, 0, 0),
  (4, .iload_n 3, 1, 0, 0, 0),
  (5, .bipush 9, 2, 0, 0, 0),
  (7, .if_icmp .ge 41, 3, 0, 0, 0),
  (10, .aload_n 0, 1, 0, 0, 0),
  (11, .getfield 15, 3, 5, 1, 0),
  (14, .iload_n 1, 1, 0, 0, 0),
  (15, .iaload, 1, 0, 0, 0),
  (16, .iload_n 3, 1, 0, 0, 0),
  (17, .invokestatic 57, 4, 34, 2, 0),
  (20, .ifCond .eq 22, 3, 0, 0, 0),
  (23, .aload_n 0, 1, 0, 0, 0),
  (24, .getfield 15, 3, 5, 1, 0),
  (27, .iload_n 3, 1, 0, 0, 0),
  (28, .iaload, 1, 0, 0, 0),
  (29, .iload_n 1, 1, 0, 0, 0),
  (30, .invokestatic 57, 4, 34, 2, 0),
  (33, .ifCond .eq 9, 3, 0, 0, 0),
  (36, .iload_n 2, 1, 0, 0, 0),
  (37, .iconst 1, 1, 0, 0, 0),
  (38, .iload_n 3, 1, 0, 0, 0),
  (39, .ishl, 1, 0, 0, 0),
  (40, .ior, 1, 0, 0, 0),
  (41, .istore_n 2, 1, 0, 0, 0),
  (42, .iinc 3 1, 3, 0, 0, 0),
  (45, .goto (-41), 3, 0, 0, 0),
  (48, .iload_n 2, 1, 0, 0, 0),
  (49, .ireturn, 1, 0, 0, 0)])
def zm_39 : zM := (⟨"SiphonReport$Classes", "isTerminal", "(I)Z"⟩, prog_2_method_3_code, 2, (some .boolean), 2, 44, 2, 1, [
  (0, .aload_n 0, 1, 0, 0, 0),
  (1, .iload_n 1, 1, 0, 0, 0),
  (2, .invokevirtual 53, 3, 38, 2, 5),
  (5, .aload_n 0, 1, 0, 0, 0),
  (6, .getfield 15, 3, 5, 1, 0),
  (9, .iload_n 1, 1, 0, 0, 0),
  (10, .iaload, 1, 0, 0, 0),
  (11, .if_icmp .ne 7, 3, 0, 0, 0),
  (14, .iconst 1, 1, 0, 0, 0),
  (15, .goto 4, 3, 0, 0, 0),
  (18, .iconst 0, 1, 0, 0, 0),
  (19, .ireturn, 1, 0, 0, 0)])
def zm_40 : zM := (⟨"SiphonReport$Classes", "countStrong", "(I)V"⟩, prog_2_method_6_code, 3, none, 3, 65, 2, 1, [
  (0, .aload_n 0, 1, 0, 0, 0),
  (1, .iconst 0, 1, 0, 0, 0),
  (2, .putfield 67, 3, 5, 6, 0),
  (5, .iconst 0, 1, 0, 0, 0),
  (6, .istore_n 2, 1, 0, 0, 0),
  (7, .iload_n 2, 1, 0, 0, 0),
  (8, .iload_n 1, 1, 0, 0, 0),
  (9, .if_icmp .ge 54, 3, 0, 0, 0),
  (12, .aload_n 0, 1, 0, 0, 0),
  (13, .iload_n 2, 1, 0, 0, 0),
  (14, .invokevirtual 53, 3, 38, 2, 5),
  (17, .invokestatic 64, 3, 36, 1, 0),
  (20, .iload_n 2, 1, 0, 0, 0),
  (21, .if_icmp .ne 36, 3, 0, 0, 0),
  (24, .aload_n 0, 1, 0, 0, 0),
  (25, .dup, 1, 0, 0, 0),
  (26, .getfield 67, 3, 5, 6, 0),
  (29, .iconst 1, 1, 0, 0, 0),
  (30, .iadd, 1, 0, 0, 0),
  (31, .putfield 67, 3, 5, 6, 0),
  (34, .aload_n 0, 1, 0, 0, 0),
  (35, .iload_n 2, 1, 0, 0, 0),
  (36, .invokevirtual 70, 3, 39, 2, 5),
  (39, .ifCond .eq 18, 3, 0, 0, 0),
  (42, .aload_n 0, 1, 0, 0, 0),
  (43, .getfield 24, 3, 5, 4, 0),
  (46, .aload_n 0, 1, 0, 0, 0),
  (47, .getfield 18, 3, 5, 2, 0),
  (50, .iload_n 2, 1, 0, 0, 0),
  (51, .iaload, 1, 0, 0, 0),
  (52, .dup2, 1, 0, 0, 0),
  (53, .iaload, 1, 0, 0, 0),
  (54, .iconst 1, 1, 0, 0, 0),
  (55, .iadd, 1, 0, 0, 0),
  (56, .iastore, 1, 0, 0, 0),
  (57, .iinc 2 1, 3, 0, 0, 0),
  (60, .goto (-53), 3, 0, 0, 0),
  (63, .return_, 1, 0, 0, 0)])
def zm_41 : zM := (⟨"SiphonReport$Classes", "fill", "(LSiphonReport$Network;)V"⟩, prog_2_method_2_code, 6, none, 4, 87, 2, 1, [
  (0, .aload_n 1, 1, 0, 0, 0),
  (1, .getfield 27, 4, 4, 4, 0),
  (4, .istore_n 2, 1, 0, 0, 0),
  (5, .iconst 0, 1, 0, 0, 0),
  (6, .istore_n 3, 1, 0, 0, 0),
  (7, .iload_n 3, 1, 0, 0, 0),
  (8, .iload_n 2, 1, 0, 0, 0),
  (9, .if_icmp .ge 27, 3, 0, 0, 0),
  (12, .aload_n 0, 1, 0, 0, 0),
  (13, .getfield 9, 3, 5, 0, 0),
  (16, .iload_n 3, 1, 0, 0, 0),
  (17, .iconst 1, 1, 0, 0, 0),
  (18, .iload_n 3, 1, 0, 0, 0),
  (19, .ishl, 1, 0, 0, 0),
  (20, .iastore, 1, 0, 0, 0),
  (21, .aload_n 0, 1, 0, 0, 0),
  (22, .getfield 15, 3, 5, 1, 0),
  (25, .iload_n 3, 1, 0, 0, 0),
  (26, .iconst 1, 1, 0, 0, 0),
  (27, .iload_n 3, 1, 0, 0, 0),
  (28, .ishl, 1, 0, 0, 0),
  (29, .iastore, 1, 0, 0, 0),
  (30, .iinc 3 1, 3, 0, 0, 0),
  (33, .goto (-26), 3, 0, 0, 0),
  (36, .iconst 0, 1, 0, 0, 0),
  (37, .istore_n 3, 1, 0, 0, 0),
  (38, .iload_n 3, 1, 0, 0, 0),
  (39, .aload_n 1, 1, 0, 0, 0),
  (40, .getfield 33, 4, 4, 5, 0),
  (43, .if_icmp .ge 67, 3, 0, 0, 0),
  (46, .aload_n 1, 1, 0, 0, 0),
  (47, .getfield 36, 4, 4, 2, 0),
  (50, .iload_n 3, 1, 0, 0, 0),
  (51, .iaload, 1, 0, 0, 0),
  (52, .istore 4, 2, 0, 0, 0),
  (54, .aload_n 1, 1, 0, 0, 0),
  (55, .getfield 39, 4, 4, 3, 0),
  (58, .iload_n 3, 1, 0, 0, 0),
  (59, .iaload, 1, 0, 0, 0),
  (60, .istore 5, 2, 0, 0, 0),
  (62, .aload_n 0, 1, 0, 0, 0),
  (63, .getfield 15, 3, 5, 1, 0),
  (66, .iload 4, 2, 0, 0, 0),
  (68, .dup2, 1, 0, 0, 0),
  (69, .iaload, 1, 0, 0, 0),
  (70, .iconst 1, 1, 0, 0, 0),
  (71, .iload 5, 2, 0, 0, 0),
  (73, .ishl, 1, 0, 0, 0),
  (74, .ior, 1, 0, 0, 0),
  (75, .iastore, 1, 0, 0, 0),
  (76, .aload_n 0, 1, 0, 0, 0),
  (77, .getfield 9, 3, 5, 0, 0),
  (80, .iload 4, 2, 0, 0, 0),
  (82, .dup2, 1, 0, 0, 0),
  (83, .iaload, 1, 0, 0, 0),
  (84, .iconst 1, 1, 0, 0, 0),
  (85, .iload 5, 2, 0, 0, 0),
  (87, .ishl, 1, 0, 0, 0),
  (88, .ior, 1, 0, 0, 0),
  (89, .iastore, 1, 0, 0, 0),
  (90, .aload_n 0, 1, 0, 0, 0),
  (91, .getfield 9, 3, 5, 0, 0),
  (94, .iload 5, 2, 0, 0, 0),
  (96, .dup2, 1, 0, 0, 0),
  (97, .iaload, 1, 0, 0, 0),
  (98, .iconst 1, 1, 0, 0, 0),
  (99, .iload 4, 2, 0, 0, 0),
  (101, .ishl, 1, 0, 0, 0),
  (102, .ior, 1, 0, 0, 0),
  (103, .iastore, 1, 0, 0, 0),
  (104, .iinc 3 1, 3, 0, 0, 0),
  (107, .goto (-69), 3, 0, 0, 0),
  (110, .aload_n 0, 1, 0, 0, 0),
  (111, .getfield 9, 3, 5, 0, 0),
  (114, .iload_n 2, 1, 0, 0, 0),
  (115, .invokestatic 42, 3, 35, 2, 0),
  (118, .aload_n 0, 1, 0, 0, 0),
  (119, .getfield 15, 3, 5, 1, 0),
  (122, .iload_n 2, 1, 0, 0, 0),
  (123, .invokestatic 42, 3, 35, 2, 0),
  (126, .aload_n 0, 1, 0, 0, 0),
  (127, .iload_n 2, 1, 0, 0, 0),
  (128, .invokevirtual 46, 3, 37, 2, 5),
  (131, .aload_n 0, 1, 0, 0, 0),
  (132, .iload_n 2, 1, 0, 0, 0),
  (133, .invokevirtual 50, 3, 40, 2, 5),
  (136, .return_, 1, 0, 0, 0)])
def zm_42 : zM := (⟨"SiphonReport$Matrix", "addVector", "(LSiphonReport$Network;I)V"⟩, prog_5_method_2_code, 6, none, 0, 0, 2, 2, [
  (0, .aload_n 0, 1, 0, 0, 0),
  (1, .getfield 20, 3, 7, 2, 0),
  (4, .bipush 10, 2, 0, 0, 0),
  (6, .if_icmp .lt 4, 3, 0, 0, 0),
  (9, .return_, 1, 0, 0, 0),
  (10, .aload_n 1, 1, 0, 0, 0),
  (11, .getfield 24, 4, 4, 0, 0),
  (14, .aload_n 1, 1, 0, 0, 0),
  (15, .getfield 30, 4, 4, 2, 0),
  (18, .iload_n 2, 1, 0, 0, 0),
  (19, .iaload, 1, 0, 0, 0),
  (20, .aaload, 1, 0, 0, 0),
  (21, .astore_n 3, 1, 0, 0, 0),
  (22, .aload_n 1, 1, 0, 0, 0),
  (23, .getfield 24, 4, 4, 0, 0),
  (26, .aload_n 1, 1, 0, 0, 0),
  (27, .getfield 33, 4, 4, 3, 0),
  (30, .iload_n 2, 1, 0, 0, 0),
  (31, .iaload, 1, 0, 0, 0),
  (32, .aaload, 1, 0, 0, 0),
  (33, .astore 4, 2, 0, 0, 0),
  (35, .iconst 0, 1, 0, 0, 0),
  (36, .istore 5, 2, 0, 0, 0),
  (38, .iload 5, 2, 0, 0, 0),
  (40, .bipush 7, 2, 0, 0, 0),
  (42, .if_icmp .ge 32, 3, 0, 0, 0),
  (45, .aload_n 0, 1, 0, 0, 0),
  (46, .getfield 11, 3, 7, 0, 0),
  (49, .aload_n 0, 1, 0, 0, 0),
  (50, .getfield 20, 3, 7, 2, 0),
  (53, .aaload, 1, 0, 0, 0),
  (54, .iload 5, 2, 0, 0, 0),
  (56, .aload 4, 2, 0, 0, 0),
  (58, .iload 5, 2, 0, 0, 0),
  (60, .iaload, 1, 0, 0, 0),
  (61, .aload_n 3, 1, 0, 0, 0),
  (62, .iload 5, 2, 0, 0, 0),
  (64, .iaload, 1, 0, 0, 0),
  (65, .isub, 1, 0, 0, 0),
  (66, .i2l, 1, 0, 0, 0),
  (67, .lastore, 1, 0, 0, 0),
  (68, .iinc 5 1, 3, 0, 0, 0),
  (71, .goto (-33), 3, 0, 0, 0),
  (74, .aload_n 0, 1, 0, 0, 0),
  (75, .dup, 1, 0, 0, 0),
  (76, .getfield 20, 3, 7, 2, 0),
  (79, .iconst 1, 1, 0, 0, 0),
  (80, .iadd, 1, 0, 0, 0),
  (81, .putfield 20, 3, 7, 2, 0),
  (84, .return_, 1, 0, 0, 0)])
def zm_43 : zM := (⟨"SiphonReport$Matrix", "rowWith", "(II)I"⟩, prog_5_method_5_code, 4, (some .int), 0, 0, 2, 2, [
  (0, .iload_n 2, 1, 0, 0, 0),
  (1, .istore_n 3, 1, 0, 0, 0),
  (2, .iload_n 3, 1, 0, 0, 0),
  (3, .aload_n 0, 1, 0, 0, 0),
  (4, .getfield 20, 3, 7, 2, 0),
  (7, .if_icmp .ge 24, 3, 0, 0, 0),
  (10, .aload_n 0, 1, 0, 0, 0),
  (11, .getfield 11, 3, 7, 0, 0),
  (14, .iload_n 3, 1, 0, 0, 0),
  (15, .aaload, 1, 0, 0, 0),
  (16, .iload_n 1, 1, 0, 0, 0),
  (17, .laload, 1, 0, 0, 0),
  (18, .lconst 0, 1, 0, 0, 0),
  (19, .lcmp, 1, 0, 0, 0),
  (20, .ifCond .eq 5, 3, 0, 0, 0),
  (23, .iload_n 3, 1, 0, 0, 0),
  (24, .ireturn, 1, 0, 0, 0),
  (25, .iinc 3 1, 3, 0, 0, 0),
  (28, .goto (-26), 3, 0, 0, 0),
  (31, .iconst (-1), 1, 0, 0, 0),
  (32, .ireturn, 1, 0, 0, 0)])
def zm_44 : zM := (⟨"java/lang/Math", "abs", "(J)J"⟩, prog_14_method_61_code, 2, (some .long), 0, 0, 0, 1, [
  (0, .lload_n 0, 1, 0, 0, 0),
  (1, .lconst 0, 1, 0, 0, 0),
  (2, .lcmp, 1, 0, 0, 0),
  (3, .ifCond .ge 8, 3, 0, 0, 0),
  (6, .lload_n 0, 1, 0, 0, 0),
  (7, .lneg, 1, 0, 0, 0),
  (8, .goto 4, 3, 0, 0, 0),
  (11, .lload_n 0, 1, 0, 0, 0),
  (12, .lreturn, 1, 0, 0, 0)])
def zm_45 : zM := (⟨"SiphonReport", "commonDivisor", "(JJ)J"⟩, prog_1_method_31_code, 11, (some .long), 1, 21, 0, 2, [
  (0, .lload_n 0, 1, 0, 0, 0),
  (1, .invokestatic 199, 3, 44, 1, 0),
  (4, .lstore 4, 2, 0, 0, 0),
  (6, .lload_n 2, 1, 0, 0, 0),
  (7, .invokestatic 199, 3, 44, 1, 0),
  (10, .lstore 6, 2, 0, 0, 0),
  (12, .iconst 0, 1, 0, 0, 0),
  (13, .istore 8, 2, 0, 0, 0),
  (15, .iload 8, 2, 0, 0, 0),
  (17, .sipush 1000, 3, 0, 0, 0),
  (20, .if_icmp .ge 31, 3, 0, 0, 0),
  (23, .lload 6, 2, 0, 0, 0),
  (25, .lconst 0, 1, 0, 0, 0),
  (26, .lcmp, 1, 0, 0, 0),
  (27, .ifCond .eq 24, 3, 0, 0, 0),
  (30, .lload 4, 2, 0, 0, 0),
  (32, .lload 6, 2, 0, 0, 0),
  (34, .lrem, 1, 0, 0, 0),
  (35, .lstore 9, 2, 0, 0, 0),
  (37, .lload 6, 2, 0, 0, 0),
  (39, .lstore 4, 2, 0, 0, 0),
  (41, .lload 9, 2, 0, 0, 0),
  (43, .lstore 6, 2, 0, 0, 0),
  (45, .iinc 8 1, 3, 0, 0, 0),
  (48, .goto (-33), 3, 0, 0, 0),
  (51, .lload 4, 2, 0, 0, 0),
  (53, .lreturn, 1, 0, 0, 0)])
def zm_46 : zM := (⟨"SiphonReport$Matrix", "shrink", "([J)V"⟩, prog_5_method_7_code, 4, none, 2, 51, 0, 1, [
  (0, .lconst 0, 1, 0, 0, 0),
  (1, .lstore_n 1, 1, 0, 0, 0),
  (2, .iconst 0, 1, 0, 0, 0),
  (3, .istore_n 3, 1, 0, 0, 0),
  (4, .iload_n 3, 1, 0, 0, 0),
  (5, .bipush 7, 2, 0, 0, 0),
  (7, .if_icmp .ge 17, 3, 0, 0, 0),
  (10, .lload_n 1, 1, 0, 0, 0),
  (11, .aload_n 0, 1, 0, 0, 0),
  (12, .iload_n 3, 1, 0, 0, 0),
  (13, .laload, 1, 0, 0, 0),
  (14, .invokestatic 52, 4, 45, 2, 0),
  (17, .lstore_n 1, 1, 0, 0, 0),
  (18, .iinc 3 1, 3, 0, 0, 0),
  (21, .goto (-17), 3, 0, 0, 0),
  (24, .lload_n 1, 1, 0, 0, 0),
  (25, .lconst 1, 1, 0, 0, 0),
  (26, .lcmp, 1, 0, 0, 0),
  (27, .ifCond .le 24, 3, 0, 0, 0),
  (30, .iconst 0, 1, 0, 0, 0),
  (31, .istore_n 3, 1, 0, 0, 0),
  (32, .iload_n 3, 1, 0, 0, 0),
  (33, .bipush 7, 2, 0, 0, 0),
  (35, .if_icmp .ge 16, 3, 0, 0, 0),
  (38, .aload_n 0, 1, 0, 0, 0),
  (39, .iload_n 3, 1, 0, 0, 0),
  (40, .dup2, 1, 0, 0, 0),
  (41, .laload, 1, 0, 0, 0),
  (42, .lload_n 1, 1, 0, 0, 0),
  (43, .ldiv, 1, 0, 0, 0),
  (44, .lastore, 1, 0, 0, 0),
  (45, .iinc 3 1, 3, 0, 0, 0),
  (48, .goto (-16), 3, 0, 0, 0),
  (51, .return_, 1, 0, 0, 0)])
def zm_47 : zM := (⟨"SiphonReport$Matrix", "clearColumn", "(II)V"⟩, prog_5_method_6_code, 9, none, 3, 74, 2, 2, [
  (0, .aload_n 0, 1, 0, 0, 0),
  (1, .getfield 11, 3, 7, 0, 0),
  (4, .iload_n 2, 1, 0, 0, 0),
  (5, .aaload, 1, 0, 0, 0),
  (6, .iload_n 1, 1, 0, 0, 0),
  (7, .laload, 1, 0, 0, 0),
  (8, .lstore_n 3, 1, 0, 0, 0),
  (9, .iconst 0, 1, 0, 0, 0),
  (10, .istore 5, 2, 0, 0, 0),
  (12, .iload 5, 2, 0, 0, 0),
  (14, .aload_n 0, 1, 0, 0, 0),
  (15, .getfield 20, 3, 7, 2, 0),
  (18, .if_icmp .ge 94, 3, 0, 0, 0),
  (21, .aload_n 0, 1, 0, 0, 0),
  (22, .getfield 11, 3, 7, 0, 0),
  (25, .iload 5, 2, 0, 0, 0),
  (27, .aaload, 1, 0, 0, 0),
  (28, .iload_n 1, 1, 0, 0, 0),
  (29, .laload, 1, 0, 0, 0),
  (30, .lstore 6, 2, 0, 0, 0),
  (32, .iload 5, 2, 0, 0, 0),
  (34, .iload_n 2, 1, 0, 0, 0),
  (35, .if_icmp .eq 71, 3, 0, 0, 0),
  (38, .lload 6, 2, 0, 0, 0),
  (40, .lconst 0, 1, 0, 0, 0),
  (41, .lcmp, 1, 0, 0, 0),
  (42, .ifCond .eq 64, 3, 0, 0, 0),
  (45, .iconst 0, 1, 0, 0, 0),
  (46, .istore 8, 2, 0, 0, 0),
  (48, .iload 8, 2, 0, 0, 0),
  (50, .bipush 7, 2, 0, 0, 0),
  (52, .if_icmp .ge 44, 3, 0, 0, 0),
  (55, .aload_n 0, 1, 0, 0, 0),
  (56, .getfield 11, 3, 7, 0, 0),
  (59, .iload 5, 2, 0, 0, 0),
  (61, .aaload, 1, 0, 0, 0),
  (62, .iload 8, 2, 0, 0, 0),
  (64, .aload_n 0, 1, 0, 0, 0),
  (65, .getfield 11, 3, 7, 0, 0),
  (68, .iload 5, 2, 0, 0, 0),
  (70, .aaload, 1, 0, 0, 0),
  (71, .iload 8, 2, 0, 0, 0),
  (73, .laload, 1, 0, 0, 0),
  (74, .lload_n 3, 1, 0, 0, 0),
  (75, .lmul, 1, 0, 0, 0),
  (76, .aload_n 0, 1, 0, 0, 0),
  (77, .getfield 11, 3, 7, 0, 0),
  (80, .iload_n 2, 1, 0, 0, 0),
  (81, .aaload, 1, 0, 0, 0),
  (82, .iload 8, 2, 0, 0, 0),
  (84, .laload, 1, 0, 0, 0),
  (85, .lload 6, 2, 0, 0, 0),
  (87, .lmul, 1, 0, 0, 0),
  (88, .lsub, 1, 0, 0, 0),
  (89, .lastore, 1, 0, 0, 0),
  (90, .iinc 8 1, 3, 0, 0, 0),
  (93, .goto (-45), 3, 0, 0, 0),
  (96, .aload_n 0, 1, 0, 0, 0),
  (97, .getfield 11, 3, 7, 0, 0),
  (100, .iload 5, 2, 0, 0, 0),
  (102, .aaload, 1, 0, 0, 0),
  (103, .invokestatic 48, 3, 46, 1, 0),
  (106, .iinc 5 1, 3, 0, 0, 0),
  (109, .goto (-97), 3, 0, 0, 0),
  (112, .return_, 1, 0, 0, 0)])
def zm_48 : zM := (⟨"SiphonReport$Matrix", "reduce", "()I"⟩, prog_5_method_4_code, 5, (some .int), 4, 102, 2, 0, [
  (0, .iconst 0, 1, 0, 0, 0),
  (1, .istore_n 1, 1, 0, 0, 0),
  (2, .iconst 0, 1, 0, 0, 0),
  (3, .istore_n 2, 1, 0, 0, 0),
  (4, .iload_n 2, 1, 0, 0, 0),
  (5, .bipush 7, 2, 0, 0, 0),
  (7, .if_icmp .ge 74, 3, 0, 0, 0),
  (10, .aload_n 0, 1, 0, 0, 0),
  (11, .iload_n 2, 1, 0, 0, 0),
  (12, .iload_n 1, 1, 0, 0, 0),
  (13, .invokevirtual 40, 3, 43, 3, 7),
  (16, .istore_n 3, 1, 0, 0, 0),
  (17, .iload_n 3, 1, 0, 0, 0),
  (18, .ifCond .ge 13, 3, 0, 0, 0),
  (21, .aload_n 0, 1, 0, 0, 0),
  (22, .getfield 16, 3, 7, 1, 0),
  (25, .iload_n 2, 1, 0, 0, 0),
  (26, .iconst (-1), 1, 0, 0, 0),
  (27, .iastore, 1, 0, 0, 0),
  (28, .goto 47, 3, 0, 0, 0),
  (31, .aload_n 0, 1, 0, 0, 0),
  (32, .getfield 11, 3, 7, 0, 0),
  (35, .iload_n 3, 1, 0, 0, 0),
  (36, .aaload, 1, 0, 0, 0),
  (37, .astore 4, 2, 0, 0, 0),
  (39, .aload_n 0, 1, 0, 0, 0),
  (40, .getfield 11, 3, 7, 0, 0),
  (43, .iload_n 3, 1, 0, 0, 0),
  (44, .aload_n 0, 1, 0, 0, 0),
  (45, .getfield 11, 3, 7, 0, 0),
  (48, .iload_n 1, 1, 0, 0, 0),
  (49, .aaload, 1, 0, 0, 0),
  (50, .aastore, 1, 0, 0, 0),
  (51, .aload_n 0, 1, 0, 0, 0),
  (52, .getfield 11, 3, 7, 0, 0),
  (55, .iload_n 1, 1, 0, 0, 0),
  (56, .aload 4, 2, 0, 0, 0),
  (58, .aastore, 1, 0, 0, 0),
  (59, .aload_n 0, 1, 0, 0, 0),
  (60, .iload_n 2, 1, 0, 0, 0),
  (61, .iload_n 1, 1, 0, 0, 0),
  (62, .invokevirtual 44, 3, 47, 3, 7),
  (65, .aload_n 0, 1, 0, 0, 0),
  (66, .getfield 16, 3, 7, 1, 0),
  (69, .iload_n 2, 1, 0, 0, 0),
  (70, .iload_n 1, 1, 0, 0, 0),
  (71, .iastore, 1, 0, 0, 0),
  (72, .iinc 1 1, 3, 0, 0, 0),
  (75, .iinc 2 1, 3, 0, 0, 0),
  (78, .goto (-74), 3, 0, 0, 0),
  (81, .aload_n 0, 1, 0, 0, 0),
  (82, .iload_n 1, 1, 0, 0, 0),
  (83, .putfield 20, 3, 7, 2, 0),
  (86, .iload_n 1, 1, 0, 0, 0),
  (87, .ireturn, 1, 0, 0, 0)])
def zm_49 : zM := (⟨"SiphonReport$Ranks", "fill", "(LSiphonReport$Network;LSiphonReport$Classes;)V"⟩, prog_7_method_2_code, 5, none, 5, 126, 2, 2, [
  (0, .iconst 0, 1, 0, 0, 0),
  (1, .istore_n 3, 1, 0, 0, 0),
  (2, .iload_n 3, 1, 0, 0, 0),
  (3, .aload_n 2, 1, 0, 0, 0),
  (4, .getfield 25, 4, 5, 5, 0),
  (7, .if_icmp .ge 74, 3, 0, 0, 0),
  (10, .aload_n 0, 1, 0, 0, 0),
  (11, .getfield 18, 3, 6, 1, 0),
  (14, .iconst 0, 1, 0, 0, 0),
  (15, .putfield 31, 4, 7, 2, 0),
  (18, .iconst 0, 1, 0, 0, 0),
  (19, .istore 4, 2, 0, 0, 0),
  (21, .iload 4, 2, 0, 0, 0),
  (23, .aload_n 1, 1, 0, 0, 0),
  (24, .getfield 34, 4, 4, 5, 0),
  (27, .if_icmp .ge 35, 3, 0, 0, 0),
  (30, .aload_n 2, 1, 0, 0, 0),
  (31, .getfield 39, 4, 5, 2, 0),
  (34, .aload_n 1, 1, 0, 0, 0),
  (35, .getfield 42, 4, 4, 2, 0),
  (38, .iload 4, 2, 0, 0, 0),
  (40, .iaload, 1, 0, 0, 0),
  (41, .iaload, 1, 0, 0, 0),
  (42, .iload_n 3, 1, 0, 0, 0),
  (43, .if_icmp .ne 13, 3, 0, 0, 0),
  (46, .aload_n 0, 1, 0, 0, 0),
  (47, .getfield 18, 3, 6, 1, 0),
  (50, .aload_n 1, 1, 0, 0, 0),
  (51, .iload 4, 2, 0, 0, 0),
  (53, .invokevirtual 45, 3, 42, 3, 7),
  (56, .iinc 4 1, 3, 0, 0, 0),
  (59, .goto (-38), 3, 0, 0, 0),
  (62, .aload_n 0, 1, 0, 0, 0),
  (63, .getfield 21, 3, 6, 2, 0),
  (66, .iload_n 3, 1, 0, 0, 0),
  (67, .aload_n 0, 1, 0, 0, 0),
  (68, .getfield 18, 3, 6, 1, 0),
  (71, .invokevirtual 49, 3, 48, 1, 7),
  (74, .iastore, 1, 0, 0, 0),
  (75, .iinc 3 1, 3, 0, 0, 0),
  (78, .goto (-76), 3, 0, 0, 0),
  (81, .aload_n 0, 1, 0, 0, 0),
  (82, .getfield 12, 3, 6, 0, 0),
  (85, .iconst 0, 1, 0, 0, 0),
  (86, .putfield 31, 4, 7, 2, 0),
  (89, .iconst 0, 1, 0, 0, 0),
  (90, .istore_n 3, 1, 0, 0, 0),
  (91, .iload_n 3, 1, 0, 0, 0),
  (92, .aload_n 1, 1, 0, 0, 0),
  (93, .getfield 34, 4, 4, 5, 0),
  (96, .if_icmp .ge 18, 3, 0, 0, 0),
  (99, .aload_n 0, 1, 0, 0, 0),
  (100, .getfield 12, 3, 6, 0, 0),
  (103, .aload_n 1, 1, 0, 0, 0),
  (104, .iload_n 3, 1, 0, 0, 0),
  (105, .invokevirtual 45, 3, 42, 3, 7),
  (108, .iinc 3 1, 3, 0, 0, 0),
  (111, .goto (-20), 3, 0, 0, 0),
  (114, .aload_n 0, 1, 0, 0, 0),
  (115, .aload_n 0, 1, 0, 0, 0),
  (116, .getfield 12, 3, 6, 0, 0),
  (119, .invokevirtual 49, 3, 48, 1, 7),
  (122, .putfield 53, 3, 6, 3, 0),
  (125, .return_, 1, 0, 0, 0)])
def zm_50 : zM := (⟨"SiphonReport$Network", "speciesSet", "()I"⟩, prog_6_method_5_code, 3, (some .int), 0, 0, 2, 0, [
  (0, .iconst 0, 1, 0, 0, 0),
  (1, .istore_n 1, 1, 0, 0, 0),
  (2, .iconst 0, 1, 0, 0, 0),
  (3, .istore_n 2, 1, 0, 0, 0),
  (4, .iload_n 2, 1, 0, 0, 0),
  (5, .aload_n 0, 1, 0, 0, 0),
  (6, .getfield 26, 3, 4, 4, 0),
  (9, .if_icmp .ge 18, 3, 0, 0, 0),
  (12, .iload_n 1, 1, 0, 0, 0),
  (13, .aload_n 0, 1, 0, 0, 0),
  (14, .getfield 16, 3, 4, 1, 0),
  (17, .iload_n 2, 1, 0, 0, 0),
  (18, .iaload, 1, 0, 0, 0),
  (19, .ior, 1, 0, 0, 0),
  (20, .istore_n 1, 1, 0, 0, 0),
  (21, .iinc 2 1, 3, 0, 0, 0),
  (24, .goto (-20), 3, 0, 0, 0),
  (27, .iload_n 1, 1, 0, 0, 0),
  (28, .ireturn, 1, 0, 0, 0)])
def zm_51 : zM := (⟨"SiphonReport", "isPart", "(II)Z"⟩, prog_1_method_28_code, 2, (some .boolean), 0, 0, 0, 2, [
  (0, .iload_n 0, 1, 0, 0, 0),
  (1, .iload_n 1, 1, 0, 0, 0),
  (2, .iconst (-1), 1, 0, 0, 0),
  (3, .ixor, 1, 0, 0, 0),
  (4, .iand, 1, 0, 0, 0),
  (5, .ifCond .ne 7, 3, 0, 0, 0),
  (8, .iconst 1, 1, 0, 0, 0),
  (9, .goto 4, 3, 0, 0, 0),
  (12, .iconst 0, 1, 0, 0, 0),
  (13, .ireturn, 1, 0, 0, 0)])
def zm_52 : zM := (⟨"SiphonReport$SetList", "hasPartOf", "(I)Z"⟩, prog_8_method_5_code, 3, (some .boolean), 1, 21, 2, 1, [
  (0, .iconst 0, 1, 0, 0, 0),
  (1, .istore_n 2, 1, 0, 0, 0),
  (2, .iload_n 2, 1, 0, 0, 0),
  (3, .aload_n 0, 1, 0, 0, 0),
  (4, .getfield 15, 3, 8, 1, 0),
  (7, .if_icmp .ge 24, 3, 0, 0, 0),
  (10, .aload_n 0, 1, 0, 0, 0),
  (11, .getfield 9, 3, 8, 0, 0),
  (14, .iload_n 2, 1, 0, 0, 0),
  (15, .iaload, 1, 0, 0, 0),
  (16, .iload_n 1, 1, 0, 0, 0),
  (17, .invokestatic 23, 4, 51, 2, 0),
  (20, .ifCond .eq 5, 3, 0, 0, 0),
  (23, .iconst 1, 1, 0, 0, 0),
  (24, .ireturn, 1, 0, 0, 0),
  (25, .iinc 2 1, 3, 0, 0, 0),
  (28, .goto (-26), 3, 0, 0, 0),
  (31, .iconst 0, 1, 0, 0, 0),
  (32, .ireturn, 1, 0, 0, 0)])
def zm_53 : zM := (⟨"SiphonReport$Network", "isSiphon", "(I)Z"⟩, prog_6_method_6_code, 5, (some .boolean), 0, 0, 2, 1, [
  (0, .iconst 0, 1, 0, 0, 0),
  (1, .istore_n 2, 1, 0, 0, 0),
  (2, .iload_n 2, 1, 0, 0, 0),
  (3, .aload_n 0, 1, 0, 0, 0),
  (4, .getfield 34, 3, 4, 5, 0),
  (7, .if_icmp .ge 65, 3, 0, 0, 0),
  (10, .aload_n 0, 1, 0, 0, 0),
  (11, .getfield 16, 3, 4, 1, 0),
  (14, .aload_n 0, 1, 0, 0, 0),
  (15, .getfield 23, 3, 4, 3, 0),
  (18, .iload_n 2, 1, 0, 0, 0),
  (19, .iaload, 1, 0, 0, 0),
  (20, .iaload, 1, 0, 0, 0),
  (21, .iload_n 1, 1, 0, 0, 0),
  (22, .iand, 1, 0, 0, 0),
  (23, .ifCond .eq 7, 3, 0, 0, 0),
  (26, .iconst 1, 1, 0, 0, 0),
  (27, .goto 4, 3, 0, 0, 0),
  (30, .iconst 0, 1, 0, 0, 0),
  (31, .istore_n 3, 1, 0, 0, 0),
  (32, .aload_n 0, 1, 0, 0, 0),
  (33, .getfield 16, 3, 4, 1, 0),
  (36, .aload_n 0, 1, 0, 0, 0),
  (37, .getfield 20, 3, 4, 2, 0),
  (40, .iload_n 2, 1, 0, 0, 0),
  (41, .iaload, 1, 0, 0, 0),
  (42, .iaload, 1, 0, 0, 0),
  (43, .iload_n 1, 1, 0, 0, 0),
  (44, .iand, 1, 0, 0, 0),
  (45, .ifCond .eq 7, 3, 0, 0, 0),
  (48, .iconst 1, 1, 0, 0, 0),
  (49, .goto 4, 3, 0, 0, 0),
  (52, .iconst 0, 1, 0, 0, 0),
  (53, .istore 4, 2, 0, 0, 0),
  (55, .iload_n 3, 1, 0, 0, 0),
  (56, .ifCond .eq 10, 3, 0, 0, 0),
  (59, .iload 4, 2, 0, 0, 0),
  (61, .ifCond .ne 5, 3, 0, 0, 0),
  (64, .iconst 0, 1, 0, 0, 0),
  (65, .ireturn, 1, 0, 0, 0),
  (66, .iinc 2 1, 3, 0, 0, 0),
  (69, .goto (-67), 3, 0, 0, 0),
  (72, .iconst 1, 1, 0, 0, 0),
  (73, .ireturn, 1, 0, 0, 0)])
def zm_54 : zM := (⟨"SiphonReport$SetList", "add", "(I)V"⟩, prog_8_method_4_code, 2, none, 0, 0, 2, 1, [
  (0, .aload_n 0, 1, 0, 0, 0),
  (1, .getfield 15, 3, 8, 1, 0),
  (4, .bipush 35, 2, 0, 0, 0),
  (6, .if_icmp .ge 23, 3, 0, 0, 0),
  (9, .aload_n 0, 1, 0, 0, 0),
  (10, .getfield 9, 3, 8, 0, 0),
  (13, .aload_n 0, 1, 0, 0, 0),
  (14, .getfield 15, 3, 8, 1, 0),
  (17, .iload_n 1, 1, 0, 0, 0),
  (18, .iastore, 1, 0, 0, 0),
  (19, .aload_n 0, 1, 0, 0, 0),
  (20, .dup, 1, 0, 0, 0),
  (21, .getfield 15, 3, 8, 1, 0),
  (24, .iconst 1, 1, 0, 0, 0),
  (25, .iadd, 1, 0, 0, 0),
  (26, .putfield 15, 3, 8, 1, 0),
  (29, .return_, 1, 0, 0, 0)])
def zm_55 : zM := (⟨"SiphonReport", "fillSiphons", "()V"⟩, prog_1_method_22_code, 3, none, 2, 43, 2, 0, [
  (0, .aload_n 0, 1, 0, 0, 0),
  (1, .getfield 47, 3, 0, 5, 0),
  (4, .iconst 0, 1, 0, 0, 0),
  (5, .putfield 147, 4, 8, 1, 0),
  (8, .aload_n 0, 1, 0, 0, 0),
  (9, .getfield 61, 3, 0, 7, 0),
  (12, .invokevirtual 121, 3, 50, 1, 4),
  (15, .istore_n 1, 1, 0, 0, 0),
  (16, .iconst 1, 1, 0, 0, 0),
  (17, .istore_n 2, 1, 0, 0, 0),
  (18, .iload_n 2, 1, 0, 0, 0),
  (19, .bipush 127, 2, 0, 0, 0),
  (21, .if_icmp .gt 47, 3, 0, 0, 0),
  (24, .iload_n 2, 1, 0, 0, 0),
  (25, .iload_n 1, 1, 0, 0, 0),
  (26, .invokestatic 179, 3, 51, 2, 0),
  (29, .ifCond .eq 33, 3, 0, 0, 0),
  (32, .aload_n 0, 1, 0, 0, 0),
  (33, .getfield 47, 3, 0, 5, 0),
  (36, .iload_n 2, 1, 0, 0, 0),
  (37, .invokevirtual 158, 3, 52, 2, 8),
  (40, .ifCond .ne 22, 3, 0, 0, 0),
  (43, .aload_n 0, 1, 0, 0, 0),
  (44, .getfield 61, 3, 0, 7, 0),
  (47, .iload_n 2, 1, 0, 0, 0),
  (48, .invokevirtual 183, 3, 53, 2, 4),
  (51, .ifCond .eq 11, 3, 0, 0, 0),
  (54, .aload_n 0, 1, 0, 0, 0),
  (55, .getfield 47, 3, 0, 5, 0),
  (58, .iload_n 2, 1, 0, 0, 0),
  (59, .invokevirtual 186, 3, 54, 2, 8),
  (62, .iinc 2 1, 3, 0, 0, 0),
  (65, .goto (-47), 3, 0, 0, 0),
  (68, .return_, 1, 0, 0, 0)])
def zm_56 : zM := (⟨"SiphonReport$Matrix", "copyColumns", "(LSiphonReport$Matrix;I)V"⟩, prog_5_method_3_code, 5, none, 1, 21, 2, 2, [
  (0, .aload_n 0, 1, 0, 0, 0),
  (1, .aload_n 1, 1, 0, 0, 0),
  (2, .getfield 20, 3, 7, 2, 0),
  (5, .putfield 20, 3, 7, 2, 0),
  (8, .iconst 0, 1, 0, 0, 0),
  (9, .istore_n 3, 1, 0, 0, 0),
  (10, .iload_n 3, 1, 0, 0, 0),
  (11, .aload_n 0, 1, 0, 0, 0),
  (12, .getfield 20, 3, 7, 2, 0),
  (15, .if_icmp .ge 56, 3, 0, 0, 0),
  (18, .iconst 0, 1, 0, 0, 0),
  (19, .istore 4, 2, 0, 0, 0),
  (21, .iload 4, 2, 0, 0, 0),
  (23, .bipush 7, 2, 0, 0, 0),
  (25, .if_icmp .ge 40, 3, 0, 0, 0),
  (28, .aload_n 0, 1, 0, 0, 0),
  (29, .getfield 11, 3, 7, 0, 0),
  (32, .iload_n 3, 1, 0, 0, 0),
  (33, .aaload, 1, 0, 0, 0),
  (34, .iload 4, 2, 0, 0, 0),
  (36, .iload_n 2, 1, 0, 0, 0),
  (37, .iload 4, 2, 0, 0, 0),
  (39, .invokestatic 36, 4, 34, 2, 0),
  (42, .ifCond .eq 15, 3, 0, 0, 0),
  (45, .aload_n 1, 1, 0, 0, 0),
  (46, .getfield 11, 3, 7, 0, 0),
  (49, .iload_n 3, 1, 0, 0, 0),
  (50, .aaload, 1, 0, 0, 0),
  (51, .iload 4, 2, 0, 0, 0),
  (53, .laload, 1, 0, 0, 0),
  (54, .goto 4, 3, 0, 0, 0),
  (57, .lconst 0, 1, 0, 0, 0),
  (58, .lastore, 1, 0, 0, 0),
  (59, .iinc 4 1, 3, 0, 0, 0),
  (62, .goto (-41), 3, 0, 0, 0),
  (65, .iinc 3 1, 3, 0, 0, 0),
  (68, .goto (-58), 3, 0, 0, 0),
  (71, .return_, 1, 0, 0, 0)])
def zm_57 : zM := (⟨"java/lang/Integer", "bitCount", "(I)I"⟩, prog_13_method_49_code, 1, (some .int), 0, 0, 0, 1, [
  (0, .iload_n 0, 1, 0, 0, 0),
  (1, .iload_n 0, 1, 0, 0, 0),
  (2, .iconst 1, 1, 0, 0, 0),
  (3, .iushr, 1, 0, 0, 0),
  (4, .ldc_w 265, 3, 1431655765, 0, 0),
  (7, .iand, 1, 0, 0, 0),
  (8, .isub, 1, 0, 0, 0),
  (9, .istore_n 0, 1, 0, 0, 0),
  (10, .iload_n 0, 1, 0, 0, 0),
  (11, .ldc_w 266, 3, 858993459, 0, 0),
  (14, .iand, 1, 0, 0, 0),
  (15, .iload_n 0, 1, 0, 0, 0),
  (16, .iconst 2, 1, 0, 0, 0),
  (17, .iushr, 1, 0, 0, 0),
  (18, .ldc_w 266, 3, 858993459, 0, 0),
  (21, .iand, 1, 0, 0, 0),
  (22, .iadd, 1, 0, 0, 0),
  (23, .istore_n 0, 1, 0, 0, 0),
  (24, .iload_n 0, 1, 0, 0, 0),
  (25, .iload_n 0, 1, 0, 0, 0),
  (26, .iconst 4, 1, 0, 0, 0),
  (27, .iushr, 1, 0, 0, 0),
  (28, .iadd, 1, 0, 0, 0),
  (29, .ldc_w 267, 3, 252645135, 0, 0),
  (32, .iand, 1, 0, 0, 0),
  (33, .istore_n 0, 1, 0, 0, 0),
  (34, .iload_n 0, 1, 0, 0, 0),
  (35, .iload_n 0, 1, 0, 0, 0),
  (36, .bipush 8, 2, 0, 0, 0),
  (38, .iushr, 1, 0, 0, 0),
  (39, .iadd, 1, 0, 0, 0),
  (40, .istore_n 0, 1, 0, 0, 0),
  (41, .iload_n 0, 1, 0, 0, 0),
  (42, .iload_n 0, 1, 0, 0, 0),
  (43, .bipush 16, 2, 0, 0, 0),
  (45, .iushr, 1, 0, 0, 0),
  (46, .iadd, 1, 0, 0, 0),
  (47, .istore_n 0, 1, 0, 0, 0),
  (48, .iload_n 0, 1, 0, 0, 0),
  (49, .bipush 63, 2, 0, 0, 0),
  (51, .iand, 1, 0, 0, 0),
  (52, .ireturn, 1, 0, 0, 0)])
def zm_58 : zM := (⟨"SiphonReport$Sums", "freeColumn", "(I)I"⟩, prog_9_method_4_code, 3, (some .int), 1, 21, 2, 1, [
  (0, .iconst 0, 1, 0, 0, 0),
  (1, .istore_n 2, 1, 0, 0, 0),
  (2, .iload_n 2, 1, 0, 0, 0),
  (3, .bipush 7, 2, 0, 0, 0),
  (5, .if_icmp .ge 31, 3, 0, 0, 0),
  (8, .iload_n 1, 1, 0, 0, 0),
  (9, .iload_n 2, 1, 0, 0, 0),
  (10, .invokestatic 96, 4, 34, 2, 0),
  (13, .ifCond .eq 17, 3, 0, 0, 0),
  (16, .aload_n 0, 1, 0, 0, 0),
  (17, .getfield 26, 3, 9, 2, 0),
  (20, .getfield 68, 4, 7, 1, 0),
  (23, .iload_n 2, 1, 0, 0, 0),
  (24, .iaload, 1, 0, 0, 0),
  (25, .ifCond .ge 5, 3, 0, 0, 0),
  (28, .iload_n 2, 1, 0, 0, 0),
  (29, .ireturn, 1, 0, 0, 0),
  (30, .iinc 2 1, 3, 0, 0, 0),
  (33, .goto (-31), 3, 0, 0, 0),
  (36, .iconst 0, 1, 0, 0, 0),
  (37, .ireturn, 1, 0, 0, 0)])
def zm_59 : zM := (⟨"java/lang/Math", "max", "(JJ)J"⟩, prog_14_method_66_code, 4, (some .long), 0, 0, 0, 2, [
  (0, .lload_n 0, 1, 0, 0, 0),
  (1, .lload_n 2, 1, 0, 0, 0),
  (2, .lcmp, 1, 0, 0, 0),
  (3, .ifCond .lt 7, 3, 0, 0, 0),
  (6, .lload_n 0, 1, 0, 0, 0),
  (7, .goto 4, 3, 0, 0, 0),
  (10, .lload_n 2, 1, 0, 0, 0),
  (11, .lreturn, 1, 0, 0, 0)])
def zm_60 : zM := (⟨"SiphonReport$Sums", "fillWeights", "([IIJ)V"⟩, prog_9_method_5_code, 7, none, 0, 0, 2, 3, [
  (0, .iconst 0, 1, 0, 0, 0),
  (1, .istore 5, 2, 0, 0, 0),
  (3, .iload 5, 2, 0, 0, 0),
  (5, .bipush 7, 2, 0, 0, 0),
  (7, .if_icmp .ge 83, 3, 0, 0, 0),
  (10, .aload_n 0, 1, 0, 0, 0),
  (11, .getfield 26, 3, 9, 2, 0),
  (14, .getfield 68, 4, 7, 1, 0),
  (17, .iload 5, 2, 0, 0, 0),
  (19, .iaload, 1, 0, 0, 0),
  (20, .istore 6, 2, 0, 0, 0),
  (22, .aload_n 1, 1, 0, 0, 0),
  (23, .iload 5, 2, 0, 0, 0),
  (25, .iconst 0, 1, 0, 0, 0),
  (26, .iastore, 1, 0, 0, 0),
  (27, .iload 6, 2, 0, 0, 0),
  (29, .ifCond .lt 55, 3, 0, 0, 0),
  (32, .aload_n 0, 1, 0, 0, 0),
  (33, .getfield 26, 3, 9, 2, 0),
  (36, .getfield 72, 4, 7, 0, 0),
  (39, .iload 6, 2, 0, 0, 0),
  (41, .aaload, 1, 0, 0, 0),
  (42, .iload 5, 2, 0, 0, 0),
  (44, .laload, 1, 0, 0, 0),
  (45, .lconst 0, 1, 0, 0, 0),
  (46, .lcmp, 1, 0, 0, 0),
  (47, .ifCond .eq 37, 3, 0, 0, 0),
  (50, .aload_n 1, 1, 0, 0, 0),
  (51, .iload 5, 2, 0, 0, 0),
  (53, .lload_n 3, 1, 0, 0, 0),
  (54, .lneg, 1, 0, 0, 0),
  (55, .aload_n 0, 1, 0, 0, 0),
  (56, .getfield 26, 3, 9, 2, 0),
  (59, .getfield 72, 4, 7, 0, 0),
  (62, .iload 6, 2, 0, 0, 0),
  (64, .aaload, 1, 0, 0, 0),
  (65, .iload_n 2, 1, 0, 0, 0),
  (66, .laload, 1, 0, 0, 0),
  (67, .lmul, 1, 0, 0, 0),
  (68, .aload_n 0, 1, 0, 0, 0),
  (69, .getfield 26, 3, 9, 2, 0),
  (72, .getfield 72, 4, 7, 0, 0),
  (75, .iload 6, 2, 0, 0, 0),
  (77, .aaload, 1, 0, 0, 0),
  (78, .iload 5, 2, 0, 0, 0),
  (80, .laload, 1, 0, 0, 0),
  (81, .ldiv, 1, 0, 0, 0),
  (82, .l2i, 1, 0, 0, 0),
  (83, .iastore, 1, 0, 0, 0),
  (84, .iinc 5 1, 3, 0, 0, 0),
  (87, .goto (-84), 3, 0, 0, 0),
  (90, .aload_n 1, 1, 0, 0, 0),
  (91, .iload_n 2, 1, 0, 0, 0),
  (92, .lload_n 3, 1, 0, 0, 0),
  (93, .l2i, 1, 0, 0, 0),
  (94, .iastore, 1, 0, 0, 0),
  (95, .return_, 1, 0, 0, 0)])
def zm_61 : zM := (⟨"SiphonReport$Sums", "addIfPositive", "(I)V"⟩, prog_9_method_3_code, 13, none, 2, 51, 2, 1, [
  (0, .aload_n 0, 1, 0, 0, 0),
  (1, .iload_n 1, 1, 0, 0, 0),
  (2, .invokevirtual 65, 3, 58, 2, 9),
  (5, .istore_n 2, 1, 0, 0, 0),
  (6, .lconst 1, 1, 0, 0, 0),
  (7, .lstore_n 3, 1, 0, 0, 0),
  (8, .iconst 0, 1, 0, 0, 0),
  (9, .istore 5, 2, 0, 0, 0),
  (11, .iload 5, 2, 0, 0, 0),
  (13, .bipush 7, 2, 0, 0, 0),
  (15, .if_icmp .ge 132, 3, 0, 0, 0),
  (18, .aload_n 0, 1, 0, 0, 0),
  (19, .getfield 26, 3, 9, 2, 0),
  (22, .getfield 68, 4, 7, 1, 0),
  (25, .iload 5, 2, 0, 0, 0),
  (27, .iaload, 1, 0, 0, 0),
  (28, .istore 6, 2, 0, 0, 0),
  (30, .iload 6, 2, 0, 0, 0),
  (32, .ifCond .lt 109, 3, 0, 0, 0),
  (35, .aload_n 0, 1, 0, 0, 0),
  (36, .getfield 26, 3, 9, 2, 0),
  (39, .getfield 72, 4, 7, 0, 0),
  (42, .iload 6, 2, 0, 0, 0),
  (44, .aaload, 1, 0, 0, 0),
  (45, .iload 5, 2, 0, 0, 0),
  (47, .laload, 1, 0, 0, 0),
  (48, .lstore 7, 2, 0, 0, 0),
  (50, .aload_n 0, 1, 0, 0, 0),
  (51, .getfield 26, 3, 9, 2, 0),
  (54, .getfield 72, 4, 7, 0, 0),
  (57, .iload 6, 2, 0, 0, 0),
  (59, .aaload, 1, 0, 0, 0),
  (60, .iload_n 2, 1, 0, 0, 0),
  (61, .laload, 1, 0, 0, 0),
  (62, .lstore 9, 2, 0, 0, 0),
  (64, .lload 7, 2, 0, 0, 0),
  (66, .lconst 0, 1, 0, 0, 0),
  (67, .lcmp, 1, 0, 0, 0),
  (68, .ifCond .eq 37, 3, 0, 0, 0),
  (71, .lload 9, 2, 0, 0, 0),
  (73, .lconst 0, 1, 0, 0, 0),
  (74, .lcmp, 1, 0, 0, 0),
  (75, .ifCond .eq 30, 3, 0, 0, 0),
  (78, .lload 7, 2, 0, 0, 0),
  (80, .lconst 0, 1, 0, 0, 0),
  (81, .lcmp, 1, 0, 0, 0),
  (82, .ifCond .le 7, 3, 0, 0, 0),
  (85, .iconst 1, 1, 0, 0, 0),
  (86, .goto 4, 3, 0, 0, 0),
  (89, .iconst 0, 1, 0, 0, 0),
  (90, .lload 9, 2, 0, 0, 0),
  (92, .lconst 0, 1, 0, 0, 0),
  (93, .lcmp, 1, 0, 0, 0),
  (94, .ifCond .le 7, 3, 0, 0, 0),
  (97, .iconst 1, 1, 0, 0, 0),
  (98, .goto 4, 3, 0, 0, 0),
  (101, .iconst 0, 1, 0, 0, 0),
  (102, .if_icmp .ne 4, 3, 0, 0, 0),
  (105, .return_, 1, 0, 0, 0),
  (106, .lload 7, 2, 0, 0, 0),
  (108, .invokestatic 76, 3, 44, 1, 0),
  (111, .lconst 1, 1, 0, 0, 0),
  (112, .lload 7, 2, 0, 0, 0),
  (114, .lload 9, 2, 0, 0, 0),
  (116, .invokestatic 82, 4, 45, 2, 0),
  (119, .invokestatic 86, 3, 59, 2, 0),
  (122, .ldiv, 1, 0, 0, 0),
  (123, .lstore 11, 2, 0, 0, 0),
  (125, .lload_n 3, 1, 0, 0, 0),
  (126, .lload 11, 2, 0, 0, 0),
  (128, .lconst 1, 1, 0, 0, 0),
  (129, .lload 11, 2, 0, 0, 0),
  (131, .lload_n 3, 1, 0, 0, 0),
  (132, .invokestatic 82, 4, 45, 2, 0),
  (135, .invokestatic 86, 3, 59, 2, 0),
  (138, .ldiv, 1, 0, 0, 0),
  (139, .lmul, 1, 0, 0, 0),
  (140, .lstore_n 3, 1, 0, 0, 0),
  (141, .iinc 5 1, 3, 0, 0, 0),
  (144, .goto (-133), 3, 0, 0, 0),
  (147, .aload_n 0, 1, 0, 0, 0),
  (148, .getfield 12, 3, 9, 0, 0),
  (151, .getfield 30, 4, 8, 1, 0),
  (154, .bipush 35, 2, 0, 0, 0),
  (156, .if_icmp .ge 29, 3, 0, 0, 0),
  (159, .aload_n 0, 1, 0, 0, 0),
  (160, .aload_n 0, 1, 0, 0, 0),
  (161, .getfield 20, 3, 9, 1, 0),
  (164, .aload_n 0, 1, 0, 0, 0),
  (165, .getfield 12, 3, 9, 0, 0),
  (168, .getfield 30, 4, 8, 1, 0),
  (171, .aaload, 1, 0, 0, 0),
  (172, .iload_n 2, 1, 0, 0, 0),
  (173, .lload_n 3, 1, 0, 0, 0),
  (174, .invokevirtual 89, 3, 60, 4, 9),
  (177, .aload_n 0, 1, 0, 0, 0),
  (178, .getfield 12, 3, 9, 0, 0),
  (181, .iload_n 1, 1, 0, 0, 0),
  (182, .invokevirtual 93, 3, 54, 2, 8),
  (185, .return_, 1, 0, 0, 0)])
def zm_62 : zM := (⟨"SiphonReport$Sums", "fill", "(LSiphonReport$Network;LSiphonReport$Matrix;)V"⟩, prog_9_method_2_code, 5, none, 5, 126, 2, 2, [
  (0, .aload_n 0, 1, 0, 0, 0),
  (1, .getfield 12, 3, 9, 0, 0),
  (4, .iconst 0, 1, 0, 0, 0),
  (5, .putfield 30, 4, 8, 1, 0),
  (8, .aload_n 1, 1, 0, 0, 0),
  (9, .invokevirtual 34, 3, 50, 1, 4),
  (12, .istore_n 3, 1, 0, 0, 0),
  (13, .iconst 1, 1, 0, 0, 0),
  (14, .istore 4, 2, 0, 0, 0),
  (16, .iload 4, 2, 0, 0, 0),
  (18, .bipush 127, 2, 0, 0, 0),
  (20, .if_icmp .gt 63, 3, 0, 0, 0),
  (23, .iload 4, 2, 0, 0, 0),
  (25, .iload_n 3, 1, 0, 0, 0),
  (26, .invokestatic 40, 4, 51, 2, 0),
  (29, .ifCond .eq 48, 3, 0, 0, 0),
  (32, .aload_n 0, 1, 0, 0, 0),
  (33, .getfield 12, 3, 9, 0, 0),
  (36, .iload 4, 2, 0, 0, 0),
  (38, .invokevirtual 44, 3, 52, 2, 8),
  (41, .ifCond .ne 36, 3, 0, 0, 0),
  (44, .aload_n 0, 1, 0, 0, 0),
  (45, .getfield 26, 3, 9, 2, 0),
  (48, .aload_n 2, 1, 0, 0, 0),
  (49, .iload 4, 2, 0, 0, 0),
  (51, .invokevirtual 48, 3, 56, 3, 7),
  (54, .aload_n 0, 1, 0, 0, 0),
  (55, .getfield 26, 3, 9, 2, 0),
  (58, .invokevirtual 52, 3, 48, 1, 7),
  (61, .iload 4, 2, 0, 0, 0),
  (63, .invokestatic 55, 3, 57, 1, 0),
  (66, .iconst 1, 1, 0, 0, 0),
  (67, .isub, 1, 0, 0, 0),
  (68, .if_icmp .ne 9, 3, 0, 0, 0),
  (71, .aload_n 0, 1, 0, 0, 0),
  (72, .iload 4, 2, 0, 0, 0),
  (74, .invokevirtual 61, 3, 61, 2, 9),
  (77, .iinc 4 1, 3, 0, 0, 0),
  (80, .goto (-64), 3, 0, 0, 0),
  (83, .return_, 1, 0, 0, 0)])
def zm_63 : zM := (⟨"SiphonReport", "read", "()I"⟩, prog_1_method_4_code, 4, (some .int), 6, 150, 2, 0, [
  (0, .aload_n 0, 1, 0, 0, 0),
  (1, .getfield 19, 3, 0, 1, 0),
  (4, .aload_n 0, 1, 0, 0, 0),
  (5, .getfield 12, 3, 0, 0, 0),
  (8, .invokevirtual 76, 3, 24, 2, 2),
  (11, .istore_n 1, 1, 0, 0, 0),
  (12, .aload_n 0, 1, 0, 0, 0),
  (13, .getfield 19, 3, 0, 1, 0),
  (16, .invokevirtual 80, 3, 25, 1, 2),
  (19, .ifCond .ne 7, 3, 0, 0, 0),
  (22, .iconst (-1), 1, 0, 0, 0),
  (23, .iload_n 1, 1, 0, 0, 0),
  (24, .isub, 1, 0, 0, 0),
  (25, .ireturn, 1, 0, 0, 0),
  (26, .aload_n 0, 1, 0, 0, 0),
  (27, .getfield 26, 3, 0, 2, 0),
  (30, .aload_n 0, 1, 0, 0, 0),
  (31, .getfield 65, 3, 0, 8, 0),
  (34, .aload_n 0, 1, 0, 0, 0),
  (35, .getfield 12, 3, 0, 0, 0),
  (38, .invokevirtual 84, 3, 33, 3, 3),
  (41, .istore_n 2, 1, 0, 0, 0),
  (42, .iload_n 2, 1, 0, 0, 0),
  (43, .ifCond .ge 5, 3, 0, 0, 0),
  (46, .iload_n 2, 1, 0, 0, 0),
  (47, .ireturn, 1, 0, 0, 0),
  (48, .aload_n 0, 1, 0, 0, 0),
  (49, .getfield 61, 3, 0, 7, 0),
  (52, .astore_n 3, 1, 0, 0, 0),
  (53, .aload_n 0, 1, 0, 0, 0),
  (54, .aload_n 0, 1, 0, 0, 0),
  (55, .getfield 65, 3, 0, 8, 0),
  (58, .putfield 61, 3, 0, 7, 0),
  (61, .aload_n 0, 1, 0, 0, 0),
  (62, .aload_n 3, 1, 0, 0, 0),
  (63, .putfield 65, 3, 0, 8, 0),
  (66, .aload_n 0, 1, 0, 0, 0),
  (67, .getfield 33, 3, 0, 3, 0),
  (70, .aload_n 0, 1, 0, 0, 0),
  (71, .getfield 61, 3, 0, 7, 0),
  (74, .invokevirtual 88, 3, 41, 2, 5),
  (77, .aload_n 0, 1, 0, 0, 0),
  (78, .getfield 40, 3, 0, 4, 0),
  (81, .aload_n 0, 1, 0, 0, 0),
  (82, .getfield 61, 3, 0, 7, 0),
  (85, .aload_n 0, 1, 0, 0, 0),
  (86, .getfield 33, 3, 0, 3, 0),
  (89, .invokevirtual 91, 3, 49, 3, 6),
  (92, .aload_n 0, 1, 0, 0, 0),
  (93, .invokevirtual 94, 3, 55, 1, 0),
  (96, .aload_n 0, 1, 0, 0, 0),
  (97, .getfield 54, 3, 0, 6, 0),
  (100, .aload_n 0, 1, 0, 0, 0),
  (101, .getfield 61, 3, 0, 7, 0),
  (104, .aload_n 0, 1, 0, 0, 0),
  (105, .getfield 40, 3, 0, 4, 0),
  (108, .getfield 97, 4, 6, 0, 0),
  (111, .invokevirtual 101, 3, 62, 3, 9),
  (114, .aload_n 0, 1, 0, 0, 0),
  (115, .getfield 61, 3, 0, 7, 0),
  (118, .getfield 104, 4, 4, 5, 0),
  (121, .ireturn, 1, 0, 0, 0)])
def zm_64 : zM := (⟨"SiphonReportModel", "after", "(II)I"⟩, prog_12_method_4_code, 4, (some .int), 0, 0, 0, 2, [
  (0, .iload_n 0, 1, 0, 0, 0),
  (1, .bipush 7, 2, 0, 0, 0),
  (3, .iand, 1, 0, 0, 0),
  (4, .istore_n 2, 1, 0, 0, 0),
  (5, .iload_n 2, 1, 0, 0, 0),
  (6, .iconst 2, 1, 0, 0, 0),
  (7, .if_icmp .eq 8, 3, 0, 0, 0),
  (10, .iload_n 2, 1, 0, 0, 0),
  (11, .iconst 3, 1, 0, 0, 0),
  (12, .if_icmp .ne 7, 3, 0, 0, 0),
  (15, .iconst 1, 1, 0, 0, 0),
  (16, .goto 4, 3, 0, 0, 0),
  (19, .iconst 0, 1, 0, 0, 0),
  (20, .istore_n 3, 1, 0, 0, 0),
  (21, .iload_n 1, 1, 0, 0, 0),
  (22, .bipush 65, 2, 0, 0, 0),
  (24, .if_icmp .lt 33, 3, 0, 0, 0),
  (27, .iload_n 1, 1, 0, 0, 0),
  (28, .bipush 71, 2, 0, 0, 0),
  (30, .if_icmp .gt 27, 3, 0, 0, 0),
  (33, .iload_n 2, 1, 0, 0, 0),
  (34, .ifCond .eq 13, 3, 0, 0, 0),
  (37, .iload_n 2, 1, 0, 0, 0),
  (38, .iconst 1, 1, 0, 0, 0),
  (39, .if_icmp .eq 8, 3, 0, 0, 0),
  (42, .iload_n 2, 1, 0, 0, 0),
  (43, .iconst 4, 1, 0, 0, 0),
  (44, .if_icmp .ne 11, 3, 0, 0, 0),
  (47, .iload_n 0, 1, 0, 0, 0),
  (48, .iload_n 2, 1, 0, 0, 0),
  (49, .isub, 1, 0, 0, 0),
  (50, .iconst 2, 1, 0, 0, 0),
  (51, .iadd, 1, 0, 0, 0),
  (52, .goto 4, 3, 0, 0, 0),
  (55, .iconst (-1), 1, 0, 0, 0),
  (56, .ireturn, 1, 0, 0, 0),
  (57, .iload_n 1, 1, 0, 0, 0),
  (58, .bipush 49, 2, 0, 0, 0),
  (60, .if_icmp .lt 28, 3, 0, 0, 0),
  (63, .iload_n 1, 1, 0, 0, 0),
  (64, .bipush 57, 2, 0, 0, 0),
  (66, .if_icmp .gt 22, 3, 0, 0, 0),
  (69, .iload_n 2, 1, 0, 0, 0),
  (70, .ifCond .eq 8, 3, 0, 0, 0),
  (73, .iload_n 2, 1, 0, 0, 0),
  (74, .iconst 4, 1, 0, 0, 0),
  (75, .if_icmp .ne 11, 3, 0, 0, 0),
  (78, .iload_n 0, 1, 0, 0, 0),
  (79, .iload_n 2, 1, 0, 0, 0),
  (80, .isub, 1, 0, 0, 0),
  (81, .iconst 1, 1, 0, 0, 0),
  (82, .iadd, 1, 0, 0, 0),
  (83, .goto 4, 3, 0, 0, 0),
  (86, .iconst (-1), 1, 0, 0, 0),
  (87, .ireturn, 1, 0, 0, 0),
  (88, .iload_n 1, 1, 0, 0, 0),
  (89, .bipush 48, 2, 0, 0, 0),
  (91, .if_icmp .ne 15, 3, 0, 0, 0),
  (94, .iload_n 2, 1, 0, 0, 0),
  (95, .ifCond .ne 9, 3, 0, 0, 0),
  (98, .iload_n 0, 1, 0, 0, 0),
  (99, .iconst 3, 1, 0, 0, 0),
  (100, .iadd, 1, 0, 0, 0),
  (101, .goto 4, 3, 0, 0, 0),
  (104, .iconst (-1), 1, 0, 0, 0),
  (105, .ireturn, 1, 0, 0, 0),
  (106, .iload_n 1, 1, 0, 0, 0),
  (107, .bipush 43, 2, 0, 0, 0),
  (109, .if_icmp .ne 16, 3, 0, 0, 0),
  (112, .iload_n 2, 1, 0, 0, 0),
  (113, .iconst 2, 1, 0, 0, 0),
  (114, .if_icmp .ne 9, 3, 0, 0, 0),
  (117, .iload_n 0, 1, 0, 0, 0),
  (118, .iconst 2, 1, 0, 0, 0),
  (119, .iadd, 1, 0, 0, 0),
  (120, .goto 4, 3, 0, 0, 0),
  (123, .iconst (-1), 1, 0, 0, 0),
  (124, .ireturn, 1, 0, 0, 0),
  (125, .iload_n 1, 1, 0, 0, 0),
  (126, .bipush 62, 2, 0, 0, 0),
  (128, .if_icmp .eq 9, 3, 0, 0, 0),
  (131, .iload_n 1, 1, 0, 0, 0),
  (132, .bipush 61, 2, 0, 0, 0),
  (134, .if_icmp .ne 20, 3, 0, 0, 0),
  (137, .iload_n 3, 1, 0, 0, 0),
  (138, .ifCond .eq 14, 3, 0, 0, 0),
  (141, .iload_n 0, 1, 0, 0, 0),
  (142, .bipush 8, 2, 0, 0, 0),
  (144, .if_icmp .ge 8, 3, 0, 0, 0),
  (147, .bipush 8, 2, 0, 0, 0),
  (149, .goto 4, 3, 0, 0, 0),
  (152, .iconst (-1), 1, 0, 0, 0),
  (153, .ireturn, 1, 0, 0, 0),
  (154, .iload_n 1, 1, 0, 0, 0),
  (155, .bipush 59, 2, 0, 0, 0),
  (157, .if_icmp .ne 17, 3, 0, 0, 0),
  (160, .iload_n 3, 1, 0, 0, 0),
  (161, .ifCond .eq 13, 3, 0, 0, 0),
  (164, .iload_n 0, 1, 0, 0, 0),
  (165, .bipush 8, 2, 0, 0, 0),
  (167, .if_icmp .lt 7, 3, 0, 0, 0),
  (170, .iconst 0, 1, 0, 0, 0),
  (171, .goto 4, 3, 0, 0, 0),
  (174, .iconst (-1), 1, 0, 0, 0),
  (175, .ireturn, 1, 0, 0, 0)])
def zm_65 : zM := (⟨"SiphonReportModel", "fault", "()I"⟩, prog_12_method_5_code, 4, (some .int), 1, 23, 2, 0, [
  (0, .iconst 0, 1, 0, 0, 0),
  (1, .istore_n 1, 1, 0, 0, 0),
  (2, .iconst 1, 1, 0, 0, 0),
  (3, .istore_n 2, 1, 0, 0, 0),
  (4, .iconst 0, 1, 0, 0, 0),
  (5, .istore_n 3, 1, 0, 0, 0),
  (6, .iload_n 3, 1, 0, 0, 0),
  (7, .aload_n 0, 1, 0, 0, 0),
  (8, .getfield 55, 3, 10, 1, 0),
  (11, .if_icmp .ge 39, 3, 0, 0, 0),
  (14, .aload_n 0, 1, 0, 0, 0),
  (15, .getfield 7, 3, 10, 0, 0),
  (18, .iload_n 3, 1, 0, 0, 0),
  (19, .caload, 1, 0, 0, 0),
  (20, .bipush 32, 2, 0, 0, 0),
  (22, .if_icmp .eq 22, 3, 0, 0, 0),
  (25, .iconst 0, 1, 0, 0, 0),
  (26, .istore_n 2, 1, 0, 0, 0),
  (27, .iload_n 1, 1, 0, 0, 0),
  (28, .aload_n 0, 1, 0, 0, 0),
  (29, .getfield 7, 3, 10, 0, 0),
  (32, .iload_n 3, 1, 0, 0, 0),
  (33, .caload, 1, 0, 0, 0),
  (34, .invokestatic 59, 3, 64, 2, 0),
  (37, .istore_n 1, 1, 0, 0, 0),
  (38, .iload_n 1, 1, 0, 0, 0),
  (39, .ifCond .ge 5, 3, 0, 0, 0),
  (42, .iload_n 3, 1, 0, 0, 0),
  (43, .ireturn, 1, 0, 0, 0),
  (44, .iinc 3 1, 3, 0, 0, 0),
  (47, .goto (-41), 3, 0, 0, 0),
  (50, .iload_n 2, 1, 0, 0, 0),
  (51, .ifCond .ne 15, 3, 0, 0, 0),
  (54, .iload_n 1, 1, 0, 0, 0),
  (55, .bipush 10, 2, 0, 0, 0),
  (57, .if_icmp .eq 9, 3, 0, 0, 0),
  (60, .iload_n 1, 1, 0, 0, 0),
  (61, .bipush 11, 2, 0, 0, 0),
  (63, .if_icmp .ne 7, 3, 0, 0, 0),
  (66, .iconst (-1), 1, 0, 0, 0),
  (67, .goto 7, 3, 0, 0, 0),
  (70, .aload_n 0, 1, 0, 0, 0),
  (71, .getfield 55, 3, 10, 1, 0),
  (74, .ireturn, 1, 0, 0, 0)])
def zm_66 : zM := (⟨"SiphonReportModel", "fresh", "()V"⟩, prog_12_method_6_code, 2, none, 0, 0, 2, 0, [
  (0, .iconst 0, 1, 0, 0, 0),
  (1, .istore_n 1, 1, 0, 0, 0),
  (2, .iload_n 1, 1, 0, 0, 0),
  (3, .bipush 7, 2, 0, 0, 0),
  (5, .if_icmp .ge 23, 3, 0, 0, 0),
  (8, .aload_n 0, 1, 0, 0, 0),
  (9, .getfield 21, 3, 10, 6, 0),
  (12, .iload_n 1, 1, 0, 0, 0),
  (13, .iconst 0, 1, 0, 0, 0),
  (14, .iastore, 1, 0, 0, 0),
  (15, .aload_n 0, 1, 0, 0, 0),
  (16, .getfield 24, 3, 10, 7, 0),
  (19, .iload_n 1, 1, 0, 0, 0),
  (20, .iconst 0, 1, 0, 0, 0),
  (21, .iastore, 1, 0, 0, 0),
  (22, .iinc 1 1, 3, 0, 0, 0),
  (25, .goto (-23), 3, 0, 0, 0),
  (28, .return_, 1, 0, 0, 0)])
def zm_67 : zM := (⟨"SiphonReportModel", "complexOf", "(Z)I"⟩, prog_12_method_7_code, 5, (some .int), 0, 0, 2, 1, [
  (0, .iconst 0, 1, 0, 0, 0),
  (1, .istore_n 2, 1, 0, 0, 0),
  (2, .iload_n 2, 1, 0, 0, 0),
  (3, .aload_n 0, 1, 0, 0, 0),
  (4, .getfield 63, 3, 10, 2, 0),
  (7, .if_icmp .ge 79, 3, 0, 0, 0),
  (10, .iconst 1, 1, 0, 0, 0),
  (11, .istore_n 3, 1, 0, 0, 0),
  (12, .iconst 0, 1, 0, 0, 0),
  (13, .istore 4, 2, 0, 0, 0),
  (15, .iload 4, 2, 0, 0, 0),
  (17, .bipush 7, 2, 0, 0, 0),
  (19, .if_icmp .ge 55, 3, 0, 0, 0),
  (22, .iload_n 3, 1, 0, 0, 0),
  (23, .ifCond .eq 43, 3, 0, 0, 0),
  (26, .aload_n 0, 1, 0, 0, 0),
  (27, .getfield 13, 3, 10, 3, 0),
  (30, .bipush 7, 2, 0, 0, 0),
  (32, .iload_n 2, 1, 0, 0, 0),
  (33, .imul, 1, 0, 0, 0),
  (34, .iload 4, 2, 0, 0, 0),
  (36, .iadd, 1, 0, 0, 0),
  (37, .iaload, 1, 0, 0, 0),
  (38, .iload_n 1, 1, 0, 0, 0),
  (39, .ifCond .eq 13, 3, 0, 0, 0),
  (42, .aload_n 0, 1, 0, 0, 0),
  (43, .getfield 21, 3, 10, 6, 0),
  (46, .iload 4, 2, 0, 0, 0),
  (48, .iaload, 1, 0, 0, 0),
  (49, .goto 10, 3, 0, 0, 0),
  (52, .aload_n 0, 1, 0, 0, 0),
  (53, .getfield 24, 3, 10, 7, 0),
  (56, .iload 4, 2, 0, 0, 0),
  (58, .iaload, 1, 0, 0, 0),
  (59, .if_icmp .ne 7, 3, 0, 0, 0),
  (62, .iconst 1, 1, 0, 0, 0),
  (63, .goto 4, 3, 0, 0, 0),
  (66, .iconst 0, 1, 0, 0, 0),
  (67, .istore_n 3, 1, 0, 0, 0),
  (68, .iinc 4 1, 3, 0, 0, 0),
  (71, .goto (-56), 3, 0, 0, 0),
  (74, .iload_n 3, 1, 0, 0, 0),
  (75, .ifCond .eq 5, 3, 0, 0, 0),
  (78, .iload_n 2, 1, 0, 0, 0),
  (79, .ireturn, 1, 0, 0, 0),
  (80, .iinc 2 1, 3, 0, 0, 0),
  (83, .goto (-81), 3, 0, 0, 0),
  (86, .iconst 0, 1, 0, 0, 0),
  (87, .istore_n 2, 1, 0, 0, 0),
  (88, .iload_n 2, 1, 0, 0, 0),
  (89, .bipush 7, 2, 0, 0, 0),
  (91, .if_icmp .ge 42, 3, 0, 0, 0),
  (94, .aload_n 0, 1, 0, 0, 0),
  (95, .getfield 13, 3, 10, 3, 0),
  (98, .bipush 7, 2, 0, 0, 0),
  (100, .aload_n 0, 1, 0, 0, 0),
  (101, .getfield 63, 3, 10, 2, 0),
  (104, .imul, 1, 0, 0, 0),
  (105, .iload_n 2, 1, 0, 0, 0),
  (106, .iadd, 1, 0, 0, 0),
  (107, .iload_n 1, 1, 0, 0, 0),
  (108, .ifCond .eq 12, 3, 0, 0, 0),
  (111, .aload_n 0, 1, 0, 0, 0),
  (112, .getfield 21, 3, 10, 6, 0),
  (115, .iload_n 2, 1, 0, 0, 0),
  (116, .iaload, 1, 0, 0, 0),
  (117, .goto 9, 3, 0, 0, 0),
  (120, .aload_n 0, 1, 0, 0, 0),
  (121, .getfield 24, 3, 10, 7, 0),
  (124, .iload_n 2, 1, 0, 0, 0),
  (125, .iaload, 1, 0, 0, 0),
  (126, .iastore, 1, 0, 0, 0),
  (127, .iinc 2 1, 3, 0, 0, 0),
  (130, .goto (-42), 3, 0, 0, 0),
  (133, .aload_n 0, 1, 0, 0, 0),
  (134, .dup, 1, 0, 0, 0),
  (135, .getfield 63, 3, 10, 2, 0),
  (138, .iconst 1, 1, 0, 0, 0),
  (139, .iadd, 1, 0, 0, 0),
  (140, .putfield 63, 3, 10, 2, 0),
  (143, .aload_n 0, 1, 0, 0, 0),
  (144, .getfield 63, 3, 10, 2, 0),
  (147, .iconst 1, 1, 0, 0, 0),
  (148, .isub, 1, 0, 0, 0),
  (149, .ireturn, 1, 0, 0, 0)])
def zm_68 : zM := (⟨"SiphonReportModel", "give", "(II)V"⟩, prog_12_method_8_code, 3, none, 0, 0, 2, 2, [
  (0, .aload_n 0, 1, 0, 0, 0),
  (1, .getfield 17, 3, 10, 4, 0),
  (4, .bipush 11, 2, 0, 0, 0),
  (6, .iload_n 1, 1, 0, 0, 0),
  (7, .imul, 1, 0, 0, 0),
  (8, .iload_n 2, 1, 0, 0, 0),
  (9, .iadd, 1, 0, 0, 0),
  (10, .baload, 1, 0, 0, 0),
  (11, .ifCond .ne 25, 3, 0, 0, 0),
  (14, .aload_n 0, 1, 0, 0, 0),
  (15, .getfield 17, 3, 10, 4, 0),
  (18, .bipush 11, 2, 0, 0, 0),
  (20, .iload_n 1, 1, 0, 0, 0),
  (21, .imul, 1, 0, 0, 0),
  (22, .iload_n 2, 1, 0, 0, 0),
  (23, .iadd, 1, 0, 0, 0),
  (24, .iconst 1, 1, 0, 0, 0),
  (25, .bastore, 1, 0, 0, 0),
  (26, .aload_n 0, 1, 0, 0, 0),
  (27, .dup, 1, 0, 0, 0),
  (28, .getfield 66, 3, 10, 5, 0),
  (31, .iconst 1, 1, 0, 0, 0),
  (32, .iadd, 1, 0, 0, 0),
  (33, .putfield 66, 3, 10, 5, 0),
  (36, .return_, 1, 0, 0, 0)])
def zm_69 : zM := (⟨"SiphonReportModel", "line", "(Z)I"⟩, prog_12_method_9_code, 6, (some .int), 1, 24, 2, 1, [
  (0, .iconst 0, 1, 0, 0, 0),
  (1, .istore_n 2, 1, 0, 0, 0),
  (2, .iconst 1, 1, 0, 0, 0),
  (3, .istore_n 3, 1, 0, 0, 0),
  (4, .iconst 0, 1, 0, 0, 0),
  (5, .istore 4, 2, 0, 0, 0),
  (7, .iload 4, 2, 0, 0, 0),
  (9, .bipush 7, 2, 0, 0, 0),
  (11, .if_icmp .ge 68, 3, 0, 0, 0),
  (14, .iload_n 2, 1, 0, 0, 0),
  (15, .ifCond .ne 25, 3, 0, 0, 0),
  (18, .aload_n 0, 1, 0, 0, 0),
  (19, .getfield 21, 3, 10, 6, 0),
  (22, .iload 4, 2, 0, 0, 0),
  (24, .iaload, 1, 0, 0, 0),
  (25, .iconst 4, 1, 0, 0, 0),
  (26, .if_icmp .gt 14, 3, 0, 0, 0),
  (29, .aload_n 0, 1, 0, 0, 0),
  (30, .getfield 24, 3, 10, 7, 0),
  (33, .iload 4, 2, 0, 0, 0),
  (35, .iaload, 1, 0, 0, 0),
  (36, .iconst 4, 1, 0, 0, 0),
  (37, .if_icmp .le 7, 3, 0, 0, 0),
  (40, .iconst 1, 1, 0, 0, 0),
  (41, .goto 4, 3, 0, 0, 0),
  (44, .iconst 0, 1, 0, 0, 0),
  (45, .istore_n 2, 1, 0, 0, 0),
  (46, .iload_n 3, 1, 0, 0, 0),
  (47, .ifCond .eq 24, 3, 0, 0, 0),
  (50, .aload_n 0, 1, 0, 0, 0),
  (51, .getfield 21, 3, 10, 6, 0),
  (54, .iload 4, 2, 0, 0, 0),
  (56, .iaload, 1, 0, 0, 0),
  (57, .aload_n 0, 1, 0, 0, 0),
  (58, .getfield 24, 3, 10, 7, 0),
  (61, .iload 4, 2, 0, 0, 0),
  (63, .iaload, 1, 0, 0, 0),
  (64, .if_icmp .ne 7, 3, 0, 0, 0),
  (67, .iconst 1, 1, 0, 0, 0),
  (68, .goto 4, 3, 0, 0, 0),
  (71, .iconst 0, 1, 0, 0, 0),
  (72, .istore_n 3, 1, 0, 0, 0),
  (73, .iinc 4 1, 3, 0, 0, 0),
  (76, .goto (-69), 3, 0, 0, 0),
  (79, .iload_n 2, 1, 0, 0, 0),
  (80, .ifCond .eq 7, 3, 0, 0, 0),
  (83, .sipush (-200), 3, 0, 0, 0),
  (86, .ireturn, 1, 0, 0, 0),
  (87, .iload_n 3, 1, 0, 0, 0),
  (88, .ifCond .eq 7, 3, 0, 0, 0),
  (91, .sipush (-201), 3, 0, 0, 0),
  (94, .ireturn, 1, 0, 0, 0),
  (95, .aload_n 0, 1, 0, 0, 0),
  (96, .iconst 1, 1, 0, 0, 0),
  (97, .invokevirtual 69, 3, 67, 2, 10),
  (100, .istore 4, 2, 0, 0, 0),
  (102, .aload_n 0, 1, 0, 0, 0),
  (103, .iconst 0, 1, 0, 0, 0),
  (104, .invokevirtual 69, 3, 67, 2, 10),
  (107, .istore 5, 2, 0, 0, 0),
  (109, .aload_n 0, 1, 0, 0, 0),
  (110, .getfield 63, 3, 10, 2, 0),
  (113, .bipush 9, 2, 0, 0, 0),
  (115, .if_icmp .le 7, 3, 0, 0, 0),
  (118, .sipush (-202), 3, 0, 0, 0),
  (121, .ireturn, 1, 0, 0, 0),
  (122, .aload_n 0, 1, 0, 0, 0),
  (123, .iload 4, 2, 0, 0, 0),
  (125, .iload 5, 2, 0, 0, 0),
  (127, .invokevirtual 73, 3, 68, 3, 10),
  (130, .iload_n 1, 1, 0, 0, 0),
  (131, .ifCond .eq 11, 3, 0, 0, 0),
  (134, .aload_n 0, 1, 0, 0, 0),
  (135, .iload 5, 2, 0, 0, 0),
  (137, .iload 4, 2, 0, 0, 0),
  (139, .invokevirtual 73, 3, 68, 3, 10),
  (142, .aload_n 0, 1, 0, 0, 0),
  (143, .getfield 66, 3, 10, 5, 0),
  (146, .bipush 10, 2, 0, 0, 0),
  (148, .if_icmp .le 9, 3, 0, 0, 0),
  (151, .sipush (-203), 3, 0, 0, 0),
  (154, .goto 4, 3, 0, 0, 0),
  (157, .iconst 0, 1, 0, 0, 0),
  (158, .ireturn, 1, 0, 0, 0)])
def zm_70 : zM := (⟨"SiphonReportModel", "lines", "()I"⟩, prog_12_method_10_code, 7, (some .int), 2, 49, 2, 0, [
  (0, .iconst 0, 1, 0, 0, 0),
  (1, .istore_n 1, 1, 0, 0, 0),
  (2, .iconst 0, 1, 0, 0, 0),
  (3, .istore_n 2, 1, 0, 0, 0),
  (4, .iconst 1, 1, 0, 0, 0),
  (5, .istore_n 3, 1, 0, 0, 0),
  (6, .iconst 0, 1, 0, 0, 0),
  (7, .istore 4, 2, 0, 0, 0),
  (9, .iload 4, 2, 0, 0, 0),
  (11, .aload_n 0, 1, 0, 0, 0),
  (12, .getfield 55, 3, 10, 1, 0),
  (15, .if_icmp .gt 169, 3, 0, 0, 0),
  (18, .iload 4, 2, 0, 0, 0),
  (20, .aload_n 0, 1, 0, 0, 0),
  (21, .getfield 55, 3, 10, 1, 0),
  (24, .if_icmp .ge 13, 3, 0, 0, 0),
  (27, .aload_n 0, 1, 0, 0, 0),
  (28, .getfield 7, 3, 10, 0, 0),
  (31, .iload 4, 2, 0, 0, 0),
  (33, .caload, 1, 0, 0, 0),
  (34, .goto 5, 3, 0, 0, 0),
  (37, .bipush 59, 2, 0, 0, 0),
  (39, .istore 5, 2, 0, 0, 0),
  (41, .iload 5, 2, 0, 0, 0),
  (43, .bipush 49, 2, 0, 0, 0),
  (45, .if_icmp .lt 19, 3, 0, 0, 0),
  (48, .iload 5, 2, 0, 0, 0),
  (50, .bipush 57, 2, 0, 0, 0),
  (52, .if_icmp .gt 12, 3, 0, 0, 0),
  (55, .iload 5, 2, 0, 0, 0),
  (57, .bipush 48, 2, 0, 0, 0),
  (59, .isub, 1, 0, 0, 0),
  (60, .istore_n 3, 1, 0, 0, 0),
  (61, .goto 117, 3, 0, 0, 0),
  (64, .iload 5, 2, 0, 0, 0),
  (66, .bipush 65, 2, 0, 0, 0),
  (68, .if_icmp .lt 50, 3, 0, 0, 0),
  (71, .iload 5, 2, 0, 0, 0),
  (73, .bipush 71, 2, 0, 0, 0),
  (75, .if_icmp .gt 43, 3, 0, 0, 0),
  (78, .iload_n 1, 1, 0, 0, 0),
  (79, .ifCond .eq 20, 3, 0, 0, 0),
  (82, .aload_n 0, 1, 0, 0, 0),
  (83, .getfield 24, 3, 10, 7, 0),
  (86, .iload 5, 2, 0, 0, 0),
  (88, .bipush 65, 2, 0, 0, 0),
  (90, .isub, 1, 0, 0, 0),
  (91, .dup2, 1, 0, 0, 0),
  (92, .iaload, 1, 0, 0, 0),
  (93, .iload_n 3, 1, 0, 0, 0),
  (94, .iadd, 1, 0, 0, 0),
  (95, .iastore, 1, 0, 0, 0),
  (96, .goto 17, 3, 0, 0, 0),
  (99, .aload_n 0, 1, 0, 0, 0),
  (100, .getfield 21, 3, 10, 6, 0),
  (103, .iload 5, 2, 0, 0, 0),
  (105, .bipush 65, 2, 0, 0, 0),
  (107, .isub, 1, 0, 0, 0),
  (108, .dup2, 1, 0, 0, 0),
  (109, .iaload, 1, 0, 0, 0),
  (110, .iload_n 3, 1, 0, 0, 0),
  (111, .iadd, 1, 0, 0, 0),
  (112, .iastore, 1, 0, 0, 0),
  (113, .iconst 1, 1, 0, 0, 0),
  (114, .istore_n 3, 1, 0, 0, 0),
  (115, .goto 63, 3, 0, 0, 0),
  (118, .iload 5, 2, 0, 0, 0),
  (120, .bipush 62, 2, 0, 0, 0),
  (122, .if_icmp .eq 10, 3, 0, 0, 0),
  (125, .iload 5, 2, 0, 0, 0),
  (127, .bipush 61, 2, 0, 0, 0),
  (129, .if_icmp .ne 21, 3, 0, 0, 0),
  (132, .iconst 1, 1, 0, 0, 0),
  (133, .istore_n 1, 1, 0, 0, 0),
  (134, .iload 5, 2, 0, 0, 0),
  (136, .bipush 61, 2, 0, 0, 0),
  (138, .if_icmp .ne 7, 3, 0, 0, 0),
  (141, .iconst 1, 1, 0, 0, 0),
  (142, .goto 4, 3, 0, 0, 0),
  (145, .iconst 0, 1, 0, 0, 0),
  (146, .istore_n 2, 1, 0, 0, 0),
  (147, .goto 31, 3, 0, 0, 0),
  (150, .iload 5, 2, 0, 0, 0),
  (152, .bipush 59, 2, 0, 0, 0),
  (154, .if_icmp .ne 24, 3, 0, 0, 0),
  (157, .aload_n 0, 1, 0, 0, 0),
  (158, .iload_n 2, 1, 0, 0, 0),
  (159, .invokevirtual 77, 3, 69, 2, 10),
  (162, .istore 6, 2, 0, 0, 0),
  (164, .iload 6, 2, 0, 0, 0),
  (166, .ifCond .eq 6, 3, 0, 0, 0),
  (169, .iload 6, 2, 0, 0, 0),
  (171, .ireturn, 1, 0, 0, 0),
  (172, .aload_n 0, 1, 0, 0, 0),
  (173, .invokevirtual 80, 3, 66, 1, 10),
  (176, .iconst 0, 1, 0, 0, 0),
  (177, .istore_n 1, 1, 0, 0, 0),
  (178, .iinc 4 1, 3, 0, 0, 0),
  (181, .goto (-172), 3, 0, 0, 0),
  (184, .iconst 0, 1, 0, 0, 0),
  (185, .ireturn, 1, 0, 0, 0)])
def zm_71 : zM := (⟨"SiphonReportModel", "labels", "()V"⟩, prog_12_method_13_code, 4, none, 0, 0, 2, 0, [
  (0, .iconst 0, 1, 0, 0, 0),
  (1, .istore_n 1, 1, 0, 0, 0),
  (2, .iload_n 1, 1, 0, 0, 0),
  (3, .bipush 9, 2, 0, 0, 0),
  (5, .if_icmp .ge 16, 3, 0, 0, 0),
  (8, .aload_n 0, 1, 0, 0, 0),
  (9, .getfield 36, 3, 10, 13, 0),
  (12, .iload_n 1, 1, 0, 0, 0),
  (13, .iload_n 1, 1, 0, 0, 0),
  (14, .iastore, 1, 0, 0, 0),
  (15, .iinc 1 1, 3, 0, 0, 0),
  (18, .goto (-16), 3, 0, 0, 0),
  (21, .iconst 0, 1, 0, 0, 0),
  (22, .istore_n 1, 1, 0, 0, 0),
  (23, .iload_n 1, 1, 0, 0, 0),
  (24, .bipush 9, 2, 0, 0, 0),
  (26, .if_icmp .ge 105, 3, 0, 0, 0),
  (29, .iconst 0, 1, 0, 0, 0),
  (30, .istore_n 2, 1, 0, 0, 0),
  (31, .iload_n 2, 1, 0, 0, 0),
  (32, .aload_n 0, 1, 0, 0, 0),
  (33, .getfield 96, 3, 10, 8, 0),
  (36, .if_icmp .ge 89, 3, 0, 0, 0),
  (39, .iconst 0, 1, 0, 0, 0),
  (40, .istore_n 3, 1, 0, 0, 0),
  (41, .iload_n 3, 1, 0, 0, 0),
  (42, .aload_n 0, 1, 0, 0, 0),
  (43, .getfield 96, 3, 10, 8, 0),
  (46, .if_icmp .ge 73, 3, 0, 0, 0),
  (49, .aload_n 0, 1, 0, 0, 0),
  (50, .getfield 30, 3, 10, 11, 0),
  (53, .bipush 9, 2, 0, 0, 0),
  (55, .iload_n 2, 1, 0, 0, 0),
  (56, .imul, 1, 0, 0, 0),
  (57, .iload_n 3, 1, 0, 0, 0),
  (58, .iadd, 1, 0, 0, 0),
  (59, .baload, 1, 0, 0, 0),
  (60, .ifCond .ne 17, 3, 0, 0, 0),
  (63, .aload_n 0, 1, 0, 0, 0),
  (64, .getfield 30, 3, 10, 11, 0),
  (67, .bipush 9, 2, 0, 0, 0),
  (69, .iload_n 3, 1, 0, 0, 0),
  (70, .imul, 1, 0, 0, 0),
  (71, .iload_n 2, 1, 0, 0, 0),
  (72, .iadd, 1, 0, 0, 0),
  (73, .baload, 1, 0, 0, 0),
  (74, .ifCond .eq 39, 3, 0, 0, 0),
  (77, .aload_n 0, 1, 0, 0, 0),
  (78, .getfield 36, 3, 10, 13, 0),
  (81, .iload_n 2, 1, 0, 0, 0),
  (82, .aload_n 0, 1, 0, 0, 0),
  (83, .getfield 36, 3, 10, 13, 0),
  (86, .iload_n 2, 1, 0, 0, 0),
  (87, .iaload, 1, 0, 0, 0),
  (88, .aload_n 0, 1, 0, 0, 0),
  (89, .getfield 36, 3, 10, 13, 0),
  (92, .iload_n 3, 1, 0, 0, 0),
  (93, .iaload, 1, 0, 0, 0),
  (94, .if_icmp .ge 12, 3, 0, 0, 0),
  (97, .aload_n 0, 1, 0, 0, 0),
  (98, .getfield 36, 3, 10, 13, 0),
  (101, .iload_n 2, 1, 0, 0, 0),
  (102, .iaload, 1, 0, 0, 0),
  (103, .goto 9, 3, 0, 0, 0),
  (106, .aload_n 0, 1, 0, 0, 0),
  (107, .getfield 36, 3, 10, 13, 0),
  (110, .iload_n 3, 1, 0, 0, 0),
  (111, .iaload, 1, 0, 0, 0),
  (112, .iastore, 1, 0, 0, 0),
  (113, .iinc 3 1, 3, 0, 0, 0),
  (116, .goto (-75), 3, 0, 0, 0),
  (119, .iinc 2 1, 3, 0, 0, 0),
  (122, .goto (-91), 3, 0, 0, 0),
  (125, .iinc 1 1, 3, 0, 0, 0),
  (128, .goto (-105), 3, 0, 0, 0),
  (131, .return_, 1, 0, 0, 0)])
def zm_72 : zM := (⟨"SiphonReportModel", "speciesOf", "(I)I"⟩, prog_12_method_14_code, 4, (some .int), 0, 0, 2, 1, [
  (0, .iconst 0, 1, 0, 0, 0),
  (1, .istore_n 2, 1, 0, 0, 0),
  (2, .iconst 0, 1, 0, 0, 0),
  (3, .istore_n 3, 1, 0, 0, 0),
  (4, .iload_n 3, 1, 0, 0, 0),
  (5, .bipush 7, 2, 0, 0, 0),
  (7, .if_icmp .ge 33, 3, 0, 0, 0),
  (10, .iload_n 2, 1, 0, 0, 0),
  (11, .aload_n 0, 1, 0, 0, 0),
  (12, .getfield 27, 3, 10, 10, 0),
  (15, .bipush 7, 2, 0, 0, 0),
  (17, .iload_n 1, 1, 0, 0, 0),
  (18, .imul, 1, 0, 0, 0),
  (19, .iload_n 3, 1, 0, 0, 0),
  (20, .iadd, 1, 0, 0, 0),
  (21, .iaload, 1, 0, 0, 0),
  (22, .ifCond .le 9, 3, 0, 0, 0),
  (25, .iconst 1, 1, 0, 0, 0),
  (26, .iload_n 3, 1, 0, 0, 0),
  (27, .ishl, 1, 0, 0, 0),
  (28, .goto 4, 3, 0, 0, 0),
  (31, .iconst 0, 1, 0, 0, 0),
  (32, .ior, 1, 0, 0, 0),
  (33, .istore_n 2, 1, 0, 0, 0),
  (34, .iinc 3 1, 3, 0, 0, 0),
  (37, .goto (-33), 3, 0, 0, 0),
  (40, .iload_n 2, 1, 0, 0, 0),
  (41, .ireturn, 1, 0, 0, 0)])
def zm_73 : zM := (⟨"SiphonReportModel", "occurring", "()I"⟩, prog_12_method_27_code, 3, (some .int), 1, 23, 2, 0, [
  (0, .iconst 0, 1, 0, 0, 0),
  (1, .istore_n 1, 1, 0, 0, 0),
  (2, .iconst 0, 1, 0, 0, 0),
  (3, .istore_n 2, 1, 0, 0, 0),
  (4, .iload_n 2, 1, 0, 0, 0),
  (5, .aload_n 0, 1, 0, 0, 0),
  (6, .getfield 96, 3, 10, 8, 0),
  (9, .if_icmp .ge 17, 3, 0, 0, 0),
  (12, .iload_n 1, 1, 0, 0, 0),
  (13, .aload_n 0, 1, 0, 0, 0),
  (14, .iload_n 2, 1, 0, 0, 0),
  (15, .invokevirtual 118, 3, 72, 2, 10),
  (18, .ior, 1, 0, 0, 0),
  (19, .istore_n 1, 1, 0, 0, 0),
  (20, .iinc 2 1, 3, 0, 0, 0),
  (23, .goto (-19), 3, 0, 0, 0),
  (26, .iload_n 1, 1, 0, 0, 0),
  (27, .ireturn, 1, 0, 0, 0)])
def zm_74 : zM := (⟨"SiphonReportModel", "isSiphon", "(I)Z"⟩, prog_12_method_15_code, 4, (some .boolean), 1, 23, 2, 1, [
  (0, .iconst 0, 1, 0, 0, 0),
  (1, .istore_n 2, 1, 0, 0, 0),
  (2, .iload_n 2, 1, 0, 0, 0),
  (3, .aload_n 0, 1, 0, 0, 0),
  (4, .getfield 96, 3, 10, 8, 0),
  (7, .if_icmp .ge 61, 3, 0, 0, 0),
  (10, .iconst 0, 1, 0, 0, 0),
  (11, .istore_n 3, 1, 0, 0, 0),
  (12, .iload_n 3, 1, 0, 0, 0),
  (13, .aload_n 0, 1, 0, 0, 0),
  (14, .getfield 96, 3, 10, 8, 0),
  (17, .if_icmp .ge 45, 3, 0, 0, 0),
  (20, .aload_n 0, 1, 0, 0, 0),
  (21, .getfield 30, 3, 10, 11, 0),
  (24, .bipush 9, 2, 0, 0, 0),
  (26, .iload_n 2, 1, 0, 0, 0),
  (27, .imul, 1, 0, 0, 0),
  (28, .iload_n 3, 1, 0, 0, 0),
  (29, .iadd, 1, 0, 0, 0),
  (30, .baload, 1, 0, 0, 0),
  (31, .ifCond .eq 25, 3, 0, 0, 0),
  (34, .aload_n 0, 1, 0, 0, 0),
  (35, .iload_n 3, 1, 0, 0, 0),
  (36, .invokevirtual 118, 3, 72, 2, 10),
  (39, .iload_n 1, 1, 0, 0, 0),
  (40, .iand, 1, 0, 0, 0),
  (41, .ifCond .eq 15, 3, 0, 0, 0),
  (44, .aload_n 0, 1, 0, 0, 0),
  (45, .iload_n 2, 1, 0, 0, 0),
  (46, .invokevirtual 118, 3, 72, 2, 10),
  (49, .iload_n 1, 1, 0, 0, 0),
  (50, .iand, 1, 0, 0, 0),
  (51, .ifCond .ne 5, 3, 0, 0, 0),
  (54, .iconst 0, 1, 0, 0, 0),
  (55, .ireturn, 1, 0, 0, 0),
  (56, .iinc 3 1, 3, 0, 0, 0),
  (59, .goto (-47), 3, 0, 0, 0),
  (62, .iinc 2 1, 3, 0, 0, 0),
  (65, .goto (-63), 3, 0, 0, 0),
  (68, .iconst 1, 1, 0, 0, 0),
  (69, .ireturn, 1, 0, 0, 0)])
def zm_75 : zM := (⟨"SiphonReportModel", "takeSiphon", "(I)V"⟩, prog_12_method_16_code, 3, none, 2, 46, 2, 1, [
  (0, .aload_n 0, 1, 0, 0, 0),
  (1, .iload_n 1, 1, 0, 0, 0),
  (2, .invokevirtual 122, 3, 74, 2, 10),
  (5, .ifCond .ne 4, 3, 0, 0, 0),
  (8, .return_, 1, 0, 0, 0),
  (9, .iconst 1, 1, 0, 0, 0),
  (10, .istore_n 2, 1, 0, 0, 0),
  (11, .iload_n 2, 1, 0, 0, 0),
  (12, .iload_n 1, 1, 0, 0, 0),
  (13, .if_icmp .ge 26, 3, 0, 0, 0),
  (16, .iload_n 2, 1, 0, 0, 0),
  (17, .iload_n 1, 1, 0, 0, 0),
  (18, .iconst (-1), 1, 0, 0, 0),
  (19, .ixor, 1, 0, 0, 0),
  (20, .iand, 1, 0, 0, 0),
  (21, .ifCond .ne 12, 3, 0, 0, 0),
  (24, .aload_n 0, 1, 0, 0, 0),
  (25, .iload_n 2, 1, 0, 0, 0),
  (26, .invokevirtual 122, 3, 74, 2, 10),
  (29, .ifCond .eq 4, 3, 0, 0, 0),
  (32, .return_, 1, 0, 0, 0),
  (33, .iinc 2 1, 3, 0, 0, 0),
  (36, .goto (-25), 3, 0, 0, 0),
  (39, .aload_n 0, 1, 0, 0, 0),
  (40, .getfield 39, 3, 10, 15, 0),
  (43, .aload_n 0, 1, 0, 0, 0),
  (44, .getfield 102, 3, 10, 14, 0),
  (47, .iload_n 1, 1, 0, 0, 0),
  (48, .iastore, 1, 0, 0, 0),
  (49, .aload_n 0, 1, 0, 0, 0),
  (50, .dup, 1, 0, 0, 0),
  (51, .getfield 102, 3, 10, 14, 0),
  (54, .iconst 1, 1, 0, 0, 0),
  (55, .iadd, 1, 0, 0, 0),
  (56, .putfield 102, 3, 10, 14, 0),
  (59, .return_, 1, 0, 0, 0)])
def zm_76 : zM := (⟨"SiphonReportModel", "load", "(II)V"⟩, prog_12_method_18_code, 6, none, 0, 0, 2, 2, [
  (0, .aload_n 0, 1, 0, 0, 0),
  (1, .iconst 0, 1, 0, 0, 0),
  (2, .putfield 126, 3, 10, 19, 0),
  (5, .iconst 0, 1, 0, 0, 0),
  (6, .istore_n 3, 1, 0, 0, 0),
  (7, .iload_n 3, 1, 0, 0, 0),
  (8, .aload_n 0, 1, 0, 0, 0),
  (9, .getfield 96, 3, 10, 8, 0),
  (12, .if_icmp .ge 137, 3, 0, 0, 0),
  (15, .iconst 0, 1, 0, 0, 0),
  (16, .istore 4, 2, 0, 0, 0),
  (18, .iload 4, 2, 0, 0, 0),
  (20, .aload_n 0, 1, 0, 0, 0),
  (21, .getfield 96, 3, 10, 8, 0),
  (24, .if_icmp .ge 119, 3, 0, 0, 0),
  (27, .aload_n 0, 1, 0, 0, 0),
  (28, .getfield 30, 3, 10, 11, 0),
  (31, .bipush 9, 2, 0, 0, 0),
  (33, .iload_n 3, 1, 0, 0, 0),
  (34, .imul, 1, 0, 0, 0),
  (35, .iload 4, 2, 0, 0, 0),
  (37, .iadd, 1, 0, 0, 0),
  (38, .baload, 1, 0, 0, 0),
  (39, .ifCond .eq 98, 3, 0, 0, 0),
  (42, .iload_n 1, 1, 0, 0, 0),
  (43, .ifCond .lt 13, 3, 0, 0, 0),
  (46, .aload_n 0, 1, 0, 0, 0),
  (47, .getfield 36, 3, 10, 13, 0),
  (50, .iload_n 3, 1, 0, 0, 0),
  (51, .iaload, 1, 0, 0, 0),
  (52, .iload_n 1, 1, 0, 0, 0),
  (53, .if_icmp .ne 84, 3, 0, 0, 0),
  (56, .iconst 0, 1, 0, 0, 0),
  (57, .istore 5, 2, 0, 0, 0),
  (59, .iload 5, 2, 0, 0, 0),
  (61, .bipush 7, 2, 0, 0, 0),
  (63, .if_icmp .ge 64, 3, 0, 0, 0),
  (66, .aload_n 0, 1, 0, 0, 0),
  (67, .getfield 48, 3, 10, 20, 0),
  (70, .bipush 7, 2, 0, 0, 0),
  (72, .aload_n 0, 1, 0, 0, 0),
  (73, .getfield 126, 3, 10, 19, 0),
  (76, .imul, 1, 0, 0, 0),
  (77, .iload 5, 2, 0, 0, 0),
  (79, .iadd, 1, 0, 0, 0),
  (80, .iload_n 2, 1, 0, 0, 0),
  (81, .iload 5, 2, 0, 0, 0),
  (83, .ishr, 1, 0, 0, 0),
  (84, .iconst 1, 1, 0, 0, 0),
  (85, .iand, 1, 0, 0, 0),
  (86, .ifCond .ne 7, 3, 0, 0, 0),
  (89, .lconst 0, 1, 0, 0, 0),
  (90, .goto 30, 3, 0, 0, 0),
  (93, .aload_n 0, 1, 0, 0, 0),
  (94, .getfield 27, 3, 10, 10, 0),
  (97, .bipush 7, 2, 0, 0, 0),
  (99, .iload 4, 2, 0, 0, 0),
  (101, .imul, 1, 0, 0, 0),
  (102, .iload 5, 2, 0, 0, 0),
  (104, .iadd, 1, 0, 0, 0),
  (105, .iaload, 1, 0, 0, 0),
  (106, .aload_n 0, 1, 0, 0, 0),
  (107, .getfield 27, 3, 10, 10, 0),
  (110, .bipush 7, 2, 0, 0, 0),
  (112, .iload_n 3, 1, 0, 0, 0),
  (113, .imul, 1, 0, 0, 0),
  (114, .iload 5, 2, 0, 0, 0),
  (116, .iadd, 1, 0, 0, 0),
  (117, .iaload, 1, 0, 0, 0),
  (118, .isub, 1, 0, 0, 0),
  (119, .i2l, 1, 0, 0, 0),
  (120, .lastore, 1, 0, 0, 0),
  (121, .iinc 5 1, 3, 0, 0, 0),
  (124, .goto (-65), 3, 0, 0, 0),
  (127, .aload_n 0, 1, 0, 0, 0),
  (128, .dup, 1, 0, 0, 0),
  (129, .getfield 126, 3, 10, 19, 0),
  (132, .iconst 1, 1, 0, 0, 0),
  (133, .iadd, 1, 0, 0, 0),
  (134, .putfield 126, 3, 10, 19, 0),
  (137, .iinc 4 1, 3, 0, 0, 0),
  (140, .goto (-122), 3, 0, 0, 0),
  (143, .iinc 3 1, 3, 0, 0, 0),
  (146, .goto (-139), 3, 0, 0, 0),
  (149, .return_, 1, 0, 0, 0)])
def zm_77 : zM := (⟨"SiphonReportModel", "swap", "(II)V"⟩, prog_12_method_19_code, 6, none, 0, 0, 2, 2, [
  (0, .iconst 0, 1, 0, 0, 0),
  (1, .istore_n 3, 1, 0, 0, 0),
  (2, .iload_n 3, 1, 0, 0, 0),
  (3, .bipush 7, 2, 0, 0, 0),
  (5, .if_icmp .ge 57, 3, 0, 0, 0),
  (8, .aload_n 0, 1, 0, 0, 0),
  (9, .getfield 48, 3, 10, 20, 0),
  (12, .bipush 7, 2, 0, 0, 0),
  (14, .iload_n 1, 1, 0, 0, 0),
  (15, .imul, 1, 0, 0, 0),
  (16, .iload_n 3, 1, 0, 0, 0),
  (17, .iadd, 1, 0, 0, 0),
  (18, .laload, 1, 0, 0, 0),
  (19, .lstore 4, 2, 0, 0, 0),
  (21, .aload_n 0, 1, 0, 0, 0),
  (22, .getfield 48, 3, 10, 20, 0),
  (25, .bipush 7, 2, 0, 0, 0),
  (27, .iload_n 1, 1, 0, 0, 0),
  (28, .imul, 1, 0, 0, 0),
  (29, .iload_n 3, 1, 0, 0, 0),
  (30, .iadd, 1, 0, 0, 0),
  (31, .aload_n 0, 1, 0, 0, 0),
  (32, .getfield 48, 3, 10, 20, 0),
  (35, .bipush 7, 2, 0, 0, 0),
  (37, .iload_n 2, 1, 0, 0, 0),
  (38, .imul, 1, 0, 0, 0),
  (39, .iload_n 3, 1, 0, 0, 0),
  (40, .iadd, 1, 0, 0, 0),
  (41, .laload, 1, 0, 0, 0),
  (42, .lastore, 1, 0, 0, 0),
  (43, .aload_n 0, 1, 0, 0, 0),
  (44, .getfield 48, 3, 10, 20, 0),
  (47, .bipush 7, 2, 0, 0, 0),
  (49, .iload_n 2, 1, 0, 0, 0),
  (50, .imul, 1, 0, 0, 0),
  (51, .iload_n 3, 1, 0, 0, 0),
  (52, .iadd, 1, 0, 0, 0),
  (53, .lload 4, 2, 0, 0, 0),
  (55, .lastore, 1, 0, 0, 0),
  (56, .iinc 3 1, 3, 0, 0, 0),
  (59, .goto (-57), 3, 0, 0, 0),
  (62, .return_, 1, 0, 0, 0)])
def zm_78 : zM := (⟨"SiphonReportModel", "gcd", "(JJ)J"⟩, prog_12_method_17_code, 11, (some .long), 0, 0, 0, 2, [
  (0, .lload_n 0, 1, 0, 0, 0),
  (1, .lconst 0, 1, 0, 0, 0),
  (2, .lcmp, 1, 0, 0, 0),
  (3, .ifCond .ge 8, 3, 0, 0, 0),
  (6, .lload_n 0, 1, 0, 0, 0),
  (7, .lneg, 1, 0, 0, 0),
  (8, .goto 4, 3, 0, 0, 0),
  (11, .lload_n 0, 1, 0, 0, 0),
  (12, .lstore 4, 2, 0, 0, 0),
  (14, .lload_n 2, 1, 0, 0, 0),
  (15, .lconst 0, 1, 0, 0, 0),
  (16, .lcmp, 1, 0, 0, 0),
  (17, .ifCond .ge 8, 3, 0, 0, 0),
  (20, .lload_n 2, 1, 0, 0, 0),
  (21, .lneg, 1, 0, 0, 0),
  (22, .goto 4, 3, 0, 0, 0),
  (25, .lload_n 2, 1, 0, 0, 0),
  (26, .lstore 6, 2, 0, 0, 0),
  (28, .iconst 0, 1, 0, 0, 0),
  (29, .istore 8, 2, 0, 0, 0),
  (31, .iload 8, 2, 0, 0, 0),
  (33, .sipush 200, 3, 0, 0, 0),
  (36, .if_icmp .ge 31, 3, 0, 0, 0),
  (39, .lload 6, 2, 0, 0, 0),
  (41, .lconst 0, 1, 0, 0, 0),
  (42, .lcmp, 1, 0, 0, 0),
  (43, .ifCond .eq 24, 3, 0, 0, 0),
  (46, .lload 4, 2, 0, 0, 0),
  (48, .lload 6, 2, 0, 0, 0),
  (50, .lrem, 1, 0, 0, 0),
  (51, .lstore 9, 2, 0, 0, 0),
  (53, .lload 6, 2, 0, 0, 0),
  (55, .lstore 4, 2, 0, 0, 0),
  (57, .lload 9, 2, 0, 0, 0),
  (59, .lstore 6, 2, 0, 0, 0),
  (61, .iinc 8 1, 3, 0, 0, 0),
  (64, .goto (-33), 3, 0, 0, 0),
  (67, .lload 4, 2, 0, 0, 0),
  (69, .lreturn, 1, 0, 0, 0)])
def zm_79 : zM := (⟨"SiphonReportModel", "strike", "(III)V"⟩, prog_12_method_20_code, 11, none, 1, 30, 2, 3, [
  (0, .aload_n 0, 1, 0, 0, 0),
  (1, .getfield 48, 3, 10, 20, 0),
  (4, .bipush 7, 2, 0, 0, 0),
  (6, .iload_n 2, 1, 0, 0, 0),
  (7, .imul, 1, 0, 0, 0),
  (8, .iload_n 3, 1, 0, 0, 0),
  (9, .iadd, 1, 0, 0, 0),
  (10, .laload, 1, 0, 0, 0),
  (11, .lstore 4, 2, 0, 0, 0),
  (13, .aload_n 0, 1, 0, 0, 0),
  (14, .getfield 48, 3, 10, 20, 0),
  (17, .bipush 7, 2, 0, 0, 0),
  (19, .iload_n 1, 1, 0, 0, 0),
  (20, .imul, 1, 0, 0, 0),
  (21, .iload_n 3, 1, 0, 0, 0),
  (22, .iadd, 1, 0, 0, 0),
  (23, .laload, 1, 0, 0, 0),
  (24, .lstore 6, 2, 0, 0, 0),
  (26, .lconst 0, 1, 0, 0, 0),
  (27, .lstore 8, 2, 0, 0, 0),
  (29, .iconst 0, 1, 0, 0, 0),
  (30, .istore 10, 2, 0, 0, 0),
  (32, .iload 10, 2, 0, 0, 0),
  (34, .bipush 7, 2, 0, 0, 0),
  (36, .if_icmp .ge 71, 3, 0, 0, 0),
  (39, .aload_n 0, 1, 0, 0, 0),
  (40, .getfield 48, 3, 10, 20, 0),
  (43, .bipush 7, 2, 0, 0, 0),
  (45, .iload_n 1, 1, 0, 0, 0),
  (46, .imul, 1, 0, 0, 0),
  (47, .iload 10, 2, 0, 0, 0),
  (49, .iadd, 1, 0, 0, 0),
  (50, .aload_n 0, 1, 0, 0, 0),
  (51, .getfield 48, 3, 10, 20, 0),
  (54, .bipush 7, 2, 0, 0, 0),
  (56, .iload_n 1, 1, 0, 0, 0),
  (57, .imul, 1, 0, 0, 0),
  (58, .iload 10, 2, 0, 0, 0),
  (60, .iadd, 1, 0, 0, 0),
  (61, .laload, 1, 0, 0, 0),
  (62, .lload 4, 2, 0, 0, 0),
  (64, .lmul, 1, 0, 0, 0),
  (65, .aload_n 0, 1, 0, 0, 0),
  (66, .getfield 48, 3, 10, 20, 0),
  (69, .bipush 7, 2, 0, 0, 0),
  (71, .iload_n 2, 1, 0, 0, 0),
  (72, .imul, 1, 0, 0, 0),
  (73, .iload 10, 2, 0, 0, 0),
  (75, .iadd, 1, 0, 0, 0),
  (76, .laload, 1, 0, 0, 0),
  (77, .lload 6, 2, 0, 0, 0),
  (79, .lmul, 1, 0, 0, 0),
  (80, .lsub, 1, 0, 0, 0),
  (81, .lastore, 1, 0, 0, 0),
  (82, .lload 8, 2, 0, 0, 0),
  (84, .aload_n 0, 1, 0, 0, 0),
  (85, .getfield 48, 3, 10, 20, 0),
  (88, .bipush 7, 2, 0, 0, 0),
  (90, .iload_n 1, 1, 0, 0, 0),
  (91, .imul, 1, 0, 0, 0),
  (92, .iload 10, 2, 0, 0, 0),
  (94, .iadd, 1, 0, 0, 0),
  (95, .laload, 1, 0, 0, 0),
  (96, .invokestatic 129, 3, 78, 2, 0),
  (99, .lstore 8, 2, 0, 0, 0),
  (101, .iinc 10 1, 3, 0, 0, 0),
  (104, .goto (-72), 3, 0, 0, 0),
  (107, .iconst 0, 1, 0, 0, 0),
  (108, .istore 10, 2, 0, 0, 0),
  (110, .iload 10, 2, 0, 0, 0),
  (112, .bipush 7, 2, 0, 0, 0),
  (114, .if_icmp .ge 33, 3, 0, 0, 0),
  (117, .lload 8, 2, 0, 0, 0),
  (119, .lconst 1, 1, 0, 0, 0),
  (120, .lcmp, 1, 0, 0, 0),
  (121, .ifCond .le 26, 3, 0, 0, 0),
  (124, .aload_n 0, 1, 0, 0, 0),
  (125, .getfield 48, 3, 10, 20, 0),
  (128, .bipush 7, 2, 0, 0, 0),
  (130, .iload_n 1, 1, 0, 0, 0),
  (131, .imul, 1, 0, 0, 0),
  (132, .iload 10, 2, 0, 0, 0),
  (134, .iadd, 1, 0, 0, 0),
  (135, .dup2, 1, 0, 0, 0),
  (136, .laload, 1, 0, 0, 0),
  (137, .lload 8, 2, 0, 0, 0),
  (139, .ldiv, 1, 0, 0, 0),
  (140, .lastore, 1, 0, 0, 0),
  (141, .iinc 10 1, 3, 0, 0, 0),
  (144, .goto (-34), 3, 0, 0, 0),
  (147, .return_, 1, 0, 0, 0)])
def zm_80 : zM := (⟨"SiphonReportModel", "rankOf", "(II)I"⟩, prog_12_method_21_code, 7, (some .int), 2, 60, 2, 2, [
  (0, .aload_n 0, 1, 0, 0, 0),
  (1, .iload_n 1, 1, 0, 0, 0),
  (2, .iload_n 2, 1, 0, 0, 0),
  (3, .invokevirtual 133, 3, 76, 3, 10),
  (6, .iconst 0, 1, 0, 0, 0),
  (7, .istore_n 3, 1, 0, 0, 0),
  (8, .iconst 0, 1, 0, 0, 0),
  (9, .istore 4, 2, 0, 0, 0),
  (11, .iload 4, 2, 0, 0, 0),
  (13, .bipush 7, 2, 0, 0, 0),
  (15, .if_icmp .ge 123, 3, 0, 0, 0),
  (18, .iload_n 3, 1, 0, 0, 0),
  (19, .istore 5, 2, 0, 0, 0),
  (21, .iload 5, 2, 0, 0, 0),
  (23, .aload_n 0, 1, 0, 0, 0),
  (24, .getfield 126, 3, 10, 19, 0),
  (27, .if_icmp .ge 27, 3, 0, 0, 0),
  (30, .aload_n 0, 1, 0, 0, 0),
  (31, .getfield 48, 3, 10, 20, 0),
  (34, .bipush 7, 2, 0, 0, 0),
  (36, .iload 5, 2, 0, 0, 0),
  (38, .imul, 1, 0, 0, 0),
  (39, .iload 4, 2, 0, 0, 0),
  (41, .iadd, 1, 0, 0, 0),
  (42, .laload, 1, 0, 0, 0),
  (43, .lconst 0, 1, 0, 0, 0),
  (44, .lcmp, 1, 0, 0, 0),
  (45, .ifCond .ne 9, 3, 0, 0, 0),
  (48, .iinc 5 1, 3, 0, 0, 0),
  (51, .goto (-30), 3, 0, 0, 0),
  (54, .iload 5, 2, 0, 0, 0),
  (56, .aload_n 0, 1, 0, 0, 0),
  (57, .getfield 126, 3, 10, 19, 0),
  (60, .if_icmp .ge 72, 3, 0, 0, 0),
  (63, .aload_n 0, 1, 0, 0, 0),
  (64, .iload 5, 2, 0, 0, 0),
  (66, .iload_n 3, 1, 0, 0, 0),
  (67, .invokevirtual 136, 3, 77, 3, 10),
  (70, .aload_n 0, 1, 0, 0, 0),
  (71, .getfield 52, 3, 10, 21, 0),
  (74, .iload_n 3, 1, 0, 0, 0),
  (75, .iload 4, 2, 0, 0, 0),
  (77, .iastore, 1, 0, 0, 0),
  (78, .iconst 0, 1, 0, 0, 0),
  (79, .istore 6, 2, 0, 0, 0),
  (81, .iload 6, 2, 0, 0, 0),
  (83, .aload_n 0, 1, 0, 0, 0),
  (84, .getfield 126, 3, 10, 19, 0),
  (87, .if_icmp .ge 42, 3, 0, 0, 0),
  (90, .iload 6, 2, 0, 0, 0),
  (92, .iload_n 3, 1, 0, 0, 0),
  (93, .if_icmp .eq 30, 3, 0, 0, 0),
  (96, .aload_n 0, 1, 0, 0, 0),
  (97, .getfield 48, 3, 10, 20, 0),
  (100, .bipush 7, 2, 0, 0, 0),
  (102, .iload 6, 2, 0, 0, 0),
  (104, .imul, 1, 0, 0, 0),
  (105, .iload 4, 2, 0, 0, 0),
  (107, .iadd, 1, 0, 0, 0),
  (108, .laload, 1, 0, 0, 0),
  (109, .lconst 0, 1, 0, 0, 0),
  (110, .lcmp, 1, 0, 0, 0),
  (111, .ifCond .eq 12, 3, 0, 0, 0),
  (114, .aload_n 0, 1, 0, 0, 0),
  (115, .iload 6, 2, 0, 0, 0),
  (117, .iload_n 3, 1, 0, 0, 0),
  (118, .iload 4, 2, 0, 0, 0),
  (120, .invokevirtual 139, 3, 79, 4, 10),
  (123, .iinc 6 1, 3, 0, 0, 0),
  (126, .goto (-45), 3, 0, 0, 0),
  (129, .iinc 3 1, 3, 0, 0, 0),
  (132, .iinc 4 1, 3, 0, 0, 0),
  (135, .goto (-124), 3, 0, 0, 0),
  (138, .iload_n 3, 1, 0, 0, 0),
  (139, .ireturn, 1, 0, 0, 0)])
def zm_81 : zM := (⟨"SiphonReportModel", "takeSum", "(I)V"⟩, prog_12_method_22_code, 15, none, 3, 86, 2, 1, [
  (0, .iconst 0, 1, 0, 0, 0),
  (1, .istore_n 2, 1, 0, 0, 0),
  (2, .iconst 0, 1, 0, 0, 0),
  (3, .istore_n 3, 1, 0, 0, 0),
  (4, .iload_n 3, 1, 0, 0, 0),
  (5, .bipush 7, 2, 0, 0, 0),
  (7, .if_icmp .ge 17, 3, 0, 0, 0),
  (10, .iload_n 2, 1, 0, 0, 0),
  (11, .iload_n 1, 1, 0, 0, 0),
  (12, .iload_n 3, 1, 0, 0, 0),
  (13, .ishr, 1, 0, 0, 0),
  (14, .iconst 1, 1, 0, 0, 0),
  (15, .iand, 1, 0, 0, 0),
  (16, .iadd, 1, 0, 0, 0),
  (17, .istore_n 2, 1, 0, 0, 0),
  (18, .iinc 3 1, 3, 0, 0, 0),
  (21, .goto (-17), 3, 0, 0, 0),
  (24, .aload_n 0, 1, 0, 0, 0),
  (25, .iconst (-1), 1, 0, 0, 0),
  (26, .iload_n 1, 1, 0, 0, 0),
  (27, .invokevirtual 143, 3, 80, 3, 10),
  (30, .istore_n 3, 1, 0, 0, 0),
  (31, .iload_n 3, 1, 0, 0, 0),
  (32, .iload_n 2, 1, 0, 0, 0),
  (33, .iconst 1, 1, 0, 0, 0),
  (34, .isub, 1, 0, 0, 0),
  (35, .if_icmp .eq 4, 3, 0, 0, 0),
  (38, .return_, 1, 0, 0, 0),
  (39, .iload_n 1, 1, 0, 0, 0),
  (40, .istore 4, 2, 0, 0, 0),
  (42, .iconst 0, 1, 0, 0, 0),
  (43, .istore 5, 2, 0, 0, 0),
  (45, .iload 5, 2, 0, 0, 0),
  (47, .iload_n 3, 1, 0, 0, 0),
  (48, .if_icmp .ge 25, 3, 0, 0, 0),
  (51, .iload 4, 2, 0, 0, 0),
  (53, .iconst 1, 1, 0, 0, 0),
  (54, .aload_n 0, 1, 0, 0, 0),
  (55, .getfield 52, 3, 10, 21, 0),
  (58, .iload 5, 2, 0, 0, 0),
  (60, .iaload, 1, 0, 0, 0),
  (61, .ishl, 1, 0, 0, 0),
  (62, .iconst (-1), 1, 0, 0, 0),
  (63, .ixor, 1, 0, 0, 0),
  (64, .iand, 1, 0, 0, 0),
  (65, .istore 4, 2, 0, 0, 0),
  (67, .iinc 5 1, 3, 0, 0, 0),
  (70, .goto (-25), 3, 0, 0, 0),
  (73, .iconst 0, 1, 0, 0, 0),
  (74, .istore 5, 2, 0, 0, 0),
  (76, .iload 5, 2, 0, 0, 0),
  (78, .bipush 6, 2, 0, 0, 0),
  (80, .if_icmp .ge 19, 3, 0, 0, 0),
  (83, .iload 4, 2, 0, 0, 0),
  (85, .iload 5, 2, 0, 0, 0),
  (87, .ishr, 1, 0, 0, 0),
  (88, .iconst 1, 1, 0, 0, 0),
  (89, .iand, 1, 0, 0, 0),
  (90, .ifCond .ne 9, 3, 0, 0, 0),
  (93, .iinc 5 1, 3, 0, 0, 0),
  (96, .goto (-20), 3, 0, 0, 0),
  (99, .lconst 1, 1, 0, 0, 0),
  (100, .lstore 6, 2, 0, 0, 0),
  (102, .iconst 0, 1, 0, 0, 0),
  (103, .istore 8, 2, 0, 0, 0),
  (105, .iload 8, 2, 0, 0, 0),
  (107, .iload_n 3, 1, 0, 0, 0),
  (108, .if_icmp .ge 119, 3, 0, 0, 0),
  (111, .aload_n 0, 1, 0, 0, 0),
  (112, .getfield 48, 3, 10, 20, 0),
  (115, .bipush 7, 2, 0, 0, 0),
  (117, .iload 8, 2, 0, 0, 0),
  (119, .imul, 1, 0, 0, 0),
  (120, .aload_n 0, 1, 0, 0, 0),
  (121, .getfield 52, 3, 10, 21, 0),
  (124, .iload 8, 2, 0, 0, 0),
  (126, .iaload, 1, 0, 0, 0),
  (127, .iadd, 1, 0, 0, 0),
  (128, .laload, 1, 0, 0, 0),
  (129, .lstore 9, 2, 0, 0, 0),
  (131, .aload_n 0, 1, 0, 0, 0),
  (132, .getfield 48, 3, 10, 20, 0),
  (135, .bipush 7, 2, 0, 0, 0),
  (137, .iload 8, 2, 0, 0, 0),
  (139, .imul, 1, 0, 0, 0),
  (140, .iload 5, 2, 0, 0, 0),
  (142, .iadd, 1, 0, 0, 0),
  (143, .laload, 1, 0, 0, 0),
  (144, .lstore 11, 2, 0, 0, 0),
  (146, .lload 11, 2, 0, 0, 0),
  (148, .lconst 0, 1, 0, 0, 0),
  (149, .lcmp, 1, 0, 0, 0),
  (150, .ifCond .eq 30, 3, 0, 0, 0),
  (153, .lload 11, 2, 0, 0, 0),
  (155, .lconst 0, 1, 0, 0, 0),
  (156, .lcmp, 1, 0, 0, 0),
  (157, .ifCond .le 7, 3, 0, 0, 0),
  (160, .iconst 1, 1, 0, 0, 0),
  (161, .goto 4, 3, 0, 0, 0),
  (164, .iconst 0, 1, 0, 0, 0),
  (165, .lload 9, 2, 0, 0, 0),
  (167, .lconst 0, 1, 0, 0, 0),
  (168, .lcmp, 1, 0, 0, 0),
  (169, .ifCond .le 7, 3, 0, 0, 0),
  (172, .iconst 1, 1, 0, 0, 0),
  (173, .goto 4, 3, 0, 0, 0),
  (176, .iconst 0, 1, 0, 0, 0),
  (177, .if_icmp .ne 4, 3, 0, 0, 0),
  (180, .return_, 1, 0, 0, 0),
  (181, .lload 9, 2, 0, 0, 0),
  (183, .lconst 0, 1, 0, 0, 0),
  (184, .lcmp, 1, 0, 0, 0),
  (185, .ifCond .ge 9, 3, 0, 0, 0),
  (188, .lload 9, 2, 0, 0, 0),
  (190, .lneg, 1, 0, 0, 0),
  (191, .goto 5, 3, 0, 0, 0),
  (194, .lload 9, 2, 0, 0, 0),
  (196, .lload 9, 2, 0, 0, 0),
  (198, .lload 11, 2, 0, 0, 0),
  (200, .invokestatic 129, 3, 78, 2, 0),
  (203, .ldiv, 1, 0, 0, 0),
  (204, .lstore 13, 2, 0, 0, 0),
  (206, .lload 6, 2, 0, 0, 0),
  (208, .lload 6, 2, 0, 0, 0),
  (210, .lload 13, 2, 0, 0, 0),
  (212, .invokestatic 129, 3, 78, 2, 0),
  (215, .ldiv, 1, 0, 0, 0),
  (216, .lload 13, 2, 0, 0, 0),
  (218, .lmul, 1, 0, 0, 0),
  (219, .lstore 6, 2, 0, 0, 0),
  (221, .iinc 8 1, 3, 0, 0, 0),
  (224, .goto (-119), 3, 0, 0, 0),
  (227, .iconst 0, 1, 0, 0, 0),
  (228, .istore 8, 2, 0, 0, 0),
  (230, .iload 8, 2, 0, 0, 0),
  (232, .bipush 7, 2, 0, 0, 0),
  (234, .if_icmp .ge 38, 3, 0, 0, 0),
  (237, .aload_n 0, 1, 0, 0, 0),
  (238, .getfield 45, 3, 10, 18, 0),
  (241, .bipush 7, 2, 0, 0, 0),
  (243, .aload_n 0, 1, 0, 0, 0),
  (244, .getfield 105, 3, 10, 16, 0),
  (247, .imul, 1, 0, 0, 0),
  (248, .iload 8, 2, 0, 0, 0),
  (250, .iadd, 1, 0, 0, 0),
  (251, .iload 8, 2, 0, 0, 0),
  (253, .iload 5, 2, 0, 0, 0),
  (255, .if_icmp .ne 9, 3, 0, 0, 0),
  (258, .lload 6, 2, 0, 0, 0),
  (260, .l2i, 1, 0, 0, 0),
  (261, .goto 4, 3, 0, 0, 0),
  (264, .iconst 0, 1, 0, 0, 0),
  (265, .iastore, 1, 0, 0, 0),
  (266, .iinc 8 1, 3, 0, 0, 0),
  (269, .goto (-39), 3, 0, 0, 0),
  (272, .iconst 0, 1, 0, 0, 0),
  (273, .istore 8, 2, 0, 0, 0),
  (275, .iload 8, 2, 0, 0, 0),
  (277, .iload_n 3, 1, 0, 0, 0),
  (278, .if_icmp .ge 70, 3, 0, 0, 0),
  (281, .aload_n 0, 1, 0, 0, 0),
  (282, .getfield 48, 3, 10, 20, 0),
  (285, .bipush 7, 2, 0, 0, 0),
  (287, .iload 8, 2, 0, 0, 0),
  (289, .imul, 1, 0, 0, 0),
  (290, .iload 5, 2, 0, 0, 0),
  (292, .iadd, 1, 0, 0, 0),
  (293, .laload, 1, 0, 0, 0),
  (294, .lneg, 1, 0, 0, 0),
  (295, .lload 6, 2, 0, 0, 0),
  (297, .lmul, 1, 0, 0, 0),
  (298, .aload_n 0, 1, 0, 0, 0),
  (299, .getfield 48, 3, 10, 20, 0),
  (302, .bipush 7, 2, 0, 0, 0),
  (304, .iload 8, 2, 0, 0, 0),
  (306, .imul, 1, 0, 0, 0),
  (307, .aload_n 0, 1, 0, 0, 0),
  (308, .getfield 52, 3, 10, 21, 0),
  (311, .iload 8, 2, 0, 0, 0),
  (313, .iaload, 1, 0, 0, 0),
  (314, .iadd, 1, 0, 0, 0),
  (315, .laload, 1, 0, 0, 0),
  (316, .ldiv, 1, 0, 0, 0),
  (317, .lstore 9, 2, 0, 0, 0),
  (319, .aload_n 0, 1, 0, 0, 0),
  (320, .getfield 45, 3, 10, 18, 0),
  (323, .bipush 7, 2, 0, 0, 0),
  (325, .aload_n 0, 1, 0, 0, 0),
  (326, .getfield 105, 3, 10, 16, 0),
  (329, .imul, 1, 0, 0, 0),
  (330, .aload_n 0, 1, 0, 0, 0),
  (331, .getfield 52, 3, 10, 21, 0),
  (334, .iload 8, 2, 0, 0, 0),
  (336, .iaload, 1, 0, 0, 0),
  (337, .iadd, 1, 0, 0, 0),
  (338, .lload 9, 2, 0, 0, 0),
  (340, .l2i, 1, 0, 0, 0),
  (341, .iastore, 1, 0, 0, 0),
  (342, .iinc 8 1, 3, 0, 0, 0),
  (345, .goto (-70), 3, 0, 0, 0),
  (348, .aload_n 0, 1, 0, 0, 0),
  (349, .getfield 42, 3, 10, 17, 0),
  (352, .aload_n 0, 1, 0, 0, 0),
  (353, .getfield 105, 3, 10, 16, 0),
  (356, .iload_n 1, 1, 0, 0, 0),
  (357, .iastore, 1, 0, 0, 0),
  (358, .aload_n 0, 1, 0, 0, 0),
  (359, .dup, 1, 0, 0, 0),
  (360, .getfield 105, 3, 10, 16, 0),
  (363, .iconst 1, 1, 0, 0, 0),
  (364, .iadd, 1, 0, 0, 0),
  (365, .putfield 105, 3, 10, 16, 0),
  (368, .return_, 1, 0, 0, 0)])
def zm_82 : zM := (⟨"SiphonReportModel", "take", "()V"⟩, prog_12_method_12_code, 4, none, 4, 120, 2, 0, [
  (0, .aload_n 0, 1, 0, 0, 0),
  (1, .aload_n 0, 1, 0, 0, 0),
  (2, .getfield 63, 3, 10, 2, 0),
  (5, .putfield 96, 3, 10, 8, 0),
  (8, .aload_n 0, 1, 0, 0, 0),
  (9, .aload_n 0, 1, 0, 0, 0),
  (10, .getfield 66, 3, 10, 5, 0),
  (13, .putfield 93, 3, 10, 9, 0),
  (16, .iconst 0, 1, 0, 0, 0),
  (17, .istore_n 1, 1, 0, 0, 0),
  (18, .iload_n 1, 1, 0, 0, 0),
  (19, .bipush 63, 2, 0, 0, 0),
  (21, .if_icmp .ge 21, 3, 0, 0, 0),
  (24, .aload_n 0, 1, 0, 0, 0),
  (25, .getfield 27, 3, 10, 10, 0),
  (28, .iload_n 1, 1, 0, 0, 0),
  (29, .aload_n 0, 1, 0, 0, 0),
  (30, .getfield 13, 3, 10, 3, 0),
  (33, .iload_n 1, 1, 0, 0, 0),
  (34, .iaload, 1, 0, 0, 0),
  (35, .iastore, 1, 0, 0, 0),
  (36, .iinc 1 1, 3, 0, 0, 0),
  (39, .goto (-21), 3, 0, 0, 0),
  (42, .iconst 0, 1, 0, 0, 0),
  (43, .istore_n 1, 1, 0, 0, 0),
  (44, .iload_n 1, 1, 0, 0, 0),
  (45, .bipush 9, 2, 0, 0, 0),
  (47, .if_icmp .ge 104, 3, 0, 0, 0),
  (50, .iconst 0, 1, 0, 0, 0),
  (51, .istore_n 2, 1, 0, 0, 0),
  (52, .iload_n 2, 1, 0, 0, 0),
  (53, .bipush 9, 2, 0, 0, 0),
  (55, .if_icmp .ge 90, 3, 0, 0, 0),
  (58, .aload_n 0, 1, 0, 0, 0),
  (59, .getfield 30, 3, 10, 11, 0),
  (62, .bipush 9, 2, 0, 0, 0),
  (64, .iload_n 1, 1, 0, 0, 0),
  (65, .imul, 1, 0, 0, 0),
  (66, .iload_n 2, 1, 0, 0, 0),
  (67, .iadd, 1, 0, 0, 0),
  (68, .iload_n 1, 1, 0, 0, 0),
  (69, .aload_n 0, 1, 0, 0, 0),
  (70, .getfield 96, 3, 10, 8, 0),
  (73, .if_icmp .ge 29, 3, 0, 0, 0),
  (76, .iload_n 2, 1, 0, 0, 0),
  (77, .aload_n 0, 1, 0, 0, 0),
  (78, .getfield 96, 3, 10, 8, 0),
  (81, .if_icmp .ge 21, 3, 0, 0, 0),
  (84, .aload_n 0, 1, 0, 0, 0),
  (85, .getfield 17, 3, 10, 4, 0),
  (88, .bipush 11, 2, 0, 0, 0),
  (90, .iload_n 1, 1, 0, 0, 0),
  (91, .imul, 1, 0, 0, 0),
  (92, .iload_n 2, 1, 0, 0, 0),
  (93, .iadd, 1, 0, 0, 0),
  (94, .baload, 1, 0, 0, 0),
  (95, .ifCond .eq 7, 3, 0, 0, 0),
  (98, .iconst 1, 1, 0, 0, 0),
  (99, .goto 4, 3, 0, 0, 0),
  (102, .iconst 0, 1, 0, 0, 0),
  (103, .bastore, 1, 0, 0, 0),
  (104, .aload_n 0, 1, 0, 0, 0),
  (105, .getfield 33, 3, 10, 12, 0),
  (108, .bipush 9, 2, 0, 0, 0),
  (110, .iload_n 1, 1, 0, 0, 0),
  (111, .imul, 1, 0, 0, 0),
  (112, .iload_n 2, 1, 0, 0, 0),
  (113, .iadd, 1, 0, 0, 0),
  (114, .iload_n 1, 1, 0, 0, 0),
  (115, .iload_n 2, 1, 0, 0, 0),
  (116, .if_icmp .eq 17, 3, 0, 0, 0),
  (119, .aload_n 0, 1, 0, 0, 0),
  (120, .getfield 30, 3, 10, 11, 0),
  (123, .bipush 9, 2, 0, 0, 0),
  (125, .iload_n 1, 1, 0, 0, 0),
  (126, .imul, 1, 0, 0, 0),
  (127, .iload_n 2, 1, 0, 0, 0),
  (128, .iadd, 1, 0, 0, 0),
  (129, .baload, 1, 0, 0, 0),
  (130, .ifCond .eq 7, 3, 0, 0, 0),
  (133, .iconst 1, 1, 0, 0, 0),
  (134, .goto 4, 3, 0, 0, 0),
  (137, .iconst 0, 1, 0, 0, 0),
  (138, .bastore, 1, 0, 0, 0),
  (139, .iinc 2 1, 3, 0, 0, 0),
  (142, .goto (-90), 3, 0, 0, 0),
  (145, .iinc 1 1, 3, 0, 0, 0),
  (148, .goto (-104), 3, 0, 0, 0),
  (151, .iconst 0, 1, 0, 0, 0),
  (152, .istore_n 1, 1, 0, 0, 0),
  (153, .iload_n 1, 1, 0, 0, 0),
  (154, .bipush 9, 2, 0, 0, 0),
  (156, .if_icmp .ge 95, 3, 0, 0, 0),
  (159, .iconst 0, 1, 0, 0, 0),
  (160, .istore_n 2, 1, 0, 0, 0),
  (161, .iload_n 2, 1, 0, 0, 0),
  (162, .bipush 9, 2, 0, 0, 0),
  (164, .if_icmp .ge 81, 3, 0, 0, 0),
  (167, .iconst 0, 1, 0, 0, 0),
  (168, .istore_n 3, 1, 0, 0, 0),
  (169, .iload_n 3, 1, 0, 0, 0),
  (170, .bipush 9, 2, 0, 0, 0),
  (172, .if_icmp .ge 67, 3, 0, 0, 0),
  (175, .aload_n 0, 1, 0, 0, 0),
  (176, .getfield 33, 3, 10, 12, 0),
  (179, .bipush 9, 2, 0, 0, 0),
  (181, .iload_n 2, 1, 0, 0, 0),
  (182, .imul, 1, 0, 0, 0),
  (183, .iload_n 3, 1, 0, 0, 0),
  (184, .iadd, 1, 0, 0, 0),
  (185, .aload_n 0, 1, 0, 0, 0),
  (186, .getfield 33, 3, 10, 12, 0),
  (189, .bipush 9, 2, 0, 0, 0),
  (191, .iload_n 2, 1, 0, 0, 0),
  (192, .imul, 1, 0, 0, 0),
  (193, .iload_n 3, 1, 0, 0, 0),
  (194, .iadd, 1, 0, 0, 0),
  (195, .baload, 1, 0, 0, 0),
  (196, .ifCond .ne 31, 3, 0, 0, 0),
  (199, .aload_n 0, 1, 0, 0, 0),
  (200, .getfield 33, 3, 10, 12, 0),
  (203, .bipush 9, 2, 0, 0, 0),
  (205, .iload_n 2, 1, 0, 0, 0),
  (206, .imul, 1, 0, 0, 0),
  (207, .iload_n 1, 1, 0, 0, 0),
  (208, .iadd, 1, 0, 0, 0),
  (209, .baload, 1, 0, 0, 0),
  (210, .ifCond .eq 21, 3, 0, 0, 0),
  (213, .aload_n 0, 1, 0, 0, 0),
  (214, .getfield 33, 3, 10, 12, 0),
  (217, .bipush 9, 2, 0, 0, 0),
  (219, .iload_n 1, 1, 0, 0, 0),
  (220, .imul, 1, 0, 0, 0),
  (221, .iload_n 3, 1, 0, 0, 0),
  (222, .iadd, 1, 0, 0, 0),
  (223, .baload, 1, 0, 0, 0),
  (224, .ifCond .eq 7, 3, 0, 0, 0),
  (227, .iconst 1, 1, 0, 0, 0),
  (228, .goto 4, 3, 0, 0, 0),
  (231, .iconst 0, 1, 0, 0, 0),
  (232, .bastore, 1, 0, 0, 0),
  (233, .iinc 3 1, 3, 0, 0, 0),
  (236, .goto (-67), 3, 0, 0, 0),
  (239, .iinc 2 1, 3, 0, 0, 0),
  (242, .goto (-81), 3, 0, 0, 0),
  (245, .iinc 1 1, 3, 0, 0, 0),
  (248, .goto (-95), 3, 0, 0, 0),
  (251, .aload_n 0, 1, 0, 0, 0),
  (252, .invokevirtual 99, 3, 71, 1, 10),
  (255, .aload_n 0, 1, 0, 0, 0),
  (256, .iconst 0, 1, 0, 0, 0),
  (257, .putfield 102, 3, 10, 14, 0),
  (260, .aload_n 0, 1, 0, 0, 0),
  (261, .iconst 0, 1, 0, 0, 0),
  (262, .putfield 105, 3, 10, 16, 0),
  (265, .aload_n 0, 1, 0, 0, 0),
  (266, .invokevirtual 108, 3, 73, 1, 10),
  (269, .istore_n 1, 1, 0, 0, 0),
  (270, .iconst 1, 1, 0, 0, 0),
  (271, .istore_n 2, 1, 0, 0, 0),
  (272, .iload_n 2, 1, 0, 0, 0),
  (273, .sipush 128, 3, 0, 0, 0),
  (276, .if_icmp .ge 27, 3, 0, 0, 0),
  (279, .iload_n 2, 1, 0, 0, 0),
  (280, .iload_n 1, 1, 0, 0, 0),
  (281, .iconst (-1), 1, 0, 0, 0),
  (282, .ixor, 1, 0, 0, 0),
  (283, .iand, 1, 0, 0, 0),
  (284, .ifCond .ne 13, 3, 0, 0, 0),
  (287, .aload_n 0, 1, 0, 0, 0),
  (288, .iload_n 2, 1, 0, 0, 0),
  (289, .invokevirtual 111, 3, 75, 2, 10),
  (292, .aload_n 0, 1, 0, 0, 0),
  (293, .iload_n 2, 1, 0, 0, 0),
  (294, .invokevirtual 115, 3, 81, 2, 10),
  (297, .iinc 2 1, 3, 0, 0, 0),
  (300, .goto (-28), 3, 0, 0, 0),
  (303, .return_, 1, 0, 0, 0)])
def zm_83 : zM := (⟨"SiphonReportModel", "read", "()I"⟩, prog_12_method_11_code, 4, (some .int), 5, 143, 2, 0, [
  (0, .aload_n 0, 1, 0, 0, 0),
  (1, .invokevirtual 83, 3, 65, 1, 10),
  (4, .istore_n 1, 1, 0, 0, 0),
  (5, .iload_n 1, 1, 0, 0, 0),
  (6, .ifCond .lt 7, 3, 0, 0, 0),
  (9, .iconst (-1), 1, 0, 0, 0),
  (10, .iload_n 1, 1, 0, 0, 0),
  (11, .isub, 1, 0, 0, 0),
  (12, .ireturn, 1, 0, 0, 0),
  (13, .aload_n 0, 1, 0, 0, 0),
  (14, .iconst 0, 1, 0, 0, 0),
  (15, .putfield 63, 3, 10, 2, 0),
  (18, .aload_n 0, 1, 0, 0, 0),
  (19, .iconst 0, 1, 0, 0, 0),
  (20, .putfield 66, 3, 10, 5, 0),
  (23, .iconst 0, 1, 0, 0, 0),
  (24, .istore_n 2, 1, 0, 0, 0),
  (25, .iload_n 2, 1, 0, 0, 0),
  (26, .bipush 121, 2, 0, 0, 0),
  (28, .if_icmp .ge 16, 3, 0, 0, 0),
  (31, .aload_n 0, 1, 0, 0, 0),
  (32, .getfield 17, 3, 10, 4, 0),
  (35, .iload_n 2, 1, 0, 0, 0),
  (36, .iconst 0, 1, 0, 0, 0),
  (37, .bastore, 1, 0, 0, 0),
  (38, .iinc 2 1, 3, 0, 0, 0),
  (41, .goto (-16), 3, 0, 0, 0),
  (44, .aload_n 0, 1, 0, 0, 0),
  (45, .invokevirtual 80, 3, 66, 1, 10),
  (48, .iconst 1, 1, 0, 0, 0),
  (49, .istore_n 2, 1, 0, 0, 0),
  (50, .iconst 0, 1, 0, 0, 0),
  (51, .istore_n 3, 1, 0, 0, 0),
  (52, .iload_n 3, 1, 0, 0, 0),
  (53, .aload_n 0, 1, 0, 0, 0),
  (54, .getfield 55, 3, 10, 1, 0),
  (57, .if_icmp .ge 30, 3, 0, 0, 0),
  (60, .iload_n 2, 1, 0, 0, 0),
  (61, .ifCond .eq 18, 3, 0, 0, 0),
  (64, .aload_n 0, 1, 0, 0, 0),
  (65, .getfield 7, 3, 10, 0, 0),
  (68, .iload_n 3, 1, 0, 0, 0),
  (69, .caload, 1, 0, 0, 0),
  (70, .bipush 32, 2, 0, 0, 0),
  (72, .if_icmp .ne 7, 3, 0, 0, 0),
  (75, .iconst 1, 1, 0, 0, 0),
  (76, .goto 4, 3, 0, 0, 0),
  (79, .iconst 0, 1, 0, 0, 0),
  (80, .istore_n 2, 1, 0, 0, 0),
  (81, .iinc 3 1, 3, 0, 0, 0),
  (84, .goto (-32), 3, 0, 0, 0),
  (87, .iload_n 2, 1, 0, 0, 0),
  (88, .ifCond .eq 7, 3, 0, 0, 0),
  (91, .iconst 0, 1, 0, 0, 0),
  (92, .goto 7, 3, 0, 0, 0),
  (95, .aload_n 0, 1, 0, 0, 0),
  (96, .invokevirtual 87, 3, 70, 1, 10),
  (99, .istore_n 3, 1, 0, 0, 0),
  (100, .iload_n 3, 1, 0, 0, 0),
  (101, .ifCond .eq 5, 3, 0, 0, 0),
  (104, .iload_n 3, 1, 0, 0, 0),
  (105, .ireturn, 1, 0, 0, 0),
  (106, .aload_n 0, 1, 0, 0, 0),
  (107, .invokevirtual 90, 3, 82, 1, 10),
  (110, .aload_n 0, 1, 0, 0, 0),
  (111, .getfield 93, 3, 10, 9, 0),
  (114, .ireturn, 1, 0, 0, 0)])
def zm_84 : zM := (⟨"SiphonReport", "reactions", "()I"⟩, prog_1_method_5_code, 1, (some .int), 0, 0, 2, 0, [
  (0, .aload_n 0, 1, 0, 0, 0),
  (1, .getfield 61, 3, 0, 7, 0),
  (4, .getfield 104, 4, 4, 5, 0),
  (7, .ireturn, 1, 0, 0, 0)])
def zm_85 : zM := (⟨"SiphonReportModel", "reactions", "()I"⟩, prog_12_method_24_code, 1, (some .int), 0, 0, 2, 0, [
  (0, .aload_n 0, 1, 0, 0, 0),
  (1, .getfield 93, 3, 10, 9, 0),
  (4, .ireturn, 1, 0, 0, 0)])
def zm_86 : zM := (⟨"SiphonReport", "complexes", "()I"⟩, prog_1_method_6_code, 1, (some .int), 0, 0, 2, 0, [
  (0, .aload_n 0, 1, 0, 0, 0),
  (1, .getfield 61, 3, 0, 7, 0),
  (4, .getfield 107, 4, 4, 4, 0),
  (7, .ireturn, 1, 0, 0, 0)])
def zm_87 : zM := (⟨"SiphonReportModel", "complexes", "()I"⟩, prog_12_method_25_code, 1, (some .int), 0, 0, 2, 0, [
  (0, .aload_n 0, 1, 0, 0, 0),
  (1, .getfield 96, 3, 10, 8, 0),
  (4, .ireturn, 1, 0, 0, 0)])
def zm_88 : zM := (⟨"SiphonReport$Network", "has", "(I)Z"⟩, prog_6_method_2_code, 2, (some .boolean), 0, 0, 2, 1, [
  (0, .iload_n 1, 1, 0, 0, 0),
  (1, .ifCond .lt 15, 3, 0, 0, 0),
  (4, .iload_n 1, 1, 0, 0, 0),
  (5, .aload_n 0, 1, 0, 0, 0),
  (6, .getfield 26, 3, 4, 4, 0),
  (9, .if_icmp .ge 7, 3, 0, 0, 0),
  (12, .iconst 1, 1, 0, 0, 0),
  (13, .goto 4, 3, 0, 0, 0),
  (16, .iconst 0, 1, 0, 0, 0),
  (17, .ireturn, 1, 0, 0, 0)])
def zm_89 : zM := (⟨"SiphonReport", "coefficient", "(II)I"⟩, prog_1_method_7_code, 3, (some .int), 1, 21, 2, 2, [
  (0, .aload_n 0, 1, 0, 0, 0),
  (1, .getfield 61, 3, 0, 7, 0),
  (4, .iload_n 1, 1, 0, 0, 0),
  (5, .invokevirtual 110, 3, 88, 2, 4),
  (8, .ifCond .eq 10, 3, 0, 0, 0),
  (11, .iload_n 2, 1, 0, 0, 0),
  (12, .invokestatic 114, 3, 17, 1, 0),
  (15, .ifCond .ne 5, 3, 0, 0, 0),
  (18, .iconst (-1), 1, 0, 0, 0),
  (19, .ireturn, 1, 0, 0, 0),
  (20, .aload_n 0, 1, 0, 0, 0),
  (21, .getfield 61, 3, 0, 7, 0),
  (24, .getfield 117, 4, 4, 0, 0),
  (27, .iload_n 1, 1, 0, 0, 0),
  (28, .aaload, 1, 0, 0, 0),
  (29, .iload_n 2, 1, 0, 0, 0),
  (30, .iaload, 1, 0, 0, 0),
  (31, .ireturn, 1, 0, 0, 0)])
def zm_90 : zM := (⟨"SiphonReportModel", "isComplex", "(I)Z"⟩, prog_12_method_23_code, 2, (some .boolean), 0, 0, 2, 1, [
  (0, .iload_n 1, 1, 0, 0, 0),
  (1, .ifCond .lt 15, 3, 0, 0, 0),
  (4, .iload_n 1, 1, 0, 0, 0),
  (5, .aload_n 0, 1, 0, 0, 0),
  (6, .getfield 96, 3, 10, 8, 0),
  (9, .if_icmp .ge 7, 3, 0, 0, 0),
  (12, .iconst 1, 1, 0, 0, 0),
  (13, .goto 4, 3, 0, 0, 0),
  (16, .iconst 0, 1, 0, 0, 0),
  (17, .ireturn, 1, 0, 0, 0)])
def zm_91 : zM := (⟨"SiphonReportModel", "coefficient", "(II)I"⟩, prog_12_method_26_code, 3, (some .int), 1, 21, 2, 2, [
  (0, .aload_n 0, 1, 0, 0, 0),
  (1, .iload_n 1, 1, 0, 0, 0),
  (2, .invokevirtual 146, 3, 90, 2, 10),
  (5, .ifCond .eq 27, 3, 0, 0, 0),
  (8, .iload_n 2, 1, 0, 0, 0),
  (9, .ifCond .lt 23, 3, 0, 0, 0),
  (12, .iload_n 2, 1, 0, 0, 0),
  (13, .bipush 7, 2, 0, 0, 0),
  (15, .if_icmp .ge 17, 3, 0, 0, 0),
  (18, .aload_n 0, 1, 0, 0, 0),
  (19, .getfield 27, 3, 10, 10, 0),
  (22, .bipush 7, 2, 0, 0, 0),
  (24, .iload_n 1, 1, 0, 0, 0),
  (25, .imul, 1, 0, 0, 0),
  (26, .iload_n 2, 1, 0, 0, 0),
  (27, .iadd, 1, 0, 0, 0),
  (28, .iaload, 1, 0, 0, 0),
  (29, .goto 4, 3, 0, 0, 0),
  (32, .iconst (-1), 1, 0, 0, 0),
  (33, .ireturn, 1, 0, 0, 0)])
def zm_92 : zM := (⟨"SiphonReport", "occurring", "()I"⟩, prog_1_method_8_code, 1, (some .int), 1, 22, 2, 0, [
  (0, .aload_n 0, 1, 0, 0, 0),
  (1, .getfield 61, 3, 0, 7, 0),
  (4, .invokevirtual 121, 3, 50, 1, 4),
  (7, .ireturn, 1, 0, 0, 0)])
def zm_93 : zM := (⟨"SiphonReport", "linkage", "()I"⟩, prog_1_method_9_code, 1, (some .int), 0, 0, 2, 0, [
  (0, .aload_n 0, 1, 0, 0, 0),
  (1, .getfield 33, 3, 0, 3, 0),
  (4, .getfield 125, 4, 5, 5, 0),
  (7, .ireturn, 1, 0, 0, 0)])
def zm_94 : zM := (⟨"SiphonReportModel", "linkage", "()I"⟩, prog_12_method_28_code, 3, (some .int), 0, 0, 2, 0, [
  (0, .iconst 0, 1, 0, 0, 0),
  (1, .istore_n 1, 1, 0, 0, 0),
  (2, .iconst 0, 1, 0, 0, 0),
  (3, .istore_n 2, 1, 0, 0, 0),
  (4, .iload_n 2, 1, 0, 0, 0),
  (5, .aload_n 0, 1, 0, 0, 0),
  (6, .getfield 96, 3, 10, 8, 0),
  (9, .if_icmp .ge 27, 3, 0, 0, 0),
  (12, .iload_n 1, 1, 0, 0, 0),
  (13, .aload_n 0, 1, 0, 0, 0),
  (14, .getfield 36, 3, 10, 13, 0),
  (17, .iload_n 2, 1, 0, 0, 0),
  (18, .iaload, 1, 0, 0, 0),
  (19, .iload_n 2, 1, 0, 0, 0),
  (20, .if_icmp .ne 7, 3, 0, 0, 0),
  (23, .iconst 1, 1, 0, 0, 0),
  (24, .goto 4, 3, 0, 0, 0),
  (27, .iconst 0, 1, 0, 0, 0),
  (28, .iadd, 1, 0, 0, 0),
  (29, .istore_n 1, 1, 0, 0, 0),
  (30, .iinc 2 1, 3, 0, 0, 0),
  (33, .goto (-29), 3, 0, 0, 0),
  (36, .iload_n 1, 1, 0, 0, 0),
  (37, .ireturn, 1, 0, 0, 0)])
def zm_95 : zM := (⟨"SiphonReport", "classOf", "(I)I"⟩, prog_1_method_10_code, 2, (some .int), 1, 21, 2, 1, [
  (0, .aload_n 0, 1, 0, 0, 0),
  (1, .getfield 61, 3, 0, 7, 0),
  (4, .iload_n 1, 1, 0, 0, 0),
  (5, .invokevirtual 110, 3, 88, 2, 4),
  (8, .ifCond .eq 15, 3, 0, 0, 0),
  (11, .aload_n 0, 1, 0, 0, 0),
  (12, .getfield 33, 3, 0, 3, 0),
  (15, .getfield 128, 4, 5, 2, 0),
  (18, .iload_n 1, 1, 0, 0, 0),
  (19, .iaload, 1, 0, 0, 0),
  (20, .goto 4, 3, 0, 0, 0),
  (23, .iconst (-1), 1, 0, 0, 0),
  (24, .ireturn, 1, 0, 0, 0)])
def zm_96 : zM := (⟨"SiphonReportModel", "classOf", "(I)I"⟩, prog_12_method_29_code, 4, (some .int), 1, 21, 2, 1, [
  (0, .aload_n 0, 1, 0, 0, 0),
  (1, .iload_n 1, 1, 0, 0, 0),
  (2, .invokevirtual 146, 3, 90, 2, 10),
  (5, .ifCond .ne 5, 3, 0, 0, 0),
  (8, .iconst (-1), 1, 0, 0, 0),
  (9, .ireturn, 1, 0, 0, 0),
  (10, .iconst 0, 1, 0, 0, 0),
  (11, .istore_n 2, 1, 0, 0, 0),
  (12, .iconst 0, 1, 0, 0, 0),
  (13, .istore_n 3, 1, 0, 0, 0),
  (14, .iload_n 3, 1, 0, 0, 0),
  (15, .aload_n 0, 1, 0, 0, 0),
  (16, .getfield 36, 3, 10, 13, 0),
  (19, .iload_n 1, 1, 0, 0, 0),
  (20, .iaload, 1, 0, 0, 0),
  (21, .if_icmp .ge 27, 3, 0, 0, 0),
  (24, .iload_n 2, 1, 0, 0, 0),
  (25, .aload_n 0, 1, 0, 0, 0),
  (26, .getfield 36, 3, 10, 13, 0),
  (29, .iload_n 3, 1, 0, 0, 0),
  (30, .iaload, 1, 0, 0, 0),
  (31, .iload_n 3, 1, 0, 0, 0),
  (32, .if_icmp .ne 7, 3, 0, 0, 0),
  (35, .iconst 1, 1, 0, 0, 0),
  (36, .goto 4, 3, 0, 0, 0),
  (39, .iconst 0, 1, 0, 0, 0),
  (40, .iadd, 1, 0, 0, 0),
  (41, .istore_n 2, 1, 0, 0, 0),
  (42, .iinc 3 1, 3, 0, 0, 0),
  (45, .goto (-31), 3, 0, 0, 0),
  (48, .iload_n 2, 1, 0, 0, 0),
  (49, .ireturn, 1, 0, 0, 0)])
def zm_97 : zM := (⟨"SiphonReport", "strong", "()I"⟩, prog_1_method_11_code, 1, (some .int), 0, 0, 2, 0, [
  (0, .aload_n 0, 1, 0, 0, 0),
  (1, .getfield 33, 3, 0, 3, 0),
  (4, .getfield 132, 4, 5, 6, 0),
  (7, .ireturn, 1, 0, 0, 0)])
def zm_98 : zM := (⟨"SiphonReportModel", "heads", "(I)Z"⟩, prog_12_method_30_code, 4, (some .boolean), 0, 0, 2, 1, [
  (0, .iconst 1, 1, 0, 0, 0),
  (1, .istore_n 2, 1, 0, 0, 0),
  (2, .iconst 0, 1, 0, 0, 0),
  (3, .istore_n 3, 1, 0, 0, 0),
  (4, .iload_n 3, 1, 0, 0, 0),
  (5, .iload_n 1, 1, 0, 0, 0),
  (6, .if_icmp .ge 47, 3, 0, 0, 0),
  (9, .iload_n 2, 1, 0, 0, 0),
  (10, .ifCond .eq 35, 3, 0, 0, 0),
  (13, .aload_n 0, 1, 0, 0, 0),
  (14, .getfield 33, 3, 10, 12, 0),
  (17, .bipush 9, 2, 0, 0, 0),
  (19, .iload_n 3, 1, 0, 0, 0),
  (20, .imul, 1, 0, 0, 0),
  (21, .iload_n 1, 1, 0, 0, 0),
  (22, .iadd, 1, 0, 0, 0),
  (23, .baload, 1, 0, 0, 0),
  (24, .ifCond .eq 17, 3, 0, 0, 0),
  (27, .aload_n 0, 1, 0, 0, 0),
  (28, .getfield 33, 3, 10, 12, 0),
  (31, .bipush 9, 2, 0, 0, 0),
  (33, .iload_n 1, 1, 0, 0, 0),
  (34, .imul, 1, 0, 0, 0),
  (35, .iload_n 3, 1, 0, 0, 0),
  (36, .iadd, 1, 0, 0, 0),
  (37, .baload, 1, 0, 0, 0),
  (38, .ifCond .ne 7, 3, 0, 0, 0),
  (41, .iconst 1, 1, 0, 0, 0),
  (42, .goto 4, 3, 0, 0, 0),
  (45, .iconst 0, 1, 0, 0, 0),
  (46, .istore_n 2, 1, 0, 0, 0),
  (47, .iinc 3 1, 3, 0, 0, 0),
  (50, .goto (-46), 3, 0, 0, 0),
  (53, .iload_n 2, 1, 0, 0, 0),
  (54, .ireturn, 1, 0, 0, 0)])
def zm_99 : zM := (⟨"SiphonReportModel", "strong", "()I"⟩, prog_12_method_31_code, 3, (some .int), 1, 23, 2, 0, [
  (0, .iconst 0, 1, 0, 0, 0),
  (1, .istore_n 1, 1, 0, 0, 0),
  (2, .iconst 0, 1, 0, 0, 0),
  (3, .istore_n 2, 1, 0, 0, 0),
  (4, .iload_n 2, 1, 0, 0, 0),
  (5, .aload_n 0, 1, 0, 0, 0),
  (6, .getfield 96, 3, 10, 8, 0),
  (9, .if_icmp .ge 25, 3, 0, 0, 0),
  (12, .iload_n 1, 1, 0, 0, 0),
  (13, .aload_n 0, 1, 0, 0, 0),
  (14, .iload_n 2, 1, 0, 0, 0),
  (15, .invokevirtual 149, 3, 98, 2, 10),
  (18, .ifCond .eq 7, 3, 0, 0, 0),
  (21, .iconst 1, 1, 0, 0, 0),
  (22, .goto 4, 3, 0, 0, 0),
  (25, .iconst 0, 1, 0, 0, 0),
  (26, .iadd, 1, 0, 0, 0),
  (27, .istore_n 1, 1, 0, 0, 0),
  (28, .iinc 2 1, 3, 0, 0, 0),
  (31, .goto (-27), 3, 0, 0, 0),
  (34, .iload_n 1, 1, 0, 0, 0),
  (35, .ireturn, 1, 0, 0, 0)])
def zm_100 : zM := (⟨"SiphonReport", "terminal", "(I)Z"⟩, prog_1_method_12_code, 2, (some .boolean), 3, 65, 2, 1, [
  (0, .aload_n 0, 1, 0, 0, 0),
  (1, .getfield 61, 3, 0, 7, 0),
  (4, .iload_n 1, 1, 0, 0, 0),
  (5, .invokevirtual 110, 3, 88, 2, 4),
  (8, .ifCond .eq 18, 3, 0, 0, 0),
  (11, .aload_n 0, 1, 0, 0, 0),
  (12, .getfield 33, 3, 0, 3, 0),
  (15, .iload_n 1, 1, 0, 0, 0),
  (16, .invokevirtual 135, 3, 39, 2, 5),
  (19, .ifCond .eq 7, 3, 0, 0, 0),
  (22, .iconst 1, 1, 0, 0, 0),
  (23, .goto 4, 3, 0, 0, 0),
  (26, .iconst 0, 1, 0, 0, 0),
  (27, .ireturn, 1, 0, 0, 0)])
def zm_101 : zM := (⟨"SiphonReportModel", "terminal", "(I)Z"⟩, prog_12_method_32_code, 3, (some .boolean), 1, 21, 2, 1, [
  (0, .aload_n 0, 1, 0, 0, 0),
  (1, .iload_n 1, 1, 0, 0, 0),
  (2, .invokevirtual 146, 3, 90, 2, 10),
  (5, .ifCond .ne 5, 3, 0, 0, 0),
  (8, .iconst 0, 1, 0, 0, 0),
  (9, .ireturn, 1, 0, 0, 0),
  (10, .iconst 0, 1, 0, 0, 0),
  (11, .istore_n 2, 1, 0, 0, 0),
  (12, .iload_n 2, 1, 0, 0, 0),
  (13, .aload_n 0, 1, 0, 0, 0),
  (14, .getfield 96, 3, 10, 8, 0),
  (17, .if_icmp .ge 39, 3, 0, 0, 0),
  (20, .aload_n 0, 1, 0, 0, 0),
  (21, .getfield 33, 3, 10, 12, 0),
  (24, .bipush 9, 2, 0, 0, 0),
  (26, .iload_n 1, 1, 0, 0, 0),
  (27, .imul, 1, 0, 0, 0),
  (28, .iload_n 2, 1, 0, 0, 0),
  (29, .iadd, 1, 0, 0, 0),
  (30, .baload, 1, 0, 0, 0),
  (31, .ifCond .eq 19, 3, 0, 0, 0),
  (34, .aload_n 0, 1, 0, 0, 0),
  (35, .getfield 33, 3, 10, 12, 0),
  (38, .bipush 9, 2, 0, 0, 0),
  (40, .iload_n 2, 1, 0, 0, 0),
  (41, .imul, 1, 0, 0, 0),
  (42, .iload_n 1, 1, 0, 0, 0),
  (43, .iadd, 1, 0, 0, 0),
  (44, .baload, 1, 0, 0, 0),
  (45, .ifCond .ne 5, 3, 0, 0, 0),
  (48, .iconst 0, 1, 0, 0, 0),
  (49, .ireturn, 1, 0, 0, 0),
  (50, .iinc 2 1, 3, 0, 0, 0),
  (53, .goto (-41), 3, 0, 0, 0),
  (56, .iconst 1, 1, 0, 0, 0),
  (57, .ireturn, 1, 0, 0, 0)])
def zm_102 : zM := (⟨"SiphonReport", "rank", "()I"⟩, prog_1_method_13_code, 1, (some .int), 0, 0, 2, 0, [
  (0, .aload_n 0, 1, 0, 0, 0),
  (1, .getfield 40, 3, 0, 4, 0),
  (4, .getfield 138, 4, 6, 3, 0),
  (7, .ireturn, 1, 0, 0, 0)])
def zm_103 : zM := (⟨"SiphonReportModel", "rank", "()I"⟩, prog_12_method_33_code, 1, (some .int), 3, 86, 2, 0, [
  (0, .aload_n 0, 1, 0, 0, 0),
  (1, .iconst (-1), 1, 0, 0, 0),
  (2, .bipush 127, 2, 0, 0, 0),
  (4, .invokevirtual 143, 3, 80, 3, 10),
  (7, .ireturn, 1, 0, 0, 0)])
def zm_104 : zM := (⟨"SiphonReport", "deficiency", "(I)I"⟩, prog_1_method_14_code, 2, (some .int), 0, 0, 2, 1, [
  (0, .iload_n 1, 1, 0, 0, 0),
  (1, .iconst (-1), 1, 0, 0, 0),
  (2, .if_icmp .ne 27, 3, 0, 0, 0),
  (5, .aload_n 0, 1, 0, 0, 0),
  (6, .getfield 61, 3, 0, 7, 0),
  (9, .getfield 107, 4, 4, 4, 0),
  (12, .aload_n 0, 1, 0, 0, 0),
  (13, .getfield 33, 3, 0, 3, 0),
  (16, .getfield 125, 4, 5, 5, 0),
  (19, .isub, 1, 0, 0, 0),
  (20, .aload_n 0, 1, 0, 0, 0),
  (21, .getfield 40, 3, 0, 4, 0),
  (24, .getfield 138, 4, 6, 3, 0),
  (27, .isub, 1, 0, 0, 0),
  (28, .ireturn, 1, 0, 0, 0),
  (29, .iload_n 1, 1, 0, 0, 0),
  (30, .ifCond .lt 14, 3, 0, 0, 0),
  (33, .iload_n 1, 1, 0, 0, 0),
  (34, .aload_n 0, 1, 0, 0, 0),
  (35, .getfield 33, 3, 0, 3, 0),
  (38, .getfield 125, 4, 5, 5, 0),
  (41, .if_icmp .lt 5, 3, 0, 0, 0),
  (44, .iconst (-1), 1, 0, 0, 0),
  (45, .ireturn, 1, 0, 0, 0),
  (46, .aload_n 0, 1, 0, 0, 0),
  (47, .getfield 33, 3, 0, 3, 0),
  (50, .getfield 141, 4, 5, 3, 0),
  (53, .iload_n 1, 1, 0, 0, 0),
  (54, .iaload, 1, 0, 0, 0),
  (55, .iconst 1, 1, 0, 0, 0),
  (56, .isub, 1, 0, 0, 0),
  (57, .aload_n 0, 1, 0, 0, 0),
  (58, .getfield 40, 3, 0, 4, 0),
  (61, .getfield 144, 4, 6, 2, 0),
  (64, .iload_n 1, 1, 0, 0, 0),
  (65, .iaload, 1, 0, 0, 0),
  (66, .isub, 1, 0, 0, 0),
  (67, .ireturn, 1, 0, 0, 0)])
def zm_105 : zM := (⟨"SiphonReportModel", "deficiency", "(I)I"⟩, prog_12_method_34_code, 5, (some .int), 4, 106, 2, 1, [
  (0, .iload_n 1, 1, 0, 0, 0),
  (1, .iconst (-1), 1, 0, 0, 0),
  (2, .if_icmp .ne 18, 3, 0, 0, 0),
  (5, .aload_n 0, 1, 0, 0, 0),
  (6, .getfield 96, 3, 10, 8, 0),
  (9, .aload_n 0, 1, 0, 0, 0),
  (10, .invokevirtual 152, 3, 94, 1, 10),
  (13, .isub, 1, 0, 0, 0),
  (14, .aload_n 0, 1, 0, 0, 0),
  (15, .invokevirtual 155, 3, 103, 1, 10),
  (18, .isub, 1, 0, 0, 0),
  (19, .ireturn, 1, 0, 0, 0),
  (20, .iconst 0, 1, 0, 0, 0),
  (21, .istore_n 2, 1, 0, 0, 0),
  (22, .iconst (-1), 1, 0, 0, 0),
  (23, .istore_n 3, 1, 0, 0, 0),
  (24, .iconst 0, 1, 0, 0, 0),
  (25, .istore 4, 2, 0, 0, 0),
  (27, .iload 4, 2, 0, 0, 0),
  (29, .aload_n 0, 1, 0, 0, 0),
  (30, .getfield 96, 3, 10, 8, 0),
  (33, .if_icmp .ge 33, 3, 0, 0, 0),
  (36, .aload_n 0, 1, 0, 0, 0),
  (37, .iload 4, 2, 0, 0, 0),
  (39, .invokevirtual 158, 3, 96, 2, 10),
  (42, .iload_n 1, 1, 0, 0, 0),
  (43, .if_icmp .ne 17, 3, 0, 0, 0),
  (46, .iinc 2 1, 3, 0, 0, 0),
  (49, .iload_n 3, 1, 0, 0, 0),
  (50, .ifCond .ge 8, 3, 0, 0, 0),
  (53, .iload 4, 2, 0, 0, 0),
  (55, .goto 4, 3, 0, 0, 0),
  (58, .iload_n 3, 1, 0, 0, 0),
  (59, .istore_n 3, 1, 0, 0, 0),
  (60, .iinc 4 1, 3, 0, 0, 0),
  (63, .goto (-36), 3, 0, 0, 0),
  (66, .iload_n 2, 1, 0, 0, 0),
  (67, .ifCond .ne 7, 3, 0, 0, 0),
  (70, .iconst (-1), 1, 0, 0, 0),
  (71, .goto 14, 3, 0, 0, 0),
  (74, .iload_n 2, 1, 0, 0, 0),
  (75, .iconst 1, 1, 0, 0, 0),
  (76, .isub, 1, 0, 0, 0),
  (77, .aload_n 0, 1, 0, 0, 0),
  (78, .iload_n 3, 1, 0, 0, 0),
  (79, .bipush 127, 2, 0, 0, 0),
  (81, .invokevirtual 143, 3, 80, 3, 10),
  (84, .isub, 1, 0, 0, 0),
  (85, .ireturn, 1, 0, 0, 0)])
def zm_106 : zM := (⟨"SiphonReport", "siphons", "()I"⟩, prog_1_method_15_code, 1, (some .int), 0, 0, 2, 0, [
  (0, .aload_n 0, 1, 0, 0, 0),
  (1, .getfield 47, 3, 0, 5, 0),
  (4, .getfield 147, 4, 8, 1, 0),
  (7, .ireturn, 1, 0, 0, 0)])
def zm_107 : zM := (⟨"SiphonReportModel", "siphons", "()I"⟩, prog_12_method_35_code, 1, (some .int), 0, 0, 2, 0, [
  (0, .aload_n 0, 1, 0, 0, 0),
  (1, .getfield 102, 3, 10, 14, 0),
  (4, .ireturn, 1, 0, 0, 0)])
def zm_108 : zM := (⟨"SiphonReport$SetList", "has", "(I)Z"⟩, prog_8_method_2_code, 2, (some .boolean), 0, 0, 2, 1, [
  (0, .iload_n 1, 1, 0, 0, 0),
  (1, .ifCond .lt 15, 3, 0, 0, 0),
  (4, .iload_n 1, 1, 0, 0, 0),
  (5, .aload_n 0, 1, 0, 0, 0),
  (6, .getfield 15, 3, 8, 1, 0),
  (9, .if_icmp .ge 7, 3, 0, 0, 0),
  (12, .iconst 1, 1, 0, 0, 0),
  (13, .goto 4, 3, 0, 0, 0),
  (16, .iconst 0, 1, 0, 0, 0),
  (17, .ireturn, 1, 0, 0, 0)])
def zm_109 : zM := (⟨"SiphonReport$SetList", "at", "(I)I"⟩, prog_8_method_3_code, 2, (some .int), 1, 21, 2, 1, [
  (0, .aload_n 0, 1, 0, 0, 0),
  (1, .iload_n 1, 1, 0, 0, 0),
  (2, .invokevirtual 19, 3, 108, 2, 8),
  (5, .ifCond .eq 12, 3, 0, 0, 0),
  (8, .aload_n 0, 1, 0, 0, 0),
  (9, .getfield 9, 3, 8, 0, 0),
  (12, .iload_n 1, 1, 0, 0, 0),
  (13, .iaload, 1, 0, 0, 0),
  (14, .goto 4, 3, 0, 0, 0),
  (17, .iconst 0, 1, 0, 0, 0),
  (18, .ireturn, 1, 0, 0, 0)])
def zm_110 : zM := (⟨"SiphonReport", "siphon", "(I)I"⟩, prog_1_method_16_code, 2, (some .int), 2, 42, 2, 1, [
  (0, .aload_n 0, 1, 0, 0, 0),
  (1, .getfield 47, 3, 0, 5, 0),
  (4, .iload_n 1, 1, 0, 0, 0),
  (5, .invokevirtual 150, 3, 109, 2, 8),
  (8, .ireturn, 1, 0, 0, 0)])
def zm_111 : zM := (⟨"SiphonReportModel", "siphon", "(I)I"⟩, prog_12_method_36_code, 2, (some .int), 0, 0, 2, 1, [
  (0, .iload_n 1, 1, 0, 0, 0),
  (1, .ifCond .lt 20, 3, 0, 0, 0),
  (4, .iload_n 1, 1, 0, 0, 0),
  (5, .aload_n 0, 1, 0, 0, 0),
  (6, .getfield 102, 3, 10, 14, 0),
  (9, .if_icmp .ge 12, 3, 0, 0, 0),
  (12, .aload_n 0, 1, 0, 0, 0),
  (13, .getfield 39, 3, 10, 15, 0),
  (16, .iload_n 1, 1, 0, 0, 0),
  (17, .iaload, 1, 0, 0, 0),
  (18, .goto 4, 3, 0, 0, 0),
  (21, .iconst 0, 1, 0, 0, 0),
  (22, .ireturn, 1, 0, 0, 0)])
def zm_112 : zM := (⟨"SiphonReport", "conserved", "(I)Z"⟩, prog_1_method_17_code, 2, (some .boolean), 2, 43, 2, 1, [
  (0, .aload_n 0, 1, 0, 0, 0),
  (1, .getfield 47, 3, 0, 5, 0),
  (4, .iload_n 1, 1, 0, 0, 0),
  (5, .invokevirtual 154, 3, 108, 2, 8),
  (8, .ifCond .eq 28, 3, 0, 0, 0),
  (11, .aload_n 0, 1, 0, 0, 0),
  (12, .getfield 54, 3, 0, 6, 0),
  (15, .getfield 155, 4, 9, 0, 0),
  (18, .aload_n 0, 1, 0, 0, 0),
  (19, .getfield 47, 3, 0, 5, 0),
  (22, .iload_n 1, 1, 0, 0, 0),
  (23, .invokevirtual 150, 3, 109, 2, 8),
  (26, .invokevirtual 158, 3, 52, 2, 8),
  (29, .ifCond .eq 7, 3, 0, 0, 0),
  (32, .iconst 1, 1, 0, 0, 0),
  (33, .goto 4, 3, 0, 0, 0),
  (36, .iconst 0, 1, 0, 0, 0),
  (37, .ireturn, 1, 0, 0, 0)])
def zm_113 : zM := (⟨"SiphonReportModel", "conserved", "(I)Z"⟩, prog_12_method_37_code, 4, (some .boolean), 0, 0, 2, 1, [
  (0, .iconst 0, 1, 0, 0, 0),
  (1, .istore_n 2, 1, 0, 0, 0),
  (2, .iconst 0, 1, 0, 0, 0),
  (3, .istore_n 3, 1, 0, 0, 0),
  (4, .iload_n 3, 1, 0, 0, 0),
  (5, .aload_n 0, 1, 0, 0, 0),
  (6, .getfield 105, 3, 10, 16, 0),
  (9, .if_icmp .ge 49, 3, 0, 0, 0),
  (12, .iload_n 1, 1, 0, 0, 0),
  (13, .ifCond .lt 45, 3, 0, 0, 0),
  (16, .iload_n 1, 1, 0, 0, 0),
  (17, .aload_n 0, 1, 0, 0, 0),
  (18, .getfield 102, 3, 10, 14, 0),
  (21, .if_icmp .ge 37, 3, 0, 0, 0),
  (24, .iload_n 2, 1, 0, 0, 0),
  (25, .ifCond .ne 21, 3, 0, 0, 0),
  (28, .aload_n 0, 1, 0, 0, 0),
  (29, .getfield 42, 3, 10, 17, 0),
  (32, .iload_n 3, 1, 0, 0, 0),
  (33, .iaload, 1, 0, 0, 0),
  (34, .aload_n 0, 1, 0, 0, 0),
  (35, .getfield 39, 3, 10, 15, 0),
  (38, .iload_n 1, 1, 0, 0, 0),
  (39, .iaload, 1, 0, 0, 0),
  (40, .iconst (-1), 1, 0, 0, 0),
  (41, .ixor, 1, 0, 0, 0),
  (42, .iand, 1, 0, 0, 0),
  (43, .ifCond .ne 7, 3, 0, 0, 0),
  (46, .iconst 1, 1, 0, 0, 0),
  (47, .goto 4, 3, 0, 0, 0),
  (50, .iconst 0, 1, 0, 0, 0),
  (51, .istore_n 2, 1, 0, 0, 0),
  (52, .iinc 3 1, 3, 0, 0, 0),
  (55, .goto (-51), 3, 0, 0, 0),
  (58, .iload_n 2, 1, 0, 0, 0),
  (59, .ireturn, 1, 0, 0, 0)])
def zm_114 : zM := (⟨"SiphonReport", "sums", "()I"⟩, prog_1_method_18_code, 1, (some .int), 0, 0, 2, 0, [
  (0, .aload_n 0, 1, 0, 0, 0),
  (1, .getfield 54, 3, 0, 6, 0),
  (4, .getfield 155, 4, 9, 0, 0),
  (7, .getfield 147, 4, 8, 1, 0),
  (10, .ireturn, 1, 0, 0, 0)])
def zm_115 : zM := (⟨"SiphonReportModel", "sums", "()I"⟩, prog_12_method_38_code, 1, (some .int), 0, 0, 2, 0, [
  (0, .aload_n 0, 1, 0, 0, 0),
  (1, .getfield 105, 3, 10, 16, 0),
  (4, .ireturn, 1, 0, 0, 0)])
def zm_116 : zM := (⟨"SiphonReport", "support", "(I)I"⟩, prog_1_method_19_code, 2, (some .int), 2, 42, 2, 1, [
  (0, .aload_n 0, 1, 0, 0, 0),
  (1, .getfield 54, 3, 0, 6, 0),
  (4, .getfield 155, 4, 9, 0, 0),
  (7, .iload_n 1, 1, 0, 0, 0),
  (8, .invokevirtual 150, 3, 109, 2, 8),
  (11, .ireturn, 1, 0, 0, 0)])
def zm_117 : zM := (⟨"SiphonReportModel", "support", "(I)I"⟩, prog_12_method_39_code, 2, (some .int), 0, 0, 2, 1, [
  (0, .iload_n 1, 1, 0, 0, 0),
  (1, .ifCond .lt 20, 3, 0, 0, 0),
  (4, .iload_n 1, 1, 0, 0, 0),
  (5, .aload_n 0, 1, 0, 0, 0),
  (6, .getfield 105, 3, 10, 16, 0),
  (9, .if_icmp .ge 12, 3, 0, 0, 0),
  (12, .aload_n 0, 1, 0, 0, 0),
  (13, .getfield 42, 3, 10, 17, 0),
  (16, .iload_n 1, 1, 0, 0, 0),
  (17, .iaload, 1, 0, 0, 0),
  (18, .goto 4, 3, 0, 0, 0),
  (21, .iconst 0, 1, 0, 0, 0),
  (22, .ireturn, 1, 0, 0, 0)])
def zm_118 : zM := (⟨"SiphonReport", "weight", "(II)I"⟩, prog_1_method_20_code, 3, (some .int), 1, 21, 2, 2, [
  (0, .aload_n 0, 1, 0, 0, 0),
  (1, .getfield 54, 3, 0, 6, 0),
  (4, .getfield 155, 4, 9, 0, 0),
  (7, .iload_n 1, 1, 0, 0, 0),
  (8, .invokevirtual 154, 3, 108, 2, 8),
  (11, .ifCond .eq 10, 3, 0, 0, 0),
  (14, .iload_n 2, 1, 0, 0, 0),
  (15, .invokestatic 114, 3, 17, 1, 0),
  (18, .ifCond .ne 5, 3, 0, 0, 0),
  (21, .iconst (-1), 1, 0, 0, 0),
  (22, .ireturn, 1, 0, 0, 0),
  (23, .aload_n 0, 1, 0, 0, 0),
  (24, .getfield 54, 3, 0, 6, 0),
  (27, .getfield 161, 4, 9, 1, 0),
  (30, .iload_n 1, 1, 0, 0, 0),
  (31, .aaload, 1, 0, 0, 0),
  (32, .iload_n 2, 1, 0, 0, 0),
  (33, .iaload, 1, 0, 0, 0),
  (34, .ireturn, 1, 0, 0, 0)])
def zm_119 : zM := (⟨"SiphonReportModel", "weight", "(II)I"⟩, prog_12_method_40_code, 3, (some .int), 0, 0, 2, 2, [
  (0, .iload_n 1, 1, 0, 0, 0),
  (1, .ifCond .lt 35, 3, 0, 0, 0),
  (4, .iload_n 1, 1, 0, 0, 0),
  (5, .aload_n 0, 1, 0, 0, 0),
  (6, .getfield 105, 3, 10, 16, 0),
  (9, .if_icmp .ge 27, 3, 0, 0, 0),
  (12, .iload_n 2, 1, 0, 0, 0),
  (13, .ifCond .lt 23, 3, 0, 0, 0),
  (16, .iload_n 2, 1, 0, 0, 0),
  (17, .bipush 7, 2, 0, 0, 0),
  (19, .if_icmp .ge 17, 3, 0, 0, 0),
  (22, .aload_n 0, 1, 0, 0, 0),
  (23, .getfield 45, 3, 10, 18, 0),
  (26, .bipush 7, 2, 0, 0, 0),
  (28, .iload_n 1, 1, 0, 0, 0),
  (29, .imul, 1, 0, 0, 0),
  (30, .iload_n 2, 1, 0, 0, 0),
  (31, .iadd, 1, 0, 0, 0),
  (32, .iaload, 1, 0, 0, 0),
  (33, .goto 4, 3, 0, 0, 0),
  (36, .iconst (-1), 1, 0, 0, 0),
  (37, .ireturn, 1, 0, 0, 0)])
def zm_120 : zM := (⟨"SiphonReport", "everyLinkageIsStrong", "()Z"⟩, prog_1_method_23_code, 1, (some .boolean), 0, 0, 2, 0, [
  (0, .aload_n 0, 1, 0, 0, 0),
  (1, .getfield 33, 3, 0, 3, 0),
  (4, .getfield 132, 4, 5, 6, 0),
  (7, .aload_n 0, 1, 0, 0, 0),
  (8, .getfield 33, 3, 0, 3, 0),
  (11, .getfield 125, 4, 5, 5, 0),
  (14, .if_icmp .ne 7, 3, 0, 0, 0),
  (17, .iconst 1, 1, 0, 0, 0),
  (18, .goto 4, 3, 0, 0, 0),
  (21, .iconst 0, 1, 0, 0, 0),
  (22, .ireturn, 1, 0, 0, 0)])
def zm_121 : zM := (⟨"SiphonReport", "linkagesAreNearlySimple", "()Z"⟩, prog_1_method_24_code, 4, (some .boolean), 1, 21, 2, 0, [
  (0, .iconst 0, 1, 0, 0, 0),
  (1, .istore_n 1, 1, 0, 0, 0),
  (2, .iconst 0, 1, 0, 0, 0),
  (3, .istore_n 2, 1, 0, 0, 0),
  (4, .iload_n 2, 1, 0, 0, 0),
  (5, .aload_n 0, 1, 0, 0, 0),
  (6, .getfield 33, 3, 0, 3, 0),
  (9, .getfield 125, 4, 5, 5, 0),
  (12, .if_icmp .ge 39, 3, 0, 0, 0),
  (15, .aload_n 0, 1, 0, 0, 0),
  (16, .iload_n 2, 1, 0, 0, 0),
  (17, .invokevirtual 167, 3, 104, 2, 0),
  (20, .istore_n 3, 1, 0, 0, 0),
  (21, .iload_n 3, 1, 0, 0, 0),
  (22, .iconst 1, 1, 0, 0, 0),
  (23, .if_icmp .gt 16, 3, 0, 0, 0),
  (26, .aload_n 0, 1, 0, 0, 0),
  (27, .getfield 33, 3, 0, 3, 0),
  (30, .getfield 190, 4, 5, 4, 0),
  (33, .iload_n 2, 1, 0, 0, 0),
  (34, .iaload, 1, 0, 0, 0),
  (35, .iconst 1, 1, 0, 0, 0),
  (36, .if_icmp .eq 5, 3, 0, 0, 0),
  (39, .iconst 0, 1, 0, 0, 0),
  (40, .ireturn, 1, 0, 0, 0),
  (41, .iload_n 1, 1, 0, 0, 0),
  (42, .iload_n 3, 1, 0, 0, 0),
  (43, .iadd, 1, 0, 0, 0),
  (44, .istore_n 1, 1, 0, 0, 0),
  (45, .iinc 2 1, 3, 0, 0, 0),
  (48, .goto (-44), 3, 0, 0, 0),
  (51, .iload_n 1, 1, 0, 0, 0),
  (52, .aload_n 0, 1, 0, 0, 0),
  (53, .iconst (-1), 1, 0, 0, 0),
  (54, .invokevirtual 167, 3, 104, 2, 0),
  (57, .if_icmp .ne 7, 3, 0, 0, 0),
  (60, .iconst 1, 1, 0, 0, 0),
  (61, .goto 4, 3, 0, 0, 0),
  (64, .iconst 0, 1, 0, 0, 0),
  (65, .ireturn, 1, 0, 0, 0)])
def zm_122 : zM := (⟨"SiphonReport", "everySiphonIsConserved", "()Z"⟩, prog_1_method_25_code, 2, (some .boolean), 3, 64, 2, 0, [
  (0, .iconst 0, 1, 0, 0, 0),
  (1, .istore_n 1, 1, 0, 0, 0),
  (2, .iload_n 1, 1, 0, 0, 0),
  (3, .aload_n 0, 1, 0, 0, 0),
  (4, .getfield 47, 3, 0, 5, 0),
  (7, .getfield 147, 4, 8, 1, 0),
  (10, .if_icmp .ge 19, 3, 0, 0, 0),
  (13, .aload_n 0, 1, 0, 0, 0),
  (14, .iload_n 1, 1, 0, 0, 0),
  (15, .invokevirtual 193, 3, 112, 2, 0),
  (18, .ifCond .ne 5, 3, 0, 0, 0),
  (21, .iconst 0, 1, 0, 0, 0),
  (22, .ireturn, 1, 0, 0, 0),
  (23, .iinc 1 1, 3, 0, 0, 0),
  (26, .goto (-24), 3, 0, 0, 0),
  (29, .iconst 1, 1, 0, 0, 0),
  (30, .ireturn, 1, 0, 0, 0)])
def zm_123 : zM := (⟨"SiphonReport$SetList", "union", "()I"⟩, prog_8_method_6_code, 3, (some .int), 0, 0, 2, 0, [
  (0, .iconst 0, 1, 0, 0, 0),
  (1, .istore_n 1, 1, 0, 0, 0),
  (2, .iconst 0, 1, 0, 0, 0),
  (3, .istore_n 2, 1, 0, 0, 0),
  (4, .iload_n 2, 1, 0, 0, 0),
  (5, .aload_n 0, 1, 0, 0, 0),
  (6, .getfield 15, 3, 8, 1, 0),
  (9, .if_icmp .ge 18, 3, 0, 0, 0),
  (12, .iload_n 1, 1, 0, 0, 0),
  (13, .aload_n 0, 1, 0, 0, 0),
  (14, .getfield 9, 3, 8, 0, 0),
  (17, .iload_n 2, 1, 0, 0, 0),
  (18, .iaload, 1, 0, 0, 0),
  (19, .ior, 1, 0, 0, 0),
  (20, .istore_n 1, 1, 0, 0, 0),
  (21, .iinc 2 1, 3, 0, 0, 0),
  (24, .goto (-20), 3, 0, 0, 0),
  (27, .iload_n 1, 1, 0, 0, 0),
  (28, .ireturn, 1, 0, 0, 0)])
def zm_124 : zM := (⟨"SiphonReport", "everySpeciesIsConserved", "()Z"⟩, prog_1_method_26_code, 1, (some .boolean), 1, 22, 2, 0, [
  (0, .aload_n 0, 1, 0, 0, 0),
  (1, .getfield 54, 3, 0, 6, 0),
  (4, .getfield 155, 4, 9, 0, 0),
  (7, .invokevirtual 196, 3, 123, 1, 8),
  (10, .aload_n 0, 1, 0, 0, 0),
  (11, .getfield 61, 3, 0, 7, 0),
  (14, .invokevirtual 121, 3, 50, 1, 4),
  (17, .if_icmp .ne 7, 3, 0, 0, 0),
  (20, .iconst 1, 1, 0, 0, 0),
  (21, .goto 4, 3, 0, 0, 0),
  (24, .iconst 0, 1, 0, 0, 0),
  (25, .ireturn, 1, 0, 0, 0)])
def zm_125 : zM := (⟨"SiphonReport", "flags", "()I"⟩, prog_1_method_21_code, 2, (some .int), 4, 85, 2, 0, [
  (0, .iconst 0, 1, 0, 0, 0),
  (1, .istore_n 1, 1, 0, 0, 0),
  (2, .aload_n 0, 1, 0, 0, 0),
  (3, .invokevirtual 164, 3, 120, 1, 0),
  (6, .ifCond .eq 17, 3, 0, 0, 0),
  (9, .iinc 1 1, 3, 0, 0, 0),
  (12, .aload_n 0, 1, 0, 0, 0),
  (13, .iconst (-1), 1, 0, 0, 0),
  (14, .invokevirtual 167, 3, 104, 2, 0),
  (17, .ifCond .ne 6, 3, 0, 0, 0),
  (20, .iinc 1 2, 3, 0, 0, 0),
  (23, .aload_n 0, 1, 0, 0, 0),
  (24, .invokevirtual 170, 3, 121, 1, 0),
  (27, .ifCond .eq 6, 3, 0, 0, 0),
  (30, .iinc 1 4, 3, 0, 0, 0),
  (33, .aload_n 0, 1, 0, 0, 0),
  (34, .invokevirtual 173, 3, 122, 1, 0),
  (37, .ifCond .eq 6, 3, 0, 0, 0),
  (40, .iinc 1 8, 3, 0, 0, 0),
  (43, .aload_n 0, 1, 0, 0, 0),
  (44, .invokevirtual 176, 3, 124, 1, 0),
  (47, .ifCond .eq 6, 3, 0, 0, 0),
  (50, .iinc 1 16, 3, 0, 0, 0),
  (53, .iload_n 1, 1, 0, 0, 0),
  (54, .ireturn, 1, 0, 0, 0)])
def zm_126 : zM := (⟨"SiphonReportModel", "single", "()Z"⟩, prog_12_method_41_code, 5, (some .boolean), 5, 130, 2, 0, [
  (0, .iconst 0, 1, 0, 0, 0),
  (1, .istore_n 1, 1, 0, 0, 0),
  (2, .iconst 0, 1, 0, 0, 0),
  (3, .istore_n 2, 1, 0, 0, 0),
  (4, .iload_n 2, 1, 0, 0, 0),
  (5, .aload_n 0, 1, 0, 0, 0),
  (6, .invokevirtual 152, 3, 94, 1, 10),
  (9, .if_icmp .ge 90, 3, 0, 0, 0),
  (12, .iconst 0, 1, 0, 0, 0),
  (13, .istore_n 3, 1, 0, 0, 0),
  (14, .iconst 0, 1, 0, 0, 0),
  (15, .istore 4, 2, 0, 0, 0),
  (17, .iload 4, 2, 0, 0, 0),
  (19, .aload_n 0, 1, 0, 0, 0),
  (20, .getfield 96, 3, 10, 8, 0),
  (23, .if_icmp .ge 45, 3, 0, 0, 0),
  (26, .iload_n 3, 1, 0, 0, 0),
  (27, .aload_n 0, 1, 0, 0, 0),
  (28, .iload 4, 2, 0, 0, 0),
  (30, .invokevirtual 158, 3, 96, 2, 10),
  (33, .iload_n 2, 1, 0, 0, 0),
  (34, .if_icmp .ne 25, 3, 0, 0, 0),
  (37, .aload_n 0, 1, 0, 0, 0),
  (38, .iload 4, 2, 0, 0, 0),
  (40, .invokevirtual 149, 3, 98, 2, 10),
  (43, .ifCond .eq 16, 3, 0, 0, 0),
  (46, .aload_n 0, 1, 0, 0, 0),
  (47, .iload 4, 2, 0, 0, 0),
  (49, .invokevirtual 161, 3, 101, 2, 10),
  (52, .ifCond .eq 7, 3, 0, 0, 0),
  (55, .iconst 1, 1, 0, 0, 0),
  (56, .goto 4, 3, 0, 0, 0),
  (59, .iconst 0, 1, 0, 0, 0),
  (60, .iadd, 1, 0, 0, 0),
  (61, .istore_n 3, 1, 0, 0, 0),
  (62, .iinc 4 1, 3, 0, 0, 0),
  (65, .goto (-48), 3, 0, 0, 0),
  (68, .aload_n 0, 1, 0, 0, 0),
  (69, .iload_n 2, 1, 0, 0, 0),
  (70, .invokevirtual 164, 3, 105, 2, 10),
  (73, .istore 4, 2, 0, 0, 0),
  (75, .iload 4, 2, 0, 0, 0),
  (77, .iconst 1, 1, 0, 0, 0),
  (78, .if_icmp .gt 8, 3, 0, 0, 0),
  (81, .iload_n 3, 1, 0, 0, 0),
  (82, .iconst 1, 1, 0, 0, 0),
  (83, .if_icmp .eq 5, 3, 0, 0, 0),
  (86, .iconst 0, 1, 0, 0, 0),
  (87, .ireturn, 1, 0, 0, 0),
  (88, .iload_n 1, 1, 0, 0, 0),
  (89, .iload 4, 2, 0, 0, 0),
  (91, .iadd, 1, 0, 0, 0),
  (92, .istore_n 1, 1, 0, 0, 0),
  (93, .iinc 2 1, 3, 0, 0, 0),
  (96, .goto (-92), 3, 0, 0, 0),
  (99, .iload_n 1, 1, 0, 0, 0),
  (100, .aload_n 0, 1, 0, 0, 0),
  (101, .iconst (-1), 1, 0, 0, 0),
  (102, .invokevirtual 164, 3, 105, 2, 10),
  (105, .if_icmp .ne 7, 3, 0, 0, 0),
  (108, .iconst 1, 1, 0, 0, 0),
  (109, .goto 4, 3, 0, 0, 0),
  (112, .iconst 0, 1, 0, 0, 0),
  (113, .ireturn, 1, 0, 0, 0)])
def zm_127 : zM := (⟨"SiphonReportModel", "flags", "()I"⟩, prog_12_method_42_code, 6, (some .int), 6, 154, 2, 0, [
  (0, .aload_n 0, 1, 0, 0, 0),
  (1, .invokevirtual 167, 3, 99, 1, 10),
  (4, .aload_n 0, 1, 0, 0, 0),
  (5, .invokevirtual 152, 3, 94, 1, 10),
  (8, .if_icmp .ne 7, 3, 0, 0, 0),
  (11, .iconst 1, 1, 0, 0, 0),
  (12, .goto 4, 3, 0, 0, 0),
  (15, .iconst 0, 1, 0, 0, 0),
  (16, .istore_n 1, 1, 0, 0, 0),
  (17, .iload_n 1, 1, 0, 0, 0),
  (18, .ifCond .eq 7, 3, 0, 0, 0),
  (21, .iconst 1, 1, 0, 0, 0),
  (22, .goto 4, 3, 0, 0, 0),
  (25, .iconst 0, 1, 0, 0, 0),
  (26, .istore_n 2, 1, 0, 0, 0),
  (27, .iload_n 2, 1, 0, 0, 0),
  (28, .iload_n 1, 1, 0, 0, 0),
  (29, .ifCond .eq 15, 3, 0, 0, 0),
  (32, .aload_n 0, 1, 0, 0, 0),
  (33, .iconst (-1), 1, 0, 0, 0),
  (34, .invokevirtual 164, 3, 105, 2, 10),
  (37, .ifCond .ne 7, 3, 0, 0, 0),
  (40, .iconst 2, 1, 0, 0, 0),
  (41, .goto 4, 3, 0, 0, 0),
  (44, .iconst 0, 1, 0, 0, 0),
  (45, .iadd, 1, 0, 0, 0),
  (46, .istore_n 2, 1, 0, 0, 0),
  (47, .iload_n 2, 1, 0, 0, 0),
  (48, .aload_n 0, 1, 0, 0, 0),
  (49, .invokevirtual 170, 3, 126, 1, 10),
  (52, .ifCond .eq 7, 3, 0, 0, 0),
  (55, .iconst 4, 1, 0, 0, 0),
  (56, .goto 4, 3, 0, 0, 0),
  (59, .iconst 0, 1, 0, 0, 0),
  (60, .iadd, 1, 0, 0, 0),
  (61, .istore_n 2, 1, 0, 0, 0),
  (62, .iconst 1, 1, 0, 0, 0),
  (63, .istore_n 3, 1, 0, 0, 0),
  (64, .iconst 0, 1, 0, 0, 0),
  (65, .istore 4, 2, 0, 0, 0),
  (67, .iload 4, 2, 0, 0, 0),
  (69, .aload_n 0, 1, 0, 0, 0),
  (70, .getfield 102, 3, 10, 14, 0),
  (73, .if_icmp .ge 28, 3, 0, 0, 0),
  (76, .iload_n 3, 1, 0, 0, 0),
  (77, .ifCond .eq 16, 3, 0, 0, 0),
  (80, .aload_n 0, 1, 0, 0, 0),
  (81, .iload 4, 2, 0, 0, 0),
  (83, .invokevirtual 174, 3, 113, 2, 10),
  (86, .ifCond .eq 7, 3, 0, 0, 0),
  (89, .iconst 1, 1, 0, 0, 0),
  (90, .goto 4, 3, 0, 0, 0),
  (93, .iconst 0, 1, 0, 0, 0),
  (94, .istore_n 3, 1, 0, 0, 0),
  (95, .iinc 4 1, 3, 0, 0, 0),
  (98, .goto (-31), 3, 0, 0, 0),
  (101, .iconst 0, 1, 0, 0, 0),
  (102, .istore 4, 2, 0, 0, 0),
  (104, .iconst 0, 1, 0, 0, 0),
  (105, .istore 5, 2, 0, 0, 0),
  (107, .iload 5, 2, 0, 0, 0),
  (109, .aload_n 0, 1, 0, 0, 0),
  (110, .getfield 105, 3, 10, 16, 0),
  (113, .if_icmp .ge 21, 3, 0, 0, 0),
  (116, .iload 4, 2, 0, 0, 0),
  (118, .aload_n 0, 1, 0, 0, 0),
  (119, .getfield 42, 3, 10, 17, 0),
  (122, .iload 5, 2, 0, 0, 0),
  (124, .iaload, 1, 0, 0, 0),
  (125, .ior, 1, 0, 0, 0),
  (126, .istore 4, 2, 0, 0, 0),
  (128, .iinc 5 1, 3, 0, 0, 0),
  (131, .goto (-24), 3, 0, 0, 0),
  (134, .iload_n 2, 1, 0, 0, 0),
  (135, .iload_n 3, 1, 0, 0, 0),
  (136, .ifCond .eq 8, 3, 0, 0, 0),
  (139, .bipush 8, 2, 0, 0, 0),
  (141, .goto 4, 3, 0, 0, 0),
  (144, .iconst 0, 1, 0, 0, 0),
  (145, .iadd, 1, 0, 0, 0),
  (146, .iload 4, 2, 0, 0, 0),
  (148, .aload_n 0, 1, 0, 0, 0),
  (149, .invokevirtual 108, 3, 73, 1, 10),
  (152, .if_icmp .ne 8, 3, 0, 0, 0),
  (155, .bipush 16, 2, 0, 0, 0),
  (157, .goto 4, 3, 0, 0, 0),
  (160, .iconst 0, 1, 0, 0, 0),
  (161, .iadd, 1, 0, 0, 0),
  (162, .ireturn, 1, 0, 0, 0)])
def zm_128 : zM := (x, code, 4, ret, 7, 179, 3, 1, [
  (0, .new 7, 3, 0, 0, 0),
  (3, .dup, 1, 0, 0, 0),
  (4, .invokespecial 9, 3, 9, 1, 1),
  (7, .astore_n 1, 1, 0, 0, 0),
  (8, .new 10, 3, 10, 0, 0),
  (11, .dup, 1, 0, 0, 0),
  (12, .invokespecial 12, 3, 10, 1, 1),
  (15, .astore_n 2, 1, 0, 0, 0),
  (16, .iconst 0, 1, 0, 0, 0),
  (17, .istore_n 3, 1, 0, 0, 0),
  (18, .iload_n 3, 1, 0, 0, 0),
  (19, .aload_n 0, 1, 0, 0, 0),
  (20, .arraylength, 1, 0, 0, 0),
  (21, .iconst 3, 1, 0, 0, 0),
  (22, .isub, 1, 0, 0, 0),
  (23, .if_icmp .gt 481, 3, 0, 0, 0),
  (26, .aload_n 0, 1, 0, 0, 0),
  (27, .iload_n 3, 1, 0, 0, 0),
  (28, .iaload, 1, 0, 0, 0),
  (29, .bipush 31, 2, 0, 0, 0),
  (31, .iand, 1, 0, 0, 0),
  (32, .tableswitch 466 0 19 #[96, 121, 132, 145, 158, 171, 204, 217, 230, 253, 266, 289, 302, 325, 338, 361, 384, 397, 420, 453], 96, 0, 0, 0),
  (128, .aload_n 1, 1, 0, 0, 0),
  (129, .aload_n 0, 1, 0, 0, 0),
  (130, .iload_n 3, 1, 0, 0, 0),
  (131, .iconst 1, 1, 0, 0, 0),
  (132, .iadd, 1, 0, 0, 0),
  (133, .iaload, 1, 0, 0, 0),
  (134, .i2c, 1, 0, 0, 0),
  (135, .invokevirtual 13, 3, 12, 2, 0),
  (138, .aload_n 2, 1, 0, 0, 0),
  (139, .aload_n 0, 1, 0, 0, 0),
  (140, .iload_n 3, 1, 0, 0, 0),
  (141, .iconst 1, 1, 0, 0, 0),
  (142, .iadd, 1, 0, 0, 0),
  (143, .iaload, 1, 0, 0, 0),
  (144, .i2c, 1, 0, 0, 0),
  (145, .invokevirtual 17, 3, 13, 2, 10),
  (148, .if_icmp .eq 350, 3, 0, 0, 0),
  (151, .iconst 0, 1, 0, 0, 0),
  (152, .ireturn, 1, 0, 0, 0),
  (153, .aload_n 1, 1, 0, 0, 0),
  (154, .invokevirtual 18, 3, 14, 1, 0),
  (157, .aload_n 2, 1, 0, 0, 0),
  (158, .invokevirtual 21, 3, 15, 1, 10),
  (161, .goto 337, 3, 0, 0, 0),
  (164, .aload_n 1, 1, 0, 0, 0),
  (165, .invokevirtual 22, 3, 63, 1, 0),
  (168, .aload_n 2, 1, 0, 0, 0),
  (169, .invokevirtual 26, 3, 83, 1, 10),
  (172, .if_icmp .eq 326, 3, 0, 0, 0),
  (175, .iconst 0, 1, 0, 0, 0),
  (176, .ireturn, 1, 0, 0, 0),
  (177, .aload_n 1, 1, 0, 0, 0),
  (178, .invokevirtual 27, 3, 84, 1, 0),
  (181, .aload_n 2, 1, 0, 0, 0),
  (182, .invokevirtual 30, 3, 85, 1, 10),
  (185, .if_icmp .eq 313, 3, 0, 0, 0),
  (188, .iconst 0, 1, 0, 0, 0),
  (189, .ireturn, 1, 0, 0, 0),
  (190, .aload_n 1, 1, 0, 0, 0),
  (191, .invokevirtual 31, 3, 86, 1, 0),
  (194, .aload_n 2, 1, 0, 0, 0),
  (195, .invokevirtual 34, 3, 87, 1, 10),
  (198, .if_icmp .eq 300, 3, 0, 0, 0),
  (201, .iconst 0, 1, 0, 0, 0),
  (202, .ireturn, 1, 0, 0, 0),
  (203, .aload_n 1, 1, 0, 0, 0),
  (204, .aload_n 0, 1, 0, 0, 0),
  (205, .iload_n 3, 1, 0, 0, 0),
  (206, .iconst 1, 1, 0, 0, 0),
  (207, .iadd, 1, 0, 0, 0),
  (208, .iaload, 1, 0, 0, 0),
  (209, .aload_n 0, 1, 0, 0, 0),
  (210, .iload_n 3, 1, 0, 0, 0),
  (211, .iconst 2, 1, 0, 0, 0),
  (212, .iadd, 1, 0, 0, 0),
  (213, .iaload, 1, 0, 0, 0),
  (214, .invokevirtual 35, 3, 89, 3, 0),
  (217, .aload_n 2, 1, 0, 0, 0),
  (218, .aload_n 0, 1, 0, 0, 0),
  (219, .iload_n 3, 1, 0, 0, 0),
  (220, .iconst 1, 1, 0, 0, 0),
  (221, .iadd, 1, 0, 0, 0),
  (222, .iaload, 1, 0, 0, 0),
  (223, .aload_n 0, 1, 0, 0, 0),
  (224, .iload_n 3, 1, 0, 0, 0),
  (225, .iconst 2, 1, 0, 0, 0),
  (226, .iadd, 1, 0, 0, 0),
  (227, .iaload, 1, 0, 0, 0),
  (228, .invokevirtual 39, 3, 91, 3, 10),
  (231, .if_icmp .eq 267, 3, 0, 0, 0),
  (234, .iconst 0, 1, 0, 0, 0),
  (235, .ireturn, 1, 0, 0, 0),
  (236, .aload_n 1, 1, 0, 0, 0),
  (237, .invokevirtual 40, 3, 92, 1, 0),
  (240, .aload_n 2, 1, 0, 0, 0),
  (241, .invokevirtual 43, 3, 73, 1, 10),
  (244, .if_icmp .eq 254, 3, 0, 0, 0),
  (247, .iconst 0, 1, 0, 0, 0),
  (248, .ireturn, 1, 0, 0, 0),
  (249, .aload_n 1, 1, 0, 0, 0),
  (250, .invokevirtual 44, 3, 93, 1, 0),
  (253, .aload_n 2, 1, 0, 0, 0),
  (254, .invokevirtual 47, 3, 94, 1, 10),
  (257, .if_icmp .eq 241, 3, 0, 0, 0),
  (260, .iconst 0, 1, 0, 0, 0),
  (261, .ireturn, 1, 0, 0, 0),
  (262, .aload_n 1, 1, 0, 0, 0),
  (263, .aload_n 0, 1, 0, 0, 0),
  (264, .iload_n 3, 1, 0, 0, 0),
  (265, .iconst 1, 1, 0, 0, 0),
  (266, .iadd, 1, 0, 0, 0),
  (267, .iaload, 1, 0, 0, 0),
  (268, .invokevirtual 48, 3, 95, 2, 0),
  (271, .aload_n 2, 1, 0, 0, 0),
  (272, .aload_n 0, 1, 0, 0, 0),
  (273, .iload_n 3, 1, 0, 0, 0),
  (274, .iconst 1, 1, 0, 0, 0),
  (275, .iadd, 1, 0, 0, 0),
  (276, .iaload, 1, 0, 0, 0),
  (277, .invokevirtual 52, 3, 96, 2, 10),
  (280, .if_icmp .eq 218, 3, 0, 0, 0),
  (283, .iconst 0, 1, 0, 0, 0),
  (284, .ireturn, 1, 0, 0, 0),
  (285, .aload_n 1, 1, 0, 0, 0),
  (286, .invokevirtual 53, 3, 97, 1, 0),
  (289, .aload_n 2, 1, 0, 0, 0),
  (290, .invokevirtual 56, 3, 99, 1, 10),
  (293, .if_icmp .eq 205, 3, 0, 0, 0),
  (296, .iconst 0, 1, 0, 0, 0),
  (297, .ireturn, 1, 0, 0, 0),
  (298, .aload_n 1, 1, 0, 0, 0),
  (299, .aload_n 0, 1, 0, 0, 0),
  (300, .iload_n 3, 1, 0, 0, 0),
  (301, .iconst 1, 1, 0, 0, 0),
  (302, .iadd, 1, 0, 0, 0),
  (303, .iaload, 1, 0, 0, 0),
  (304, .invokevirtual 57, 3, 100, 2, 0),
  (307, .aload_n 2, 1, 0, 0, 0),
  (308, .aload_n 0, 1, 0, 0, 0),
  (309, .iload_n 3, 1, 0, 0, 0),
  (310, .iconst 1, 1, 0, 0, 0),
  (311, .iadd, 1, 0, 0, 0),
  (312, .iaload, 1, 0, 0, 0),
  (313, .invokevirtual 61, 3, 101, 2, 10),
  (316, .if_icmp .eq 182, 3, 0, 0, 0),
  (319, .iconst 0, 1, 0, 0, 0),
  (320, .ireturn, 1, 0, 0, 0),
  (321, .aload_n 1, 1, 0, 0, 0),
  (322, .invokevirtual 62, 3, 102, 1, 0),
  (325, .aload_n 2, 1, 0, 0, 0),
  (326, .invokevirtual 65, 3, 103, 1, 10),
  (329, .if_icmp .eq 169, 3, 0, 0, 0),
  (332, .iconst 0, 1, 0, 0, 0),
  (333, .ireturn, 1, 0, 0, 0),
  (334, .aload_n 1, 1, 0, 0, 0),
  (335, .aload_n 0, 1, 0, 0, 0),
  (336, .iload_n 3, 1, 0, 0, 0),
  (337, .iconst 1, 1, 0, 0, 0),
  (338, .iadd, 1, 0, 0, 0),
  (339, .iaload, 1, 0, 0, 0),
  (340, .invokevirtual 66, 3, 104, 2, 0),
  (343, .aload_n 2, 1, 0, 0, 0),
  (344, .aload_n 0, 1, 0, 0, 0),
  (345, .iload_n 3, 1, 0, 0, 0),
  (346, .iconst 1, 1, 0, 0, 0),
  (347, .iadd, 1, 0, 0, 0),
  (348, .iaload, 1, 0, 0, 0),
  (349, .invokevirtual 69, 3, 105, 2, 10),
  (352, .if_icmp .eq 146, 3, 0, 0, 0),
  (355, .iconst 0, 1, 0, 0, 0),
  (356, .ireturn, 1, 0, 0, 0),
  (357, .aload_n 1, 1, 0, 0, 0),
  (358, .invokevirtual 70, 3, 106, 1, 0),
  (361, .aload_n 2, 1, 0, 0, 0),
  (362, .invokevirtual 73, 3, 107, 1, 10),
  (365, .if_icmp .eq 133, 3, 0, 0, 0),
  (368, .iconst 0, 1, 0, 0, 0),
  (369, .ireturn, 1, 0, 0, 0),
  (370, .aload_n 1, 1, 0, 0, 0),
  (371, .aload_n 0, 1, 0, 0, 0),
  (372, .iload_n 3, 1, 0, 0, 0),
  (373, .iconst 1, 1, 0, 0, 0),
  (374, .iadd, 1, 0, 0, 0),
  (375, .iaload, 1, 0, 0, 0),
  (376, .invokevirtual 74, 3, 110, 2, 0),
  (379, .aload_n 2, 1, 0, 0, 0),
  (380, .aload_n 0, 1, 0, 0, 0),
  (381, .iload_n 3, 1, 0, 0, 0),
  (382, .iconst 1, 1, 0, 0, 0),
  (383, .iadd, 1, 0, 0, 0),
  (384, .iaload, 1, 0, 0, 0),
  (385, .invokevirtual 77, 3, 111, 2, 10),
  (388, .if_icmp .eq 110, 3, 0, 0, 0),
  (391, .iconst 0, 1, 0, 0, 0),
  (392, .ireturn, 1, 0, 0, 0),
  (393, .aload_n 1, 1, 0, 0, 0),
  (394, .aload_n 0, 1, 0, 0, 0),
  (395, .iload_n 3, 1, 0, 0, 0),
  (396, .iconst 1, 1, 0, 0, 0),
  (397, .iadd, 1, 0, 0, 0),
  (398, .iaload, 1, 0, 0, 0),
  (399, .invokevirtual 78, 3, 112, 2, 0),
  (402, .aload_n 2, 1, 0, 0, 0),
  (403, .aload_n 0, 1, 0, 0, 0),
  (404, .iload_n 3, 1, 0, 0, 0),
  (405, .iconst 1, 1, 0, 0, 0),
  (406, .iadd, 1, 0, 0, 0),
  (407, .iaload, 1, 0, 0, 0),
  (408, .invokevirtual 81, 3, 113, 2, 10),
  (411, .if_icmp .eq 87, 3, 0, 0, 0),
  (414, .iconst 0, 1, 0, 0, 0),
  (415, .ireturn, 1, 0, 0, 0),
  (416, .aload_n 1, 1, 0, 0, 0),
  (417, .invokevirtual 82, 3, 114, 1, 0),
  (420, .aload_n 2, 1, 0, 0, 0),
  (421, .invokevirtual 85, 3, 115, 1, 10),
  (424, .if_icmp .eq 74, 3, 0, 0, 0),
  (427, .iconst 0, 1, 0, 0, 0),
  (428, .ireturn, 1, 0, 0, 0),
  (429, .aload_n 1, 1, 0, 0, 0),
  (430, .aload_n 0, 1, 0, 0, 0),
  (431, .iload_n 3, 1, 0, 0, 0),
  (432, .iconst 1, 1, 0, 0, 0),
  (433, .iadd, 1, 0, 0, 0),
  (434, .iaload, 1, 0, 0, 0),
  (435, .invokevirtual 86, 3, 116, 2, 0),
  (438, .aload_n 2, 1, 0, 0, 0),
  (439, .aload_n 0, 1, 0, 0, 0),
  (440, .iload_n 3, 1, 0, 0, 0),
  (441, .iconst 1, 1, 0, 0, 0),
  (442, .iadd, 1, 0, 0, 0),
  (443, .iaload, 1, 0, 0, 0),
  (444, .invokevirtual 89, 3, 117, 2, 10),
  (447, .if_icmp .eq 51, 3, 0, 0, 0),
  (450, .iconst 0, 1, 0, 0, 0),
  (451, .ireturn, 1, 0, 0, 0),
  (452, .aload_n 1, 1, 0, 0, 0),
  (453, .aload_n 0, 1, 0, 0, 0),
  (454, .iload_n 3, 1, 0, 0, 0),
  (455, .iconst 1, 1, 0, 0, 0),
  (456, .iadd, 1, 0, 0, 0),
  (457, .iaload, 1, 0, 0, 0),
  (458, .aload_n 0, 1, 0, 0, 0),
  (459, .iload_n 3, 1, 0, 0, 0),
  (460, .iconst 2, 1, 0, 0, 0),
  (461, .iadd, 1, 0, 0, 0),
  (462, .iaload, 1, 0, 0, 0),
  (463, .invokevirtual 90, 3, 118, 3, 0),
  (466, .aload_n 2, 1, 0, 0, 0),
  (467, .aload_n 0, 1, 0, 0, 0),
  (468, .iload_n 3, 1, 0, 0, 0),
  (469, .iconst 1, 1, 0, 0, 0),
  (470, .iadd, 1, 0, 0, 0),
  (471, .iaload, 1, 0, 0, 0),
  (472, .aload_n 0, 1, 0, 0, 0),
  (473, .iload_n 3, 1, 0, 0, 0),
  (474, .iconst 2, 1, 0, 0, 0),
  (475, .iadd, 1, 0, 0, 0),
  (476, .iaload, 1, 0, 0, 0),
  (477, .invokevirtual 93, 3, 119, 3, 10),
  (480, .if_icmp .eq 18, 3, 0, 0, 0),
  (483, .iconst 0, 1, 0, 0, 0),
  (484, .ireturn, 1, 0, 0, 0),
  (485, .aload_n 1, 1, 0, 0, 0),
  (486, .invokevirtual 94, 3, 125, 1, 0),
  (489, .aload_n 2, 1, 0, 0, 0),
  (490, .invokevirtual 97, 3, 127, 1, 10),
  (493, .if_icmp .eq 5, 3, 0, 0, 0),
  (496, .iconst 0, 1, 0, 0, 0),
  (497, .ireturn, 1, 0, 0, 0),
  (498, .iinc 3 3, 3, 0, 0, 0),
  (501, .goto (-483), 3, 0, 0, 0),
  (504, .iconst 1, 1, 0, 0, 0),
  (505, .ireturn, 1, 0, 0, 0)])
def zP : List zM := [zm_0, zm_1, zm_2, zm_3, zm_4, zm_5, zm_6, zm_7, zm_8, zm_9, zm_10, zm_11, zm_12, zm_13, zm_14, zm_15, zm_16, zm_17, zm_18, zm_19, zm_20, zm_21, zm_22, zm_23, zm_24, zm_25, zm_26, zm_27, zm_28, zm_29, zm_30, zm_31, zm_32, zm_33, zm_34, zm_35, zm_36, zm_37, zm_38, zm_39, zm_40, zm_41, zm_42, zm_43, zm_44, zm_45, zm_46, zm_47, zm_48, zm_49, zm_50, zm_51, zm_52, zm_53, zm_54, zm_55, zm_56, zm_57, zm_58, zm_59, zm_60, zm_61, zm_62, zm_63, zm_64, zm_65, zm_66, zm_67, zm_68, zm_69, zm_70, zm_71, zm_72, zm_73, zm_74, zm_75, zm_76, zm_77, zm_78, zm_79, zm_80, zm_81, zm_82, zm_83, zm_84, zm_85, zm_86, zm_87, zm_88, zm_89, zm_90, zm_91, zm_92, zm_93, zm_94, zm_95, zm_96, zm_97, zm_98, zm_99, zm_100, zm_101, zm_102, zm_103, zm_104, zm_105, zm_106, zm_107, zm_108, zm_109, zm_110, zm_111, zm_112, zm_113, zm_114, zm_115, zm_116, zm_117, zm_118, zm_119, zm_120, zm_121, zm_122, zm_123, zm_124, zm_125, zm_126, zm_127, zm_128]
end
section
/-! The tables are right: words among the claim's, classes. -/
set_option maxRecDepth 100000 in
theorem zTs_eq : zTs = zpk [0, 0, 0, 0, 0, 0, 0, 0, 0, 0, 0, 0, 0, 0, 0, 0, 0, 0, 0, 0, 0, 0, 0, 0, 0, 0, 0, 0, 0, 0, 0, 0, 0, 0, 0, 0, 0, 0, 0, 0, 0, 0, 1, 0, 0, 0, 0, 0, 0, 0, 0, 0, 0, 0, 0, 0, 0, 0, 0, 0, 0, 0, 0, 0, 0, 1, 0, 0, 0, 2, 3, 1, 2, 0, 0, 1, 0, 0, 0, 0, 0, 0, 1, 1, 2, 0, 1, 0, 0, 0, 0, 0, 0, 0, 1, 1, 1, 2, 0, 0, 1, 0, 0, 0, 0, 0, 2, 1, 2, 1, 1, 1, 1, 1, 1, 1, 1, 2, 0, 1, 0, 0, 0, 0, 1, 0, 0, 0, 1, 1, 1, 1, 1, 1, 2, 0, 1, 0, 1, 1, 1, 1, 1, 2, 0, 1, 0, 0, 0, 1, 1, 1, 2, 0, 1, 0, 0, 0, 1, 1, 1, 1, 1, 0, 1, 1, 2, 0, 1, 0, 0, 0, 0, 2, 0, 3, 4, 4, 1, 1, 1, 1, 1, 1, 2, 0, 0, 0, 0, 0, 0, 0, 0, 0, 1, 1, 1, 1, 1, 1, 1, 1, 2, 0, 0, 0, 0, 0, 0, 0, 0, 0, 0, 0, 0, 0, 0, 0, 0, 0, 0, 0, 0, 1, 0, 0, 1, 0, 0, 1, 0, 0, 1, 0, 0, 1, 0, 1, 0, 0, 1, 0, 0, 1, 0, 0, 0, 0, 0, 0, 0, 0, 0, 0, 1, 0, 0, 1, 0, 0, 0, 0, 1, 0, 0, 0, 0, 0, 1, 0, 0, 0, 0, 1, 0, 1, 0, 0, 0, 0, 0, 0, 1, 0, 0, 1, 0, 0, 0, 0, 0, 1, 0, 0, 1, 0, 0, 0, 0, 0, 0, 0, 0, 0, 0, 0, 0, 0, 0, 0, 0, 0, 0, 1, 0, 0, 1, 0, 0, 0, 0, 1, 0, 0, 0, 0, 0, 1, 0, 0, 0, 0, 0, 0, 0, 0, 0, 0, 0, 0, 1, 0, 0, 0, 0, 0, 0, 0, 0, 0, 0, 0, 0, 1, 0, 0, 0, 0, 1, 0, 0, 0, 0, 0, 0, 0, 1, 0, 0, 1, 0, 1, 1, 0, 0, 0, 1, 0, 0, 0, 0, 0, 0, 0, 0, 0, 0, 0, 0, 0, 0, 0, 0, 0, 0, 0, 0, 0, 0, 0, 0, 0, 0, 0, 0, 0, 0, 0, 0, 0, 0, 0, 0, 0, 0, 0, 0, 0, 0, 0, 0, 0, 0, 0, 0, 0, 0, 0, 0, 0, 0, 0, 0, 0, 0, 0, 0, 0, 0, 0, 0, 0, 0, 0, 0, 0, 0, 0, 0, 0, 0, 0, 0, 0, 0, 0, 0, 0, 0, 0, 0, 0, 0, 1, 0, 0, 0, 1, 0, 0, 1, 0, 0, 0, 1, 0, 0, 0, 0, 0, 0, 0, 0, 0, 0, 0, 0, 0, 0, 0, 0, 0, 0, 0, 0, 0, 0, 0, 0, 0, 0, 0, 0, 0, 0, 0, 0, 0, 0, 1, 1, 1, 1, 1, 1, 1, 1, 1, 1, 1, 1, 1, 1, 1, 1, 1, 1, 1, 1, 1, 2, 0, 0, 0, 0, 0, 0, 0, 0, 0, 0, 0, 0, 0, 1, 0, 0, 0, 0, 0, 1, 0, 0, 1, 0, 0, 1, 0, 0, 1, 0, 0, 1, 0, 0, 1, 0, 0, 1, 0, 0, 0, 0, 0, 0, 1, 0, 0, 1, 0, 0, 1, 0, 0, 1, 0, 0, 1, 0, 0, 1, 0, 0, 1, 0, 0, 1, 0, 0, 0, 0, 0, 0, 0, 0, 0, 0, 0, 0, 0, 0, 0, 0, 0, 1, 0, 0, 0, 0, 0, 0, 0, 0, 0, 0, 0, 0, 0, 0, 0, 1, 0, 0, 0, 0, 0, 0, 0, 0, 0, 0, 0, 0, 0, 0, 0, 0, 0, 0, 0, 0, 0, 0, 0, 0, 0, 0, 0, 0, 0, 0, 0, 0, 0, 0, 0, 0, 0, 0, 0, 0, 0, 0, 0, 0, 0, 0, 0, 1, 0, 0, 0] lw_tbl := rfl
set_option maxRecDepth 100000 in
theorem zNs_eq : zNs = zpk [66, 4, 0, 1, 0, 0, 8, 15, 19, 6, 0, 1, 1, 0, 1, 1, 17, 5, 6, 1, 1, 9, 2, 1, 11, 4, 1, 7, 4, 3, 1, 1, 10, 5, 0, 2, 0, 0, 1, 0, 0, 0, 1, 0, 0, 0, 1, 81, 29, 6, 8, 7, 44, 20, 13, 5, 15, 1] lw_tbl := rfl
theorem zTs_in : ∀ w ∈ zTs, w ∈ lw_tbl := fun w h => zpk_in _ _ w (by rw [← zTs_eq]; exact h)
theorem zNs_in : ∀ w ∈ zNs, w ∈ lw_tbl := fun w h => zpk_in _ _ w (by rw [← zNs_eq]; exact h)
set_option maxRecDepth 100000 in
theorem zTs_good : ∀ w ∈ zTs, goodWord w = true := List.all_eq_true.mp (by decide +kernel : zTs.all goodWord = true)
set_option maxRecDepth 100000 in
theorem zNs_nest : ∀ w ∈ zNs, znest w = true := List.all_eq_true.mp (by decide +kernel : zNs.all znest = true)
theorem zin_of {Ts ws : List Cond} {is : List Nat} (h : ws.map some = is.map (fun i => Ts[i]?)) : ∀ w ∈ ws, w ∈ Ts := by
  intro w hw
  have h1 : some w ∈ is.map (fun i => Ts[i]?) := by rw [← h]; exact List.mem_map.mpr ⟨w, hw, rfl⟩
  obtain ⟨i, -, hi⟩ := List.mem_map.mp h1
  exact List.mem_of_getElem? hi
set_option maxRecDepth 100000 in
theorem zcl_0 : zcls zTs zFT zCD 0 ("SiphonReport", zF_0, 9) := ⟨zin_of (is := [193, 194, 195, 196, 197, 198, 199, 200, 201]) rfl, by decide +kernel, by decide +kernel, fun fs h => by cases h; exact ⟨rfl, rfl, by decide +kernel⟩⟩
set_option maxRecDepth 100000 in
theorem zci_0 : Cond.instantiable "SiphonReport" 9 ∈ zTs := List.mem_of_getElem? (i := 56) rfl
set_option maxRecDepth 100000 in
theorem zcl_1 : zcls zTs zFT zCD 1 ("SiphonReport$Text", zF_1, 2) := ⟨zin_of (is := [70, 71]) rfl, by decide +kernel, by decide +kernel, fun fs h => by cases h; exact ⟨rfl, rfl, by decide +kernel⟩⟩
set_option maxRecDepth 100000 in
theorem zci_1 : Cond.instantiable "SiphonReport$Text" 2 ∈ zTs := List.mem_of_getElem? (i := 64) rfl
set_option maxRecDepth 100000 in
theorem zcl_2 : zcls zTs zFT zCD 2 ("SiphonReport$Form", zF_2, 3) := ⟨zin_of (is := [81, 82, 83]) rfl, by decide +kernel, by decide +kernel, fun fs h => by cases h; exact ⟨rfl, rfl, by decide +kernel⟩⟩
set_option maxRecDepth 100000 in
theorem zci_2 : Cond.instantiable "SiphonReport$Form" 3 ∈ zTs := List.mem_of_getElem? (i := 74) rfl
set_option maxRecDepth 100000 in
theorem zcl_3 : zcls zTs zFT zCD 3 ("SiphonReport$Lines", zF_3, 4) := ⟨zin_of (is := [93, 94, 95, 96]) rfl, by decide +kernel, by decide +kernel, fun fs h => by cases h; exact ⟨rfl, rfl, by decide +kernel⟩⟩
set_option maxRecDepth 100000 in
theorem zci_3 : Cond.instantiable "SiphonReport$Lines" 4 ∈ zTs := List.mem_of_getElem? (i := 85) rfl
set_option maxRecDepth 100000 in
theorem zcl_4 : zcls zTs zFT zCD 4 ("SiphonReport$Network", zF_4, 6) := ⟨zin_of (is := [178, 179, 180, 181, 182, 183]) rfl, by decide +kernel, by decide +kernel, fun fs h => by cases h; exact ⟨rfl, rfl, by decide +kernel⟩⟩
set_option maxRecDepth 100000 in
theorem zci_4 : Cond.instantiable "SiphonReport$Network" 6 ∈ zTs := List.mem_of_getElem? (i := 167) rfl
set_option maxRecDepth 100000 in
theorem zcl_5 : zcls zTs zFT zCD 5 ("SiphonReport$Classes", zF_5, 7) := ⟨zin_of (is := [110, 111, 112, 113, 114, 115, 116]) rfl, by decide +kernel, by decide +kernel, fun fs h => by cases h; exact ⟨rfl, rfl, by decide +kernel⟩⟩
set_option maxRecDepth 100000 in
theorem zci_5 : Cond.instantiable "SiphonReport$Classes" 7 ∈ zTs := List.mem_of_getElem? (i := 99) rfl
set_option maxRecDepth 100000 in
theorem zcl_6 : zcls zTs zFT zCD 6 ("SiphonReport$Ranks", zF_6, 4) := ⟨zin_of (is := [139, 140, 141, 142]) rfl, by decide +kernel, by decide +kernel, fun fs h => by cases h; exact ⟨rfl, rfl, by decide +kernel⟩⟩
set_option maxRecDepth 100000 in
theorem zci_6 : Cond.instantiable "SiphonReport$Ranks" 4 ∈ zTs := List.mem_of_getElem? (i := 118) rfl
set_option maxRecDepth 100000 in
theorem zcl_7 : zcls zTs zFT zCD 7 ("SiphonReport$Matrix", zF_7, 3) := ⟨zin_of (is := [131, 132, 133]) rfl, by decide +kernel, by decide +kernel, fun fs h => by cases h; exact ⟨rfl, rfl, by decide +kernel⟩⟩
set_option maxRecDepth 100000 in
theorem zci_7 : Cond.instantiable "SiphonReport$Matrix" 3 ∈ zTs := List.mem_of_getElem? (i := 123) rfl
set_option maxRecDepth 100000 in
theorem zcl_8 : zcls zTs zFT zCD 8 ("SiphonReport$SetList", zF_8, 2) := ⟨zin_of (is := [150, 151]) rfl, by decide +kernel, by decide +kernel, fun fs h => by cases h; exact ⟨rfl, rfl, by decide +kernel⟩⟩
set_option maxRecDepth 100000 in
theorem zci_8 : Cond.instantiable "SiphonReport$SetList" 2 ∈ zTs := List.mem_of_getElem? (i := 144) rfl
set_option maxRecDepth 100000 in
theorem zcl_9 : zcls zTs zFT zCD 9 ("SiphonReport$Sums", zF_9, 3) := ⟨zin_of (is := [163, 164, 165]) rfl, by decide +kernel, by decide +kernel, fun fs h => by cases h; exact ⟨rfl, rfl, by decide +kernel⟩⟩
set_option maxRecDepth 100000 in
theorem zci_9 : Cond.instantiable "SiphonReport$Sums" 3 ∈ zTs := List.mem_of_getElem? (i := 153) rfl
set_option maxRecDepth 100000 in
theorem zcl_10 : zcls zTs zFT zCD 10 ("SiphonReportModel", zF_10, 22) := ⟨zin_of (is := [508, 509, 510, 511, 512, 513, 514, 515, 516, 517, 518, 519, 520, 521, 522, 523, 524, 525, 526, 527, 528, 529]) rfl, by decide +kernel, by decide +kernel, fun fs h => by cases h; exact ⟨rfl, rfl, by decide +kernel⟩⟩
set_option maxRecDepth 100000 in
theorem zci_10 : Cond.instantiable "SiphonReportModel" 22 ∈ zTs := List.mem_of_getElem? (i := 481) rfl
theorem zcl_ok : zcl zTs zFT zCD zCL := fun ci q h => match ci, h with
  | 0, h => by cases h; exact zcl_0
  | 1, h => by cases h; exact zcl_1
  | 2, h => by cases h; exact zcl_2
  | 3, h => by cases h; exact zcl_3
  | 4, h => by cases h; exact zcl_4
  | 5, h => by cases h; exact zcl_5
  | 6, h => by cases h; exact zcl_6
  | 7, h => by cases h; exact zcl_7
  | 8, h => by cases h; exact zcl_8
  | 9, h => by cases h; exact zcl_9
  | 10, h => by cases h; exact zcl_10
  | k + 11, h => by cases h
theorem zci_ok : ∀ (ci : Nat) (q : vw_C), zCL[ci]? = some q → Cond.instantiable q.1 q.2.2 ∈ zTs := fun ci q h => match ci, h with
  | 0, h => by cases h; exact zci_0
  | 1, h => by cases h; exact zci_1
  | 2, h => by cases h; exact zci_2
  | 3, h => by cases h; exact zci_3
  | 4, h => by cases h; exact zci_4
  | 5, h => by cases h; exact zci_5
  | 6, h => by cases h; exact zci_6
  | 7, h => by cases h; exact zci_7
  | 8, h => by cases h; exact zci_8
  | 9, h => by cases h; exact zci_9
  | 10, h => by cases h; exact zci_10
  | k + 11, h => by cases h
end
section
/-! The methods 0 to 31, instruction by instruction. -/
set_option maxRecDepth 100000 in
theorem zb_0 : zMb zCL zP zm_0 = true := by decide +kernel
set_option maxRecDepth 100000 in
theorem zw_0 : (zMw "SiphonReport" zCL zP zm_0).map some = ([(false, 67), (false, 61), (false, 62), (false, 72), (false, 68)] : List (Bool × Nat)).map (zpl zTs zNs) := rfl
set_option maxRecDepth 100000 in
theorem zs_0 : (zMs zCL zP zm_0).map Prod.fst = (zMs zCL zP zm_0).map Prod.snd := rfl
set_option maxRecDepth 100000 in
theorem zc_0 : zmeth zTs zm_0 := zM_meth (Ns := zNs) (zpl_hold (is := [(false, 66), (false, 43), (false, 65)]) rfl) (by decide +kernel) (by decide +kernel) (plainFor_of_name (by decide +kernel)) (fun _ => ⟨rfl, rfl⟩)
theorem zo_0 : (Nat.ble zm_0.2.2.2.2.2.2.1 2 = true → zmeth zTs zm_0) ∧ ∀ row ∈ zm_0.2.2.2.2.2.2.2.2, zrowok "SiphonReport" zTs zNs zCL zP zm_0 row := ⟨fun _ => zc_0, zM_rows zb_0 (zpl_hold zw_0) zs_0⟩
set_option maxRecDepth 100000 in
theorem zb_1 : zMb zCL zP zm_1 = true := by decide +kernel
set_option maxRecDepth 100000 in
theorem zw_1 : (zMw "SiphonReport" zCL zP zm_1).map some = ([(false, 77), (false, 61), (false, 62)] : List (Bool × Nat)).map (zpl zTs zNs) := rfl
set_option maxRecDepth 100000 in
theorem zs_1 : (zMs zCL zP zm_1).map Prod.fst = (zMs zCL zP zm_1).map Prod.snd := rfl
set_option maxRecDepth 100000 in
theorem zc_1 : zmeth zTs zm_1 := zM_meth (Ns := zNs) (zpl_hold (is := [(false, 76), (false, 44), (false, 75)]) rfl) (by decide +kernel) (by decide +kernel) (plainFor_of_name (by decide +kernel)) (fun _ => ⟨rfl, rfl⟩)
theorem zo_1 : (Nat.ble zm_1.2.2.2.2.2.2.1 2 = true → zmeth zTs zm_1) ∧ ∀ row ∈ zm_1.2.2.2.2.2.2.2.2, zrowok "SiphonReport" zTs zNs zCL zP zm_1 row := ⟨fun _ => zc_1, zM_rows zb_1 (zpl_hold zw_1) zs_1⟩
set_option maxRecDepth 100000 in
theorem zb_2 : zMb zCL zP zm_2 = true := by decide +kernel
set_option maxRecDepth 100000 in
theorem zw_2 : (zMw "SiphonReport" zCL zP zm_2).map some = ([(false, 88), (false, 61), (false, 62), (false, 97), (false, 89), (false, 97), (false, 90)] : List (Bool × Nat)).map (zpl zTs zNs) := rfl
set_option maxRecDepth 100000 in
theorem zs_2 : (zMs zCL zP zm_2).map Prod.fst = (zMs zCL zP zm_2).map Prod.snd := rfl
set_option maxRecDepth 100000 in
theorem zc_2 : zmeth zTs zm_2 := zM_meth (Ns := zNs) (zpl_hold (is := [(false, 87), (false, 45), (false, 86)]) rfl) (by decide +kernel) (by decide +kernel) (plainFor_of_name (by decide +kernel)) (fun _ => ⟨rfl, rfl⟩)
theorem zo_2 : (Nat.ble zm_2.2.2.2.2.2.2.1 2 = true → zmeth zTs zm_2) ∧ ∀ row ∈ zm_2.2.2.2.2.2.2.2.2, zrowok "SiphonReport" zTs zNs zCL zP zm_2 row := ⟨fun _ => zc_2, zM_rows zb_2 (zpl_hold zw_2) zs_2⟩
set_option maxRecDepth 100000 in
theorem zb_3 : zMb zCL zP zm_3 = true := by decide +kernel
set_option maxRecDepth 100000 in
theorem zw_3 : (zMw "SiphonReport" zCL zP zm_3).map some = ([(false, 102), (false, 61), (false, 62), (false, 97), (false, 103), (false, 97), (false, 104), (false, 97), (false, 105), (false, 97), (false, 106), (false, 97), (false, 107)] : List (Bool × Nat)).map (zpl zTs zNs) := rfl
set_option maxRecDepth 100000 in
theorem zs_3 : (zMs zCL zP zm_3).map Prod.fst = (zMs zCL zP zm_3).map Prod.snd := rfl
set_option maxRecDepth 100000 in
theorem zc_3 : zmeth zTs zm_3 := zM_meth (Ns := zNs) (zpl_hold (is := [(false, 101), (false, 46), (false, 100)]) rfl) (by decide +kernel) (by decide +kernel) (plainFor_of_name (by decide +kernel)) (fun _ => ⟨rfl, rfl⟩)
theorem zo_3 : (Nat.ble zm_3.2.2.2.2.2.2.1 2 = true → zmeth zTs zm_3) ∧ ∀ row ∈ zm_3.2.2.2.2.2.2.2.2, zrowok "SiphonReport" zTs zNs zCL zP zm_3 row := ⟨fun _ => zc_3, zM_rows zb_3 (zpl_hold zw_3) zs_3⟩
set_option maxRecDepth 100000 in
theorem zb_4 : zMb zCL zP zm_4 = true := by decide +kernel
set_option maxRecDepth 100000 in
theorem zw_4 : (zMw "SiphonReport" zCL zP zm_4).map some = ([(false, 126), (false, 61), (false, 62), (false, 127), (false, 128), (false, 97), (false, 129)] : List (Bool × Nat)).map (zpl zTs zNs) := rfl
set_option maxRecDepth 100000 in
theorem zs_4 : (zMs zCL zP zm_4).map Prod.fst = (zMs zCL zP zm_4).map Prod.snd := rfl
set_option maxRecDepth 100000 in
theorem zc_4 : zmeth zTs zm_4 := zM_meth (Ns := zNs) (zpl_hold (is := [(false, 125), (false, 48), (false, 124)]) rfl) (by decide +kernel) (by decide +kernel) (plainFor_of_name (by decide +kernel)) (fun _ => ⟨rfl, rfl⟩)
theorem zo_4 : (Nat.ble zm_4.2.2.2.2.2.2.1 2 = true → zmeth zTs zm_4) ∧ ∀ row ∈ zm_4.2.2.2.2.2.2.2.2, zrowok "SiphonReport" zTs zNs zCL zP zm_4 row := ⟨fun _ => zc_4, zM_rows zb_4 (zpl_hold zw_4) zs_4⟩
set_option maxRecDepth 100000 in
theorem zb_5 : zMb zCL zP zm_5 = true := by decide +kernel
set_option maxRecDepth 100000 in
theorem zw_5 : (zMw "SiphonReport" zCL zP zm_5).map some = ([(false, 121), (false, 61), (false, 62), (false, 122), (false, 123), (false, 48), (true, 17), (false, 135), (false, 122), (false, 123), (false, 48), (true, 17), (false, 136), (false, 97), (false, 137)] : List (Bool × Nat)).map (zpl zTs zNs) := rfl
set_option maxRecDepth 100000 in
theorem zs_5 : (zMs zCL zP zm_5).map Prod.fst = (zMs zCL zP zm_5).map Prod.snd := rfl
set_option maxRecDepth 100000 in
theorem zc_5 : zmeth zTs zm_5 := zM_meth (Ns := zNs) (zpl_hold (is := [(false, 120), (false, 47), (false, 119)]) rfl) (by decide +kernel) (by decide +kernel) (plainFor_of_name (by decide +kernel)) (fun _ => ⟨rfl, rfl⟩)
theorem zo_5 : (Nat.ble zm_5.2.2.2.2.2.2.1 2 = true → zmeth zTs zm_5) ∧ ∀ row ∈ zm_5.2.2.2.2.2.2.2.2, zrowok "SiphonReport" zTs zNs zCL zP zm_5 row := ⟨fun _ => zc_5, zM_rows zb_5 (zpl_hold zw_5) zs_5⟩
set_option maxRecDepth 100000 in
theorem zb_6 : zMb zCL zP zm_6 = true := by decide +kernel
set_option maxRecDepth 100000 in
theorem zw_6 : (zMw "SiphonReport" zCL zP zm_6).map some = ([(false, 147), (false, 61), (false, 62), (false, 97), (false, 148)] : List (Bool × Nat)).map (zpl zTs zNs) := rfl
set_option maxRecDepth 100000 in
theorem zs_6 : (zMs zCL zP zm_6).map Prod.fst = (zMs zCL zP zm_6).map Prod.snd := rfl
set_option maxRecDepth 100000 in
theorem zc_6 : zmeth zTs zm_6 := zM_meth (Ns := zNs) (zpl_hold (is := [(false, 146), (false, 49), (false, 145)]) rfl) (by decide +kernel) (by decide +kernel) (plainFor_of_name (by decide +kernel)) (fun _ => ⟨rfl, rfl⟩)
theorem zo_6 : (Nat.ble zm_6.2.2.2.2.2.2.1 2 = true → zmeth zTs zm_6) ∧ ∀ row ∈ zm_6.2.2.2.2.2.2.2.2, zrowok "SiphonReport" zTs zNs zCL zP zm_6 row := ⟨fun _ => zc_6, zM_rows zb_6 (zpl_hold zw_6) zs_6⟩
set_option maxRecDepth 100000 in
theorem zb_7 : zMb zCL zP zm_7 = true := by decide +kernel
set_option maxRecDepth 100000 in
theorem zw_7 : (zMw "SiphonReport" zCL zP zm_7).map some = ([(false, 156), (false, 61), (false, 62), (false, 157), (false, 144), (false, 49), (true, 28), (false, 160), (false, 158), (false, 161), (false, 159), (false, 123), (false, 48), (true, 29), (false, 162)] : List (Bool × Nat)).map (zpl zTs zNs) := rfl
set_option maxRecDepth 100000 in
theorem zs_7 : (zMs zCL zP zm_7).map Prod.fst = (zMs zCL zP zm_7).map Prod.snd := rfl
set_option maxRecDepth 100000 in
theorem zc_7 : zmeth zTs zm_7 := zM_meth (Ns := zNs) (zpl_hold (is := [(false, 155), (false, 50), (false, 154)]) rfl) (by decide +kernel) (by decide +kernel) (plainFor_of_name (by decide +kernel)) (fun _ => ⟨rfl, rfl⟩)
theorem zo_7 : (Nat.ble zm_7.2.2.2.2.2.2.1 2 = true → zmeth zTs zm_7) ∧ ∀ row ∈ zm_7.2.2.2.2.2.2.2.2, zrowok "SiphonReport" zTs zNs zCL zP zm_7 row := ⟨fun _ => zc_7, zM_rows zb_7 (zpl_hold zw_7) zs_7⟩
set_option maxRecDepth 100000 in
theorem zb_8 : zMb zCL zP zm_8 = true := by decide +kernel
set_option maxRecDepth 100000 in
theorem zw_8 : (zMw "SiphonReport" zCL zP zm_8).map some = ([(false, 170), (false, 61), (false, 62), (false, 171), (false, 172), (false, 97), (false, 173), (false, 97), (false, 174), (false, 97), (false, 175)] : List (Bool × Nat)).map (zpl zTs zNs) := rfl
set_option maxRecDepth 100000 in
theorem zs_8 : (zMs zCL zP zm_8).map Prod.fst = (zMs zCL zP zm_8).map Prod.snd := rfl
set_option maxRecDepth 100000 in
theorem zc_8 : zmeth zTs zm_8 := zM_meth (Ns := zNs) (zpl_hold (is := [(false, 169), (false, 51), (false, 168)]) rfl) (by decide +kernel) (by decide +kernel) (plainFor_of_name (by decide +kernel)) (fun _ => ⟨rfl, rfl⟩)
theorem zo_8 : (Nat.ble zm_8.2.2.2.2.2.2.1 2 = true → zmeth zTs zm_8) ∧ ∀ row ∈ zm_8.2.2.2.2.2.2.2.2, zrowok "SiphonReport" zTs zNs zCL zP zm_8 row := ⟨fun _ => zc_8, zM_rows zb_8 (zpl_hold zw_8) zs_8⟩
set_option maxRecDepth 100000 in
theorem zb_9 : zMb zCL zP zm_9 = true := by decide +kernel
set_option maxRecDepth 100000 in
theorem zw_9 : (zMw "SiphonReport" zCL zP zm_9).map some = ([(false, 60), (false, 61), (false, 62), (false, 63), (false, 64), (false, 43), (true, 0), (false, 184), (false, 73), (false, 74), (false, 44), (true, 6), (false, 185), (false, 84), (false, 85), (false, 45), (true, 7), (false, 186), (false, 98), (false, 99), (false, 46), (true, 8), (false, 187), (false, 117), (false, 118), (false, 47), (true, 16), (false, 188), (false, 143), (false, 144), (false, 49), (true, 24), (false, 189), (false, 152), (false, 153), (false, 50), (true, 27), (false, 190), (false, 166), (false, 167), (false, 51), (true, 32), (false, 191), (false, 166), (false, 167), (false, 51), (true, 32), (false, 192)] : List (Bool × Nat)).map (zpl zTs zNs) := rfl
set_option maxRecDepth 100000 in
theorem zs_9 : (zMs zCL zP zm_9).map Prod.fst = (zMs zCL zP zm_9).map Prod.snd := rfl
set_option maxRecDepth 100000 in
theorem zc_9 : zmeth zTs zm_9 := zM_meth (Ns := zNs) (zpl_hold (is := [(false, 59), (false, 42), (false, 58)]) rfl) (by decide +kernel) (by decide +kernel) (plainFor_of_name (by decide +kernel)) (fun _ => ⟨rfl, rfl⟩)
theorem zo_9 : (Nat.ble zm_9.2.2.2.2.2.2.1 2 = true → zmeth zTs zm_9) ∧ ∀ row ∈ zm_9.2.2.2.2.2.2.2.2, zrowok "SiphonReport" zTs zNs zCL zP zm_9 row := ⟨fun _ => zc_9, zM_rows zb_9 (zpl_hold zw_9) zs_9⟩
set_option maxRecDepth 100000 in
theorem zb_10 : zMb zCL zP zm_10 = true := by decide +kernel
set_option maxRecDepth 100000 in
theorem zw_10 : (zMw "SiphonReport" zCL zP zm_10).map some = ([(false, 485), (false, 61), (false, 62), (false, 72), (false, 486), (false, 97), (false, 489), (false, 530), (false, 490), (false, 97), (false, 492), (false, 97), (false, 493), (false, 97), (false, 496), (false, 530), (false, 497), (false, 530), (false, 498), (false, 97), (false, 499), (false, 97), (false, 501), (false, 97), (false, 503), (false, 97), (false, 504), (false, 134), (false, 506), (false, 97), (false, 507)] : List (Bool × Nat)).map (zpl zTs zNs) := rfl
set_option maxRecDepth 100000 in
theorem zs_10 : (zMs zCL zP zm_10).map Prod.fst = (zMs zCL zP zm_10).map Prod.snd := rfl
set_option maxRecDepth 100000 in
theorem zc_10 : zmeth zTs zm_10 := zM_meth (Ns := zNs) (zpl_hold (is := [(false, 484), (false, 52), (false, 483)]) rfl) (by decide +kernel) (by decide +kernel) (plainFor_of_name (by decide +kernel)) (fun _ => ⟨rfl, rfl⟩)
theorem zo_10 : (Nat.ble zm_10.2.2.2.2.2.2.1 2 = true → zmeth zTs zm_10) ∧ ∀ row ∈ zm_10.2.2.2.2.2.2.2.2, zrowok "SiphonReport" zTs zNs zCL zP zm_10 row := ⟨fun _ => zc_10, zM_rows zb_10 (zpl_hold zw_10) zs_10⟩
set_option maxRecDepth 100000 in
theorem zb_11 : zMb zCL zP zm_11 = true := by decide +kernel
set_option maxRecDepth 100000 in
theorem zw_11 : (zMw "SiphonReport" zCL zP zm_11).map some = ([(false, 69), (false, 68), (false, 69), (false, 69), (false, 69)] : List (Bool × Nat)).map (zpl zTs zNs) := rfl
set_option maxRecDepth 100000 in
theorem zs_11 : (zMs zCL zP zm_11).map Prod.fst = (zMs zCL zP zm_11).map Prod.snd := rfl
set_option maxRecDepth 100000 in
theorem zc_11 : zmeth zTs zm_11 := zM_meth (Ns := zNs) (zpl_hold (is := [(false, 209), (false, 43), (false, 207), (false, 208)]) rfl) (by decide +kernel) (by decide +kernel) (plainFor_of_name (by decide +kernel)) (fun h => by cases h)
theorem zo_11 : (Nat.ble zm_11.2.2.2.2.2.2.1 2 = true → zmeth zTs zm_11) ∧ ∀ row ∈ zm_11.2.2.2.2.2.2.2.2, zrowok "SiphonReport" zTs zNs zCL zP zm_11 row := ⟨fun _ => zc_11, zM_rows zb_11 (zpl_hold zw_11) zs_11⟩
set_option maxRecDepth 100000 in
theorem zb_12 : zMb zCL zP zm_12 = true := by decide +kernel
set_option maxRecDepth 100000 in
theorem zw_12 : (zMw "SiphonReport" zCL zP zm_12).map some = ([(false, 184), (false, 206)] : List (Bool × Nat)).map (zpl zTs zNs) := rfl
set_option maxRecDepth 100000 in
theorem zs_12 : (zMs zCL zP zm_12).map Prod.fst = (zMs zCL zP zm_12).map Prod.snd := rfl
set_option maxRecDepth 100000 in
theorem zc_12 : zmeth zTs zm_12 := zM_meth (Ns := zNs) (zpl_hold (is := [(false, 205), (false, 42), (false, 203), (false, 204)]) rfl) (by decide +kernel) (by decide +kernel) (plainFor_of_name (by decide +kernel)) (fun h => by cases h)
theorem zo_12 : (Nat.ble zm_12.2.2.2.2.2.2.1 2 = true → zmeth zTs zm_12) ∧ ∀ row ∈ zm_12.2.2.2.2.2.2.2.2, zrowok "SiphonReport" zTs zNs zCL zP zm_12 row := ⟨fun _ => zc_12, zM_rows zb_12 (zpl_hold zw_12) zs_12⟩
set_option maxRecDepth 100000 in
theorem zb_13 : zMb zCL zP zm_13 = true := by decide +kernel
set_option maxRecDepth 100000 in
theorem zw_13 : (zMw "SiphonReport" zCL zP zm_13).map some = ([(false, 487), (false, 486), (false, 487), (false, 487), (false, 487)] : List (Bool × Nat)).map (zpl zTs zNs) := rfl
set_option maxRecDepth 100000 in
theorem zs_13 : (zMs zCL zP zm_13).map Prod.fst = (zMs zCL zP zm_13).map Prod.snd := rfl
set_option maxRecDepth 100000 in
theorem zc_13 : zmeth zTs zm_13 := zM_meth (Ns := zNs) (zpl_hold (is := [(false, 534), (false, 52), (false, 532), (false, 533)]) rfl) (by decide +kernel) (by decide +kernel) (plainFor_of_name (by decide +kernel)) (fun h => by cases h)
theorem zo_13 : (Nat.ble zm_13.2.2.2.2.2.2.1 2 = true → zmeth zTs zm_13) ∧ ∀ row ∈ zm_13.2.2.2.2.2.2.2.2, zrowok "SiphonReport" zTs zNs zCL zP zm_13 row := ⟨fun _ => zc_13, zM_rows zb_13 (zpl_hold zw_13) zs_13⟩
set_option maxRecDepth 100000 in
theorem zb_14 : zMb zCL zP zm_14 = true := by decide +kernel
set_option maxRecDepth 100000 in
theorem zw_14 : (zMw "SiphonReport" zCL zP zm_14).map some = ([(false, 184), (true, 5)] : List (Bool × Nat)).map (zpl zTs zNs) := rfl
set_option maxRecDepth 100000 in
theorem zs_14 : (zMs zCL zP zm_14).map Prod.fst = (zMs zCL zP zm_14).map Prod.snd := rfl
set_option maxRecDepth 100000 in
theorem zc_14 : zmeth zTs zm_14 := zM_meth (Ns := zNs) (zpl_hold (is := [(false, 213), (false, 42), (false, 211), (false, 212)]) rfl) (by decide +kernel) (by decide +kernel) (plainFor_of_name (by decide +kernel)) (fun h => by cases h)
theorem zo_14 : (Nat.ble zm_14.2.2.2.2.2.2.1 2 = true → zmeth zTs zm_14) ∧ ∀ row ∈ zm_14.2.2.2.2.2.2.2.2, zrowok "SiphonReport" zTs zNs zCL zP zm_14 row := ⟨fun _ => zc_14, zM_rows zb_14 (zpl_hold zw_14) zs_14⟩
set_option maxRecDepth 100000 in
theorem zb_15 : zMb zCL zP zm_15 = true := by decide +kernel
set_option maxRecDepth 100000 in
theorem zw_15 : (zMw "SiphonReport" zCL zP zm_15).map some = ([(false, 487)] : List (Bool × Nat)).map (zpl zTs zNs) := rfl
set_option maxRecDepth 100000 in
theorem zs_15 : (zMs zCL zP zm_15).map Prod.fst = (zMs zCL zP zm_15).map Prod.snd := rfl
set_option maxRecDepth 100000 in
theorem zc_15 : zmeth zTs zm_15 := zM_meth (Ns := zNs) (zpl_hold (is := [(false, 538), (false, 52), (false, 536), (false, 537)]) rfl) (by decide +kernel) (by decide +kernel) (plainFor_of_name (by decide +kernel)) (fun h => by cases h)
theorem zo_15 : (Nat.ble zm_15.2.2.2.2.2.2.1 2 = true → zmeth zTs zm_15) ∧ ∀ row ∈ zm_15.2.2.2.2.2.2.2.2, zrowok "SiphonReport" zTs zNs zCL zP zm_15 row := ⟨fun _ => zc_15, zM_rows zb_15 (zpl_hold zw_15) zs_15⟩
set_option maxRecDepth 100000 in
theorem zb_16 : zMb zCL zP zm_16 = true := by decide +kernel
set_option maxRecDepth 100000 in
theorem zw_16 : (zMw "SiphonReport" zCL zP zm_16).map some = ([(false, 78)] : List (Bool × Nat)).map (zpl zTs zNs) := rfl
set_option maxRecDepth 100000 in
theorem zs_16 : (zMs zCL zP zm_16).map Prod.fst = (zMs zCL zP zm_16).map Prod.snd := rfl
set_option maxRecDepth 100000 in
theorem zc_16 : zmeth zTs zm_16 := zM_meth (Ns := zNs) (zpl_hold (is := [(false, 230), (false, 44), (false, 229), (false, 2)]) rfl) (by decide +kernel) (by decide +kernel) (plainFor_of_name (by decide +kernel)) (fun h => by cases h)
theorem zo_16 : (Nat.ble zm_16.2.2.2.2.2.2.1 2 = true → zmeth zTs zm_16) ∧ ∀ row ∈ zm_16.2.2.2.2.2.2.2.2, zrowok "SiphonReport" zTs zNs zCL zP zm_16 row := ⟨fun _ => zc_16, zM_rows zb_16 (zpl_hold zw_16) zs_16⟩
set_option maxRecDepth 100000 in
theorem zb_17 : zMb zCL zP zm_17 = true := by decide +kernel
set_option maxRecDepth 100000 in
theorem zw_17 : (zMw "SiphonReport" zCL zP zm_17).map some = ([] : List (Bool × Nat)).map (zpl zTs zNs) := rfl
set_option maxRecDepth 100000 in
theorem zs_17 : (zMs zCL zP zm_17).map Prod.fst = (zMs zCL zP zm_17).map Prod.snd := rfl
set_option maxRecDepth 100000 in
theorem zc_17 : zmeth zTs zm_17 := zM_meth (Ns := zNs) (zpl_hold (is := [(false, 238), (false, 42), (false, 237)]) rfl) (by decide +kernel) (by decide +kernel) (plainFor_of_name (by decide +kernel)) (fun h => by cases h)
theorem zo_17 : (Nat.ble zm_17.2.2.2.2.2.2.1 2 = true → zmeth zTs zm_17) ∧ ∀ row ∈ zm_17.2.2.2.2.2.2.2.2, zrowok "SiphonReport" zTs zNs zCL zP zm_17 row := ⟨fun _ => zc_17, zM_rows zb_17 (zpl_hold zw_17) zs_17⟩
set_option maxRecDepth 100000 in
theorem zb_18 : zMb zCL zP zm_18 = true := by decide +kernel
set_option maxRecDepth 100000 in
theorem zw_18 : (zMw "SiphonReport" zCL zP zm_18).map some = ([(true, 47), (false, 228)] : List (Bool × Nat)).map (zpl zTs zNs) := rfl
set_option maxRecDepth 100000 in
theorem zs_18 : (zMs zCL zP zm_18).map Prod.fst = (zMs zCL zP zm_18).map Prod.snd := rfl
set_option maxRecDepth 100000 in
theorem zc_18 : zmeth zTs zm_18 := zM_meth (Ns := zNs) (zpl_hold (is := [(false, 236), (false, 44), (false, 235), (false, 4)]) rfl) (by decide +kernel) (by decide +kernel) (plainFor_of_name (by decide +kernel)) (fun h => by cases h)
theorem zo_18 : (Nat.ble zm_18.2.2.2.2.2.2.1 2 = true → zmeth zTs zm_18) ∧ ∀ row ∈ zm_18.2.2.2.2.2.2.2.2, zrowok "SiphonReport" zTs zNs zCL zP zm_18 row := ⟨fun _ => zc_18, zM_rows zb_18 (zpl_hold zw_18) zs_18⟩
set_option maxRecDepth 100000 in
theorem zb_19 : zMb zCL zP zm_19 = true := by decide +kernel
set_option maxRecDepth 100000 in
theorem zw_19 : (zMw "SiphonReport" zCL zP zm_19).map some = ([(false, 228), (false, 234)] : List (Bool × Nat)).map (zpl zTs zNs) := rfl
set_option maxRecDepth 100000 in
theorem zs_19 : (zMs zCL zP zm_19).map Prod.fst = (zMs zCL zP zm_19).map Prod.snd := rfl
set_option maxRecDepth 100000 in
theorem zc_19 : zmeth zTs zm_19 := zM_meth (Ns := zNs) (zpl_hold (is := [(false, 233), (false, 44), (false, 232), (false, 3)]) rfl) (by decide +kernel) (by decide +kernel) (plainFor_of_name (by decide +kernel)) (fun h => by cases h)
theorem zo_19 : (Nat.ble zm_19.2.2.2.2.2.2.1 2 = true → zmeth zTs zm_19) ∧ ∀ row ∈ zm_19.2.2.2.2.2.2.2.2, zrowok "SiphonReport" zTs zNs zCL zP zm_19 row := ⟨fun _ => zc_19, zM_rows zb_19 (zpl_hold zw_19) zs_19⟩
set_option maxRecDepth 100000 in
theorem zb_20 : zMb zCL zP zm_20 = true := by decide +kernel
set_option maxRecDepth 100000 in
theorem zw_20 : (zMw "SiphonReport" zCL zP zm_20).map some = ([(false, 228), (false, 231)] : List (Bool × Nat)).map (zpl zTs zNs) := rfl
set_option maxRecDepth 100000 in
theorem zs_20 : (zMs zCL zP zm_20).map Prod.fst = (zMs zCL zP zm_20).map Prod.snd := rfl
set_option maxRecDepth 100000 in
theorem zc_20 : zmeth zTs zm_20 := zM_meth (Ns := zNs) (zpl_hold (is := [(false, 227), (false, 44), (false, 226), (false, 1)]) rfl) (by decide +kernel) (by decide +kernel) (plainFor_of_name (by decide +kernel)) (fun h => by cases h)
theorem zo_20 : (Nat.ble zm_20.2.2.2.2.2.2.1 2 = true → zmeth zTs zm_20) ∧ ∀ row ∈ zm_20.2.2.2.2.2.2.2.2, zrowok "SiphonReport" zTs zNs zCL zP zm_20 row := ⟨fun _ => zc_20, zM_rows zb_20 (zpl_hold zw_20) zs_20⟩
set_option maxRecDepth 100000 in
theorem zb_21 : zMb zCL zP zm_21 = true := by decide +kernel
set_option maxRecDepth 100000 in
theorem zw_21 : (zMw "SiphonReport" zCL zP zm_21).map some = ([(false, 228)] : List (Bool × Nat)).map (zpl zTs zNs) := rfl
set_option maxRecDepth 100000 in
theorem zs_21 : (zMs zCL zP zm_21).map Prod.fst = (zMs zCL zP zm_21).map Prod.snd := rfl
set_option maxRecDepth 100000 in
theorem zc_21 : zmeth zTs zm_21 := zM_meth (Ns := zNs) (zpl_hold (is := [(false, 241), (false, 44), (false, 240), (false, 5)]) rfl) (by decide +kernel) (by decide +kernel) (plainFor_of_name (by decide +kernel)) (fun h => by cases h)
theorem zo_21 : (Nat.ble zm_21.2.2.2.2.2.2.1 2 = true → zmeth zTs zm_21) ∧ ∀ row ∈ zm_21.2.2.2.2.2.2.2.2, zrowok "SiphonReport" zTs zNs zCL zP zm_21 row := ⟨fun _ => zc_21, zM_rows zb_21 (zpl_hold zw_21) zs_21⟩
set_option maxRecDepth 100000 in
theorem zb_22 : zMb zCL zP zm_22 = true := by decide +kernel
set_option maxRecDepth 100000 in
theorem zw_22 : (zMw "SiphonReport" zCL zP zm_22).map some = ([(false, 79), (false, 79), (false, 79), (false, 78)] : List (Bool × Nat)).map (zpl zTs zNs) := rfl
set_option maxRecDepth 100000 in
theorem zs_22 : (zMs zCL zP zm_22).map Prod.fst = (zMs zCL zP zm_22).map Prod.snd := rfl
set_option maxRecDepth 100000 in
theorem zc_22 : zmeth zTs zm_22 := zM_meth (Ns := zNs) (zpl_hold (is := [(false, 244), (false, 44), (false, 243), (false, 6)]) rfl) (by decide +kernel) (by decide +kernel) (plainFor_of_name (by decide +kernel)) (fun h => by cases h)
theorem zo_22 : (Nat.ble zm_22.2.2.2.2.2.2.1 2 = true → zmeth zTs zm_22) ∧ ∀ row ∈ zm_22.2.2.2.2.2.2.2.2, zrowok "SiphonReport" zTs zNs zCL zP zm_22 row := ⟨fun _ => zc_22, zM_rows zb_22 (zpl_hold zw_22) zs_22⟩
set_option maxRecDepth 100000 in
theorem zb_23 : zMb zCL zP zm_23 = true := by decide +kernel
set_option maxRecDepth 100000 in
theorem zw_23 : (zMw "SiphonReport" zCL zP zm_23).map some = ([(false, 78), (false, 225), (false, 231), (false, 234), (false, 239), (false, 242), (false, 242)] : List (Bool × Nat)).map (zpl zTs zNs) := rfl
set_option maxRecDepth 100000 in
theorem zs_23 : (zMs zCL zP zm_23).map Prod.fst = (zMs zCL zP zm_23).map Prod.snd := rfl
set_option maxRecDepth 100000 in
theorem zc_23 : zmeth zTs zm_23 := zM_meth (Ns := zNs) (zpl_hold (is := [(false, 224), (false, 44), (false, 223), (false, 0)]) rfl) (by decide +kernel) (by decide +kernel) (plainFor_of_name (by decide +kernel)) (fun h => by cases h)
theorem zo_23 : (Nat.ble zm_23.2.2.2.2.2.2.1 2 = true → zmeth zTs zm_23) ∧ ∀ row ∈ zm_23.2.2.2.2.2.2.2.2, zrowok "SiphonReport" zTs zNs zCL zP zm_23 row := ⟨fun _ => zc_23, zM_rows zb_23 (zpl_hold zw_23) zs_23⟩
set_option maxRecDepth 100000 in
theorem zb_24 : zMb zCL zP zm_24 = true := by decide +kernel
set_option maxRecDepth 100000 in
theorem zw_24 : (zMw "SiphonReport" zCL zP zm_24).map some = ([(false, 78), (false, 79), (false, 80), (true, 4), (true, 2), (false, 222), (false, 80), (true, 4)] : List (Bool × Nat)).map (zpl zTs zNs) := rfl
set_option maxRecDepth 100000 in
theorem zs_24 : (zMs zCL zP zm_24).map Prod.fst = (zMs zCL zP zm_24).map Prod.snd := rfl
set_option maxRecDepth 100000 in
theorem zc_24 : zmeth zTs zm_24 := zM_meth (Ns := zNs) (zpl_hold (is := [(false, 221), (false, 44), (false, 219), (false, 220)]) rfl) (by decide +kernel) (by decide +kernel) (plainFor_of_name (by decide +kernel)) (fun h => by cases h)
theorem zo_24 : (Nat.ble zm_24.2.2.2.2.2.2.1 2 = true → zmeth zTs zm_24) ∧ ∀ row ∈ zm_24.2.2.2.2.2.2.2.2, zrowok "SiphonReport" zTs zNs zCL zP zm_24 row := ⟨fun _ => zc_24, zM_rows zb_24 (zpl_hold zw_24) zs_24⟩
set_option maxRecDepth 100000 in
theorem zb_25 : zMb zCL zP zm_25 = true := by decide +kernel
set_option maxRecDepth 100000 in
theorem zw_25 : (zMw "SiphonReport" zCL zP zm_25).map some = ([(false, 78), (false, 78), (false, 80), (false, 78), (false, 79)] : List (Bool × Nat)).map (zpl zTs zNs) := rfl
set_option maxRecDepth 100000 in
theorem zs_25 : (zMs zCL zP zm_25).map Prod.fst = (zMs zCL zP zm_25).map Prod.snd := rfl
set_option maxRecDepth 100000 in
theorem zc_25 : zmeth zTs zm_25 := zM_meth (Ns := zNs) (zpl_hold (is := [(false, 248), (false, 44), (false, 246), (false, 247)]) rfl) (by decide +kernel) (by decide +kernel) (plainFor_of_name (by decide +kernel)) (fun h => by cases h)
theorem zo_25 : (Nat.ble zm_25.2.2.2.2.2.2.1 2 = true → zmeth zTs zm_25) ∧ ∀ row ∈ zm_25.2.2.2.2.2.2.2.2, zrowok "SiphonReport" zTs zNs zCL zP zm_25 row := ⟨fun _ => zc_25, zM_rows zb_25 (zpl_hold zw_25) zs_25⟩
set_option maxRecDepth 100000 in
theorem zb_26 : zMb zCL zP zm_26 = true := by decide +kernel
set_option maxRecDepth 100000 in
theorem zw_26 : (zMw "SiphonReport" zCL zP zm_26).map some = ([(false, 89), (false, 90), (false, 91), (false, 92)] : List (Bool × Nat)).map (zpl zTs zNs) := rfl
set_option maxRecDepth 100000 in
theorem zs_26 : (zMs zCL zP zm_26).map Prod.fst = (zMs zCL zP zm_26).map Prod.snd := rfl
set_option maxRecDepth 100000 in
theorem zc_26 : zmeth zTs zm_26 := zM_meth (Ns := zNs) (zpl_hold (is := [(false, 255), (false, 45), (false, 254), (false, 7)]) rfl) (by decide +kernel) (by decide +kernel) (plainFor_of_name (by decide +kernel)) (fun h => by cases h)
theorem zo_26 : (Nat.ble zm_26.2.2.2.2.2.2.1 2 = true → zmeth zTs zm_26) ∧ ∀ row ∈ zm_26.2.2.2.2.2.2.2.2, zrowok "SiphonReport" zTs zNs zCL zP zm_26 row := ⟨fun _ => zc_26, zM_rows zb_26 (zpl_hold zw_26) zs_26⟩
set_option maxRecDepth 100000 in
theorem zb_27 : zMb zCL zP zm_27 = true := by decide +kernel
set_option maxRecDepth 100000 in
theorem zw_27 : (zMw "SiphonReport" zCL zP zm_27).map some = ([] : List (Bool × Nat)).map (zpl zTs zNs) := rfl
set_option maxRecDepth 100000 in
theorem zs_27 : (zMs zCL zP zm_27).map Prod.fst = (zMs zCL zP zm_27).map Prod.snd := rfl
set_option maxRecDepth 100000 in
theorem zc_27 : zmeth zTs zm_27 := zM_meth (Ns := zNs) (zpl_hold (is := [(false, 261), (false, 45), (false, 260)]) rfl) (by decide +kernel) (by decide +kernel) (plainFor_of_name (by decide +kernel)) (fun h => by cases h)
theorem zo_27 : (Nat.ble zm_27.2.2.2.2.2.2.1 2 = true → zmeth zTs zm_27) ∧ ∀ row ∈ zm_27.2.2.2.2.2.2.2.2, zrowok "SiphonReport" zTs zNs zCL zP zm_27 row := ⟨fun _ => zc_27, zM_rows zb_27 (zpl_hold zw_27) zs_27⟩
set_option maxRecDepth 100000 in
theorem zb_28 : zMb zCL zP zm_28 = true := by decide +kernel
set_option maxRecDepth 100000 in
theorem zw_28 : (zMw "SiphonReport" zCL zP zm_28).map some = ([] : List (Bool × Nat)).map (zpl zTs zNs) := rfl
set_option maxRecDepth 100000 in
theorem zs_28 : (zMs zCL zP zm_28).map Prod.fst = (zMs zCL zP zm_28).map Prod.snd := rfl
set_option maxRecDepth 100000 in
theorem zc_28 : zmeth zTs zm_28 := zM_meth (Ns := zNs) (zpl_hold (is := [(false, 263), (false, 42), (false, 262)]) rfl) (by decide +kernel) (by decide +kernel) (plainFor_of_name (by decide +kernel)) (fun h => by cases h)
theorem zo_28 : (Nat.ble zm_28.2.2.2.2.2.2.1 2 = true → zmeth zTs zm_28) ∧ ∀ row ∈ zm_28.2.2.2.2.2.2.2.2, zrowok "SiphonReport" zTs zNs zCL zP zm_28 row := ⟨fun _ => zc_28, zM_rows zb_28 (zpl_hold zw_28) zs_28⟩
set_option maxRecDepth 100000 in
theorem zb_29 : zMb zCL zP zm_29 = true := by decide +kernel
set_option maxRecDepth 100000 in
theorem zw_29 : (zMw "SiphonReport" zCL zP zm_29).map some = ([(false, 176), (false, 172), (true, 49), (false, 176), (false, 176), (false, 173), (false, 172), (false, 173), (false, 176), (false, 176)] : List (Bool × Nat)).map (zpl zTs zNs) := rfl
set_option maxRecDepth 100000 in
theorem zs_29 : (zMs zCL zP zm_29).map Prod.fst = (zMs zCL zP zm_29).map Prod.snd := rfl
set_option maxRecDepth 100000 in
theorem zc_29 : zmeth zTs zm_29 := zM_meth (Ns := zNs) (zpl_hold (is := [(false, 267), (false, 51), (false, 265), (false, 266)]) rfl) (by decide +kernel) (by decide +kernel) (plainFor_of_name (by decide +kernel)) (fun h => by cases h)
theorem zo_29 : (Nat.ble zm_29.2.2.2.2.2.2.1 2 = true → zmeth zTs zm_29) ∧ ∀ row ∈ zm_29.2.2.2.2.2.2.2.2, zrowok "SiphonReport" zTs zNs zCL zP zm_29 row := ⟨fun _ => zc_29, zM_rows zb_29 (zpl_hold zw_29) zs_29⟩
set_option maxRecDepth 100000 in
theorem zb_30 : zMb zCL zP zm_30 = true := by decide +kernel
set_option maxRecDepth 100000 in
theorem zw_30 : (zMw "SiphonReport" zCL zP zm_30).map some = ([(false, 177), (false, 174), (false, 175), (false, 177), (false, 174), (false, 177), (false, 175), (false, 177), (false, 177), (false, 177)] : List (Bool × Nat)).map (zpl zTs zNs) := rfl
set_option maxRecDepth 100000 in
theorem zs_30 : (zMs zCL zP zm_30).map Prod.fst = (zMs zCL zP zm_30).map Prod.snd := rfl
set_option maxRecDepth 100000 in
theorem zc_30 : zmeth zTs zm_30 := zM_meth (Ns := zNs) (zpl_hold (is := [(false, 271), (false, 51), (false, 269), (false, 270)]) rfl) (by decide +kernel) (by decide +kernel) (plainFor_of_name (by decide +kernel)) (fun h => by cases h)
theorem zo_30 : (Nat.ble zm_30.2.2.2.2.2.2.1 2 = true → zmeth zTs zm_30) ∧ ∀ row ∈ zm_30.2.2.2.2.2.2.2.2, zrowok "SiphonReport" zTs zNs zCL zP zm_30 row := ⟨fun _ => zc_30, zM_rows zb_30 (zpl_hold zw_30) zs_30⟩
set_option maxRecDepth 100000 in
theorem zb_31 : zMb zCL zP zm_31 = true := by decide +kernel
set_option maxRecDepth 100000 in
theorem zw_31 : (zMw "SiphonReport" zCL zP zm_31).map some = ([(false, 89), (false, 259), (false, 90), (false, 259), (false, 89), (false, 90), (true, 48), (false, 89), (false, 264), (false, 90), (false, 264), (false, 268), (false, 92), (false, 268)] : List (Bool × Nat)).map (zpl zTs zNs) := rfl
set_option maxRecDepth 100000 in
theorem zs_31 : (zMs zCL zP zm_31).map Prod.fst = (zMs zCL zP zm_31).map Prod.snd := rfl
set_option maxRecDepth 100000 in
theorem zc_31 : zmeth zTs zm_31 := zM_meth (Ns := zNs) (zpl_hold (is := [(false, 258), (false, 45), (false, 257), (false, 8)]) rfl) (by decide +kernel) (by decide +kernel) (plainFor_of_name (by decide +kernel)) (fun h => by cases h)
theorem zo_31 : (Nat.ble zm_31.2.2.2.2.2.2.1 2 = true → zmeth zTs zm_31) ∧ ∀ row ∈ zm_31.2.2.2.2.2.2.2.2, zrowok "SiphonReport" zTs zNs zCL zP zm_31 row := ⟨fun _ => zc_31, zM_rows zb_31 (zpl_hold zw_31) zs_31⟩
end
section
/-! The methods 32 to 49, instruction by instruction. -/
set_option maxRecDepth 100000 in
theorem zb_32 : zMb zCL zP zm_32 = true := by decide +kernel
set_option maxRecDepth 100000 in
theorem zw_32 : (zMw "SiphonReport" zCL zP zm_32).map some = ([(false, 92), (false, 91), (true, 50), (false, 92), (false, 89), (false, 90), (false, 91), (false, 91)] : List (Bool × Nat)).map (zpl zTs zNs) := rfl
set_option maxRecDepth 100000 in
theorem zs_32 : (zMs zCL zP zm_32).map Prod.fst = (zMs zCL zP zm_32).map Prod.snd := rfl
set_option maxRecDepth 100000 in
theorem zc_32 : zmeth zTs zm_32 := zM_meth (Ns := zNs) (zpl_hold (is := [(false, 274), (false, 45), (false, 273), (false, 9)]) rfl) (by decide +kernel) (by decide +kernel) (plainFor_of_name (by decide +kernel)) (fun h => by cases h)
theorem zo_32 : (Nat.ble zm_32.2.2.2.2.2.2.1 2 = true → zmeth zTs zm_32) ∧ ∀ row ∈ zm_32.2.2.2.2.2.2.2.2, zrowok "SiphonReport" zTs zNs zCL zP zm_32 row := ⟨fun _ => zc_32, zM_rows zb_32 (zpl_hold zw_32) zs_32⟩
set_option maxRecDepth 100000 in
theorem zb_33 : zMb zCL zP zm_33 = true := by decide +kernel
set_option maxRecDepth 100000 in
theorem zw_33 : (zMw "SiphonReport" zCL zP zm_33).map some = ([(true, 41), (true, 43), (false, 253), (true, 3), (true, 1), (false, 256), (false, 253), (false, 272), (false, 92), (false, 256)] : List (Bool × Nat)).map (zpl zTs zNs) := rfl
set_option maxRecDepth 100000 in
theorem zs_33 : (zMs zCL zP zm_33).map Prod.fst = (zMs zCL zP zm_33).map Prod.snd := rfl
set_option maxRecDepth 100000 in
theorem zc_33 : zmeth zTs zm_33 := zM_meth (Ns := zNs) (zpl_hold (is := [(false, 252), (false, 45), (false, 250), (false, 251)]) rfl) (by decide +kernel) (by decide +kernel) (plainFor_of_name (by decide +kernel)) (fun h => by cases h)
theorem zo_33 : (Nat.ble zm_33.2.2.2.2.2.2.1 2 = true → zmeth zTs zm_33) ∧ ∀ row ∈ zm_33.2.2.2.2.2.2.2.2, zrowok "SiphonReport" zTs zNs zCL zP zm_33 row := ⟨fun _ => zc_33, zM_rows zb_33 (zpl_hold zw_33) zs_33⟩
set_option maxRecDepth 100000 in
theorem zb_34 : zMb zCL zP zm_34 = true := by decide +kernel
set_option maxRecDepth 100000 in
theorem zw_34 : (zMw "SiphonReport" zCL zP zm_34).map some = ([] : List (Bool × Nat)).map (zpl zTs zNs) := rfl
set_option maxRecDepth 100000 in
theorem zs_34 : (zMs zCL zP zm_34).map Prod.fst = (zMs zCL zP zm_34).map Prod.snd := rfl
set_option maxRecDepth 100000 in
theorem zc_34 : zmeth zTs zm_34 := zM_meth (Ns := zNs) (zpl_hold (is := [(false, 283), (false, 42), (false, 282)]) rfl) (by decide +kernel) (by decide +kernel) (plainFor_of_name (by decide +kernel)) (fun h => by cases h)
theorem zo_34 : (Nat.ble zm_34.2.2.2.2.2.2.1 2 = true → zmeth zTs zm_34) ∧ ∀ row ∈ zm_34.2.2.2.2.2.2.2.2, zrowok "SiphonReport" zTs zNs zCL zP zm_34 row := ⟨fun _ => zc_34, zM_rows zb_34 (zpl_hold zw_34) zs_34⟩
set_option maxRecDepth 100000 in
theorem zb_35 : zMb zCL zP zm_35 = true := by decide +kernel
set_option maxRecDepth 100000 in
theorem zw_35 : (zMw "SiphonReport" zCL zP zm_35).map some = ([(true, 51)] : List (Bool × Nat)).map (zpl zTs zNs) := rfl
set_option maxRecDepth 100000 in
theorem zs_35 : (zMs zCL zP zm_35).map Prod.fst = (zMs zCL zP zm_35).map Prod.snd := rfl
set_option maxRecDepth 100000 in
theorem zc_35 : zmeth zTs zm_35 := zM_meth (Ns := zNs) (zpl_hold (is := [(false, 281), (false, 46), (false, 280)]) rfl) (by decide +kernel) (by decide +kernel) (plainFor_of_name (by decide +kernel)) (fun h => by cases h)
theorem zo_35 : (Nat.ble zm_35.2.2.2.2.2.2.1 2 = true → zmeth zTs zm_35) ∧ ∀ row ∈ zm_35.2.2.2.2.2.2.2.2, zrowok "SiphonReport" zTs zNs zCL zP zm_35 row := ⟨fun _ => zc_35, zM_rows zb_35 (zpl_hold zw_35) zs_35⟩
set_option maxRecDepth 100000 in
theorem zb_36 : zMb zCL zP zm_36 = true := by decide +kernel
set_option maxRecDepth 100000 in
theorem zw_36 : (zMw "SiphonReport" zCL zP zm_36).map some = ([(true, 51)] : List (Bool × Nat)).map (zpl zTs zNs) := rfl
set_option maxRecDepth 100000 in
theorem zs_36 : (zMs zCL zP zm_36).map Prod.fst = (zMs zCL zP zm_36).map Prod.snd := rfl
set_option maxRecDepth 100000 in
theorem zc_36 : zmeth zTs zm_36 := zM_meth (Ns := zNs) (zpl_hold (is := [(false, 289), (false, 46), (false, 288)]) rfl) (by decide +kernel) (by decide +kernel) (plainFor_of_name (by decide +kernel)) (fun h => by cases h)
theorem zo_36 : (Nat.ble zm_36.2.2.2.2.2.2.1 2 = true → zmeth zTs zm_36) ∧ ∀ row ∈ zm_36.2.2.2.2.2.2.2.2, zrowok "SiphonReport" zTs zNs zCL zP zm_36 row := ⟨fun _ => zc_36, zM_rows zb_36 (zpl_hold zw_36) zs_36⟩
set_option maxRecDepth 100000 in
theorem zb_37 : zMb zCL zP zm_37 = true := by decide +kernel
set_option maxRecDepth 100000 in
theorem zw_37 : (zMw "SiphonReport" zCL zP zm_37).map some = ([(false, 108), (false, 103), (false, 287), (false, 105), (false, 108), (false, 106), (false, 108), (false, 107), (false, 108), (false, 108), (false, 108), (false, 105), (false, 105), (false, 106), (false, 105)] : List (Bool × Nat)).map (zpl zTs zNs) := rfl
set_option maxRecDepth 100000 in
theorem zs_37 : (zMs zCL zP zm_37).map Prod.fst = (zMs zCL zP zm_37).map Prod.snd := rfl
set_option maxRecDepth 100000 in
theorem zc_37 : zmeth zTs zm_37 := zM_meth (Ns := zNs) (zpl_hold (is := [(false, 286), (false, 46), (false, 285), (false, 10)]) rfl) (by decide +kernel) (by decide +kernel) (plainFor_of_name (by decide +kernel)) (fun h => by cases h)
theorem zo_37 : (Nat.ble zm_37.2.2.2.2.2.2.1 2 = true → zmeth zTs zm_37) ∧ ∀ row ∈ zm_37.2.2.2.2.2.2.2.2, zrowok "SiphonReport" zTs zNs zCL zP zm_37 row := ⟨fun _ => zc_37, zM_rows zb_37 (zpl_hold zw_37) zs_37⟩
set_option maxRecDepth 100000 in
theorem zb_38 : zMb zCL zP zm_38 = true := by decide +kernel
set_option maxRecDepth 100000 in
theorem zw_38 : (zMw "SiphonReport" zCL zP zm_38).map some = ([(false, 104), (true, 51), (false, 104), (true, 51)] : List (Bool × Nat)).map (zpl zTs zNs) := rfl
set_option maxRecDepth 100000 in
theorem zs_38 : (zMs zCL zP zm_38).map Prod.fst = (zMs zCL zP zm_38).map Prod.snd := rfl
set_option maxRecDepth 100000 in
theorem zc_38 : zmeth zTs zm_38 := zM_meth (Ns := zNs) (zpl_hold (is := [(false, 295), (false, 46), (false, 294), (false, 12)]) rfl) (by decide +kernel) (by decide +kernel) (plainFor_of_name (by decide +kernel)) (fun h => by cases h)
theorem zo_38 : (Nat.ble zm_38.2.2.2.2.2.2.1 2 = true → zmeth zTs zm_38) ∧ ∀ row ∈ zm_38.2.2.2.2.2.2.2.2, zrowok "SiphonReport" zTs zNs zCL zP zm_38 row := ⟨fun _ => zc_38, zM_rows zb_38 (zpl_hold zw_38) zs_38⟩
set_option maxRecDepth 100000 in
theorem zb_39 : zMb zCL zP zm_39 = true := by decide +kernel
set_option maxRecDepth 100000 in
theorem zw_39 : (zMw "SiphonReport" zCL zP zm_39).map some = ([(false, 293), (false, 104)] : List (Bool × Nat)).map (zpl zTs zNs) := rfl
set_option maxRecDepth 100000 in
theorem zs_39 : (zMs zCL zP zm_39).map Prod.fst = (zMs zCL zP zm_39).map Prod.snd := rfl
set_option maxRecDepth 100000 in
theorem zc_39 : zmeth zTs zm_39 := zM_meth (Ns := zNs) (zpl_hold (is := [(false, 299), (false, 46), (false, 297), (false, 298)]) rfl) (by decide +kernel) (by decide +kernel) (plainFor_of_name (by decide +kernel)) (fun h => by cases h)
theorem zo_39 : (Nat.ble zm_39.2.2.2.2.2.2.1 2 = true → zmeth zTs zm_39) ∧ ∀ row ∈ zm_39.2.2.2.2.2.2.2.2, zrowok "SiphonReport" zTs zNs zCL zP zm_39 row := ⟨fun _ => zc_39, zM_rows zb_39 (zpl_hold zw_39) zs_39⟩
set_option maxRecDepth 100000 in
theorem zb_40 : zMb zCL zP zm_40 = true := by decide +kernel
set_option maxRecDepth 100000 in
theorem zw_40 : (zMw "SiphonReport" zCL zP zm_40).map some = ([(false, 109), (false, 293), (false, 287), (false, 109), (false, 109), (false, 296), (false, 107), (false, 105)] : List (Bool × Nat)).map (zpl zTs zNs) := rfl
set_option maxRecDepth 100000 in
theorem zs_40 : (zMs zCL zP zm_40).map Prod.fst = (zMs zCL zP zm_40).map Prod.snd := rfl
set_option maxRecDepth 100000 in
theorem zc_40 : zmeth zTs zm_40 := zM_meth (Ns := zNs) (zpl_hold (is := [(false, 292), (false, 46), (false, 291), (false, 11)]) rfl) (by decide +kernel) (by decide +kernel) (plainFor_of_name (by decide +kernel)) (fun h => by cases h)
theorem zo_40 : (Nat.ble zm_40.2.2.2.2.2.2.1 2 = true → zmeth zTs zm_40) ∧ ∀ row ∈ zm_40.2.2.2.2.2.2.2.2, zrowok "SiphonReport" zTs zNs zCL zP zm_40 row := ⟨fun _ => zc_40, zM_rows zb_40 (zpl_hold zw_40) zs_40⟩
set_option maxRecDepth 100000 in
theorem zb_41 : zMb zCL zP zm_41 = true := by decide +kernel
set_option maxRecDepth 100000 in
theorem zw_41 : (zMw "SiphonReport" zCL zP zm_41).map some = ([(true, 40), (false, 103), (false, 104), (true, 45), (true, 37), (true, 39), (false, 104), (false, 103), (false, 103), (false, 103), (false, 279), (false, 104), (false, 279), (false, 284), (false, 290)] : List (Bool × Nat)).map (zpl zTs zNs) := rfl
set_option maxRecDepth 100000 in
theorem zs_41 : (zMs zCL zP zm_41).map Prod.fst = (zMs zCL zP zm_41).map Prod.snd := rfl
set_option maxRecDepth 100000 in
theorem zc_41 : zmeth zTs zm_41 := zM_meth (Ns := zNs) (zpl_hold (is := [(false, 278), (false, 46), (false, 276), (false, 277)]) rfl) (by decide +kernel) (by decide +kernel) (plainFor_of_name (by decide +kernel)) (fun h => by cases h)
theorem zo_41 : (Nat.ble zm_41.2.2.2.2.2.2.1 2 = true → zmeth zTs zm_41) ∧ ∀ row ∈ zm_41.2.2.2.2.2.2.2.2, zrowok "SiphonReport" zTs zNs zCL zP zm_41 row := ⟨fun _ => zc_41, zM_rows zb_41 (zpl_hold zw_41) zs_41⟩
set_option maxRecDepth 100000 in
theorem zb_42 : zMb zCL zP zm_42 = true := by decide +kernel
set_option maxRecDepth 100000 in
theorem zw_42 : (zMw "SiphonReport" zCL zP zm_42).map some = ([(false, 130), (true, 33), (true, 35), (true, 33), (true, 38), (false, 128), (false, 130), (false, 130), (false, 130)] : List (Bool × Nat)).map (zpl zTs zNs) := rfl
set_option maxRecDepth 100000 in
theorem zs_42 : (zMs zCL zP zm_42).map Prod.fst = (zMs zCL zP zm_42).map Prod.snd := rfl
set_option maxRecDepth 100000 in
theorem zc_42 : zmeth zTs zm_42 := zM_meth (Ns := zNs) (zpl_hold (is := [(false, 307), (false, 48), (false, 305), (false, 306)]) rfl) (by decide +kernel) (by decide +kernel) (plainFor_of_name (by decide +kernel)) (fun h => by cases h)
theorem zo_42 : (Nat.ble zm_42.2.2.2.2.2.2.1 2 = true → zmeth zTs zm_42) ∧ ∀ row ∈ zm_42.2.2.2.2.2.2.2.2, zrowok "SiphonReport" zTs zNs zCL zP zm_42 row := ⟨fun _ => zc_42, zM_rows zb_42 (zpl_hold zw_42) zs_42⟩
set_option maxRecDepth 100000 in
theorem zb_43 : zMb zCL zP zm_43 = true := by decide +kernel
set_option maxRecDepth 100000 in
theorem zw_43 : (zMw "SiphonReport" zCL zP zm_43).map some = ([(false, 130), (false, 128)] : List (Bool × Nat)).map (zpl zTs zNs) := rfl
set_option maxRecDepth 100000 in
theorem zs_43 : (zMs zCL zP zm_43).map Prod.fst = (zMs zCL zP zm_43).map Prod.snd := rfl
set_option maxRecDepth 100000 in
theorem zc_43 : zmeth zTs zm_43 := zM_meth (Ns := zNs) (zpl_hold (is := [(false, 314), (false, 48), (false, 313), (false, 13)]) rfl) (by decide +kernel) (by decide +kernel) (plainFor_of_name (by decide +kernel)) (fun h => by cases h)
theorem zo_43 : (Nat.ble zm_43.2.2.2.2.2.2.1 2 = true → zmeth zTs zm_43) ∧ ∀ row ∈ zm_43.2.2.2.2.2.2.2.2, zrowok "SiphonReport" zTs zNs zCL zP zm_43 row := ⟨fun _ => zc_43, zM_rows zb_43 (zpl_hold zw_43) zs_43⟩
set_option maxRecDepth 100000 in
theorem zb_44 : zMb zCL zP zm_44 = true := by decide +kernel
set_option maxRecDepth 100000 in
theorem zw_44 : (zMw "SiphonReport" zCL zP zm_44).map some = ([] : List (Bool × Nat)).map (zpl zTs zNs) := rfl
set_option maxRecDepth 100000 in
theorem zs_44 : (zMs zCL zP zm_44).map Prod.fst = (zMs zCL zP zm_44).map Prod.snd := rfl
set_option maxRecDepth 100000 in
theorem zc_44 : zmeth zTs zm_44 := zM_meth (Ns := zNs) (zpl_hold (is := [(false, 325), (false, 53), (false, 324)]) rfl) (by decide +kernel) (by decide +kernel) (by decide +kernel) (fun h => by cases h)
theorem zo_44 : (Nat.ble zm_44.2.2.2.2.2.2.1 2 = true → zmeth zTs zm_44) ∧ ∀ row ∈ zm_44.2.2.2.2.2.2.2.2, zrowok "SiphonReport" zTs zNs zCL zP zm_44 row := ⟨fun _ => zc_44, zM_rows zb_44 (zpl_hold zw_44) zs_44⟩
set_option maxRecDepth 100000 in
theorem zb_45 : zMb zCL zP zm_45 = true := by decide +kernel
set_option maxRecDepth 100000 in
theorem zw_45 : (zMw "SiphonReport" zCL zP zm_45).map some = ([(false, 323), (false, 323)] : List (Bool × Nat)).map (zpl zTs zNs) := rfl
set_option maxRecDepth 100000 in
theorem zs_45 : (zMs zCL zP zm_45).map Prod.fst = (zMs zCL zP zm_45).map Prod.snd := rfl
set_option maxRecDepth 100000 in
theorem zc_45 : zmeth zTs zm_45 := zM_meth (Ns := zNs) (zpl_hold (is := [(false, 322), (false, 42), (false, 321)]) rfl) (by decide +kernel) (by decide +kernel) (plainFor_of_name (by decide +kernel)) (fun h => by cases h)
theorem zo_45 : (Nat.ble zm_45.2.2.2.2.2.2.1 2 = true → zmeth zTs zm_45) ∧ ∀ row ∈ zm_45.2.2.2.2.2.2.2.2, zrowok "SiphonReport" zTs zNs zCL zP zm_45 row := ⟨fun _ => zc_45, zM_rows zb_45 (zpl_hold zw_45) zs_45⟩
set_option maxRecDepth 100000 in
theorem zb_46 : zMb zCL zP zm_46 = true := by decide +kernel
set_option maxRecDepth 100000 in
theorem zw_46 : (zMw "SiphonReport" zCL zP zm_46).map some = ([(true, 52)] : List (Bool × Nat)).map (zpl zTs zNs) := rfl
set_option maxRecDepth 100000 in
theorem zs_46 : (zMs zCL zP zm_46).map Prod.fst = (zMs zCL zP zm_46).map Prod.snd := rfl
set_option maxRecDepth 100000 in
theorem zc_46 : zmeth zTs zm_46 := zM_meth (Ns := zNs) (zpl_hold (is := [(false, 320), (false, 48), (false, 319)]) rfl) (by decide +kernel) (by decide +kernel) (plainFor_of_name (by decide +kernel)) (fun h => by cases h)
theorem zo_46 : (Nat.ble zm_46.2.2.2.2.2.2.1 2 = true → zmeth zTs zm_46) ∧ ∀ row ∈ zm_46.2.2.2.2.2.2.2.2, zrowok "SiphonReport" zTs zNs zCL zP zm_46 row := ⟨fun _ => zc_46, zM_rows zb_46 (zpl_hold zw_46) zs_46⟩
set_option maxRecDepth 100000 in
theorem zb_47 : zMb zCL zP zm_47 = true := by decide +kernel
set_option maxRecDepth 100000 in
theorem zw_47 : (zMw "SiphonReport" zCL zP zm_47).map some = ([(false, 128), (false, 130), (false, 128), (false, 128), (false, 128), (false, 128), (false, 128), (false, 318)] : List (Bool × Nat)).map (zpl zTs zNs) := rfl
set_option maxRecDepth 100000 in
theorem zs_47 : (zMs zCL zP zm_47).map Prod.fst = (zMs zCL zP zm_47).map Prod.snd := rfl
set_option maxRecDepth 100000 in
theorem zc_47 : zmeth zTs zm_47 := zM_meth (Ns := zNs) (zpl_hold (is := [(false, 317), (false, 48), (false, 316), (false, 14)]) rfl) (by decide +kernel) (by decide +kernel) (plainFor_of_name (by decide +kernel)) (fun h => by cases h)
theorem zo_47 : (Nat.ble zm_47.2.2.2.2.2.2.1 2 = true → zmeth zTs zm_47) ∧ ∀ row ∈ zm_47.2.2.2.2.2.2.2.2, zrowok "SiphonReport" zTs zNs zCL zP zm_47 row := ⟨fun _ => zc_47, zM_rows zb_47 (zpl_hold zw_47) zs_47⟩
set_option maxRecDepth 100000 in
theorem zb_48 : zMb zCL zP zm_48 = true := by decide +kernel
set_option maxRecDepth 100000 in
theorem zw_48 : (zMw "SiphonReport" zCL zP zm_48).map some = ([(false, 312), (false, 129), (false, 128), (false, 128), (false, 128), (false, 128), (false, 315), (false, 129), (false, 130)] : List (Bool × Nat)).map (zpl zTs zNs) := rfl
set_option maxRecDepth 100000 in
theorem zs_48 : (zMs zCL zP zm_48).map Prod.fst = (zMs zCL zP zm_48).map Prod.snd := rfl
set_option maxRecDepth 100000 in
theorem zc_48 : zmeth zTs zm_48 := zM_meth (Ns := zNs) (zpl_hold (is := [(false, 311), (false, 48), (false, 309), (false, 310)]) rfl) (by decide +kernel) (by decide +kernel) (plainFor_of_name (by decide +kernel)) (fun h => by cases h)
theorem zo_48 : (Nat.ble zm_48.2.2.2.2.2.2.1 2 = true → zmeth zTs zm_48) ∧ ∀ row ∈ zm_48.2.2.2.2.2.2.2.2, zrowok "SiphonReport" zTs zNs zCL zP zm_48 row := ⟨fun _ => zc_48, zM_rows zb_48 (zpl_hold zw_48) zs_48⟩
set_option maxRecDepth 100000 in
theorem zb_49 : zMb zCL zP zm_49 = true := by decide +kernel
set_option maxRecDepth 100000 in
theorem zw_49 : (zMw "SiphonReport" zCL zP zm_49).map some = ([(true, 13), (false, 136), (true, 20), (true, 44), (true, 9), (true, 36), (false, 136), (false, 304), (false, 137), (false, 136), (false, 308), (false, 135), (true, 20), (true, 44), (false, 135), (false, 304), (false, 135), (false, 308), (false, 138)] : List (Bool × Nat)).map (zpl zTs zNs) := rfl
set_option maxRecDepth 100000 in
theorem zs_49 : (zMs zCL zP zm_49).map Prod.fst = (zMs zCL zP zm_49).map Prod.snd := rfl
set_option maxRecDepth 100000 in
theorem zc_49 : zmeth zTs zm_49 := zM_meth (Ns := zNs) (zpl_hold (is := [(false, 303), (false, 47), (false, 301), (false, 302)]) rfl) (by decide +kernel) (by decide +kernel) (plainFor_of_name (by decide +kernel)) (fun h => by cases h)
theorem zo_49 : (Nat.ble zm_49.2.2.2.2.2.2.1 2 = true → zmeth zTs zm_49) ∧ ∀ row ∈ zm_49.2.2.2.2.2.2.2.2, zrowok "SiphonReport" zTs zNs zCL zP zm_49 row := ⟨fun _ => zc_49, zM_rows zb_49 (zpl_hold zw_49) zs_49⟩
end
section
/-! The methods 50 to 67, instruction by instruction. -/
set_option maxRecDepth 100000 in
theorem zb_50 : zMb zCL zP zm_50 = true := by decide +kernel
set_option maxRecDepth 100000 in
theorem zw_50 : (zMw "SiphonReport" zCL zP zm_50).map some = ([(false, 176), (false, 173)] : List (Bool × Nat)).map (zpl zTs zNs) := rfl
set_option maxRecDepth 100000 in
theorem zs_50 : (zMs zCL zP zm_50).map Prod.fst = (zMs zCL zP zm_50).map Prod.snd := rfl
set_option maxRecDepth 100000 in
theorem zc_50 : zmeth zTs zm_50 := zM_meth (Ns := zNs) (zpl_hold (is := [(false, 332), (false, 51), (false, 330), (false, 331)]) rfl) (by decide +kernel) (by decide +kernel) (plainFor_of_name (by decide +kernel)) (fun h => by cases h)
theorem zo_50 : (Nat.ble zm_50.2.2.2.2.2.2.1 2 = true → zmeth zTs zm_50) ∧ ∀ row ∈ zm_50.2.2.2.2.2.2.2.2, zrowok "SiphonReport" zTs zNs zCL zP zm_50 row := ⟨fun _ => zc_50, zM_rows zb_50 (zpl_hold zw_50) zs_50⟩
set_option maxRecDepth 100000 in
theorem zb_51 : zMb zCL zP zm_51 = true := by decide +kernel
set_option maxRecDepth 100000 in
theorem zw_51 : (zMw "SiphonReport" zCL zP zm_51).map some = ([] : List (Bool × Nat)).map (zpl zTs zNs) := rfl
set_option maxRecDepth 100000 in
theorem zs_51 : (zMs zCL zP zm_51).map Prod.fst = (zMs zCL zP zm_51).map Prod.snd := rfl
set_option maxRecDepth 100000 in
theorem zc_51 : zmeth zTs zm_51 := zM_meth (Ns := zNs) (zpl_hold (is := [(false, 335), (false, 42), (false, 334)]) rfl) (by decide +kernel) (by decide +kernel) (plainFor_of_name (by decide +kernel)) (fun h => by cases h)
theorem zo_51 : (Nat.ble zm_51.2.2.2.2.2.2.1 2 = true → zmeth zTs zm_51) ∧ ∀ row ∈ zm_51.2.2.2.2.2.2.2.2, zrowok "SiphonReport" zTs zNs zCL zP zm_51 row := ⟨fun _ => zc_51, zM_rows zb_51 (zpl_hold zw_51) zs_51⟩
set_option maxRecDepth 100000 in
theorem zb_52 : zMb zCL zP zm_52 = true := by decide +kernel
set_option maxRecDepth 100000 in
theorem zw_52 : (zMw "SiphonReport" zCL zP zm_52).map some = ([(false, 149), (false, 148), (true, 53)] : List (Bool × Nat)).map (zpl zTs zNs) := rfl
set_option maxRecDepth 100000 in
theorem zs_52 : (zMs zCL zP zm_52).map Prod.fst = (zMs zCL zP zm_52).map Prod.snd := rfl
set_option maxRecDepth 100000 in
theorem zc_52 : zmeth zTs zm_52 := zM_meth (Ns := zNs) (zpl_hold (is := [(false, 339), (false, 49), (false, 337), (false, 338)]) rfl) (by decide +kernel) (by decide +kernel) (plainFor_of_name (by decide +kernel)) (fun h => by cases h)
theorem zo_52 : (Nat.ble zm_52.2.2.2.2.2.2.1 2 = true → zmeth zTs zm_52) ∧ ∀ row ∈ zm_52.2.2.2.2.2.2.2.2, zrowok "SiphonReport" zTs zNs zCL zP zm_52 row := ⟨fun _ => zc_52, zM_rows zb_52 (zpl_hold zw_52) zs_52⟩
set_option maxRecDepth 100000 in
theorem zb_53 : zMb zCL zP zm_53 = true := by decide +kernel
set_option maxRecDepth 100000 in
theorem zw_53 : (zMw "SiphonReport" zCL zP zm_53).map some = ([(false, 177), (false, 173), (false, 175), (false, 173), (false, 174)] : List (Bool × Nat)).map (zpl zTs zNs) := rfl
set_option maxRecDepth 100000 in
theorem zs_53 : (zMs zCL zP zm_53).map Prod.fst = (zMs zCL zP zm_53).map Prod.snd := rfl
set_option maxRecDepth 100000 in
theorem zc_53 : zmeth zTs zm_53 := zM_meth (Ns := zNs) (zpl_hold (is := [(false, 343), (false, 51), (false, 341), (false, 342)]) rfl) (by decide +kernel) (by decide +kernel) (plainFor_of_name (by decide +kernel)) (fun h => by cases h)
theorem zo_53 : (Nat.ble zm_53.2.2.2.2.2.2.1 2 = true → zmeth zTs zm_53) ∧ ∀ row ∈ zm_53.2.2.2.2.2.2.2.2, zrowok "SiphonReport" zTs zNs zCL zP zm_53 row := ⟨fun _ => zc_53, zM_rows zb_53 (zpl_hold zw_53) zs_53⟩
set_option maxRecDepth 100000 in
theorem zb_54 : zMb zCL zP zm_54 = true := by decide +kernel
set_option maxRecDepth 100000 in
theorem zw_54 : (zMw "SiphonReport" zCL zP zm_54).map some = ([(false, 149), (false, 148), (false, 149), (false, 149), (false, 149)] : List (Bool × Nat)).map (zpl zTs zNs) := rfl
set_option maxRecDepth 100000 in
theorem zs_54 : (zMs zCL zP zm_54).map Prod.fst = (zMs zCL zP zm_54).map Prod.snd := rfl
set_option maxRecDepth 100000 in
theorem zc_54 : zmeth zTs zm_54 := zM_meth (Ns := zNs) (zpl_hold (is := [(false, 347), (false, 49), (false, 345), (false, 346)]) rfl) (by decide +kernel) (by decide +kernel) (plainFor_of_name (by decide +kernel)) (fun h => by cases h)
theorem zo_54 : (Nat.ble zm_54.2.2.2.2.2.2.1 2 = true → zmeth zTs zm_54) ∧ ∀ row ∈ zm_54.2.2.2.2.2.2.2.2, zrowok "SiphonReport" zTs zNs zCL zP zm_54 row := ⟨fun _ => zc_54, zM_rows zb_54 (zpl_hold zw_54) zs_54⟩
set_option maxRecDepth 100000 in
theorem zb_55 : zMb zCL zP zm_55 = true := by decide +kernel
set_option maxRecDepth 100000 in
theorem zw_55 : (zMw "SiphonReport" zCL zP zm_55).map some = ([(false, 189), (true, 26), (false, 191), (false, 329), (false, 333), (false, 189), (false, 336), (false, 191), (false, 340), (false, 189), (false, 344)] : List (Bool × Nat)).map (zpl zTs zNs) := rfl
set_option maxRecDepth 100000 in
theorem zs_55 : (zMs zCL zP zm_55).map Prod.fst = (zMs zCL zP zm_55).map Prod.snd := rfl
set_option maxRecDepth 100000 in
theorem zc_55 : zmeth zTs zm_55 := zM_meth (Ns := zNs) (zpl_hold (is := [(false, 328), (false, 42), (false, 327), (false, 15)]) rfl) (by decide +kernel) (by decide +kernel) (plainFor_of_name (by decide +kernel)) (fun h => by cases h)
theorem zo_55 : (Nat.ble zm_55.2.2.2.2.2.2.1 2 = true → zmeth zTs zm_55) ∧ ∀ row ∈ zm_55.2.2.2.2.2.2.2.2, zrowok "SiphonReport" zTs zNs zCL zP zm_55 row := ⟨fun _ => zc_55, zM_rows zb_55 (zpl_hold zw_55) zs_55⟩
set_option maxRecDepth 100000 in
theorem zb_56 : zMb zCL zP zm_56 = true := by decide +kernel
set_option maxRecDepth 100000 in
theorem zw_56 : (zMw "SiphonReport" zCL zP zm_56).map some = ([(false, 130), (false, 130), (false, 130), (false, 128), (true, 55), (false, 128)] : List (Bool × Nat)).map (zpl zTs zNs) := rfl
set_option maxRecDepth 100000 in
theorem zs_56 : (zMs zCL zP zm_56).map Prod.fst = (zMs zCL zP zm_56).map Prod.snd := rfl
set_option maxRecDepth 100000 in
theorem zc_56 : zmeth zTs zm_56 := zM_meth (Ns := zNs) (zpl_hold (is := [(false, 357), (false, 48), (false, 355), (false, 356)]) rfl) (by decide +kernel) (by decide +kernel) (plainFor_of_name (by decide +kernel)) (fun h => by cases h)
theorem zo_56 : (Nat.ble zm_56.2.2.2.2.2.2.1 2 = true → zmeth zTs zm_56) ∧ ∀ row ∈ zm_56.2.2.2.2.2.2.2.2, zrowok "SiphonReport" zTs zNs zCL zP zm_56 row := ⟨fun _ => zc_56, zM_rows zb_56 (zpl_hold zw_56) zs_56⟩
set_option maxRecDepth 100000 in
theorem zb_57 : zMb zCL zP zm_57 = true := by decide +kernel
set_option maxRecDepth 100000 in
theorem zw_57 : (zMw "SiphonReport" zCL zP zm_57).map some = ([(false, 362), (false, 363), (false, 363), (false, 364)] : List (Bool × Nat)).map (zpl zTs zNs) := rfl
set_option maxRecDepth 100000 in
theorem zs_57 : (zMs zCL zP zm_57).map Prod.fst = (zMs zCL zP zm_57).map Prod.snd := rfl
set_option maxRecDepth 100000 in
theorem zc_57 : zmeth zTs zm_57 := zM_meth (Ns := zNs) (zpl_hold (is := [(false, 361), (false, 54), (false, 360)]) rfl) (by decide +kernel) (by decide +kernel) (by decide +kernel) (fun h => by cases h)
theorem zo_57 : (Nat.ble zm_57.2.2.2.2.2.2.1 2 = true → zmeth zTs zm_57) ∧ ∀ row ∈ zm_57.2.2.2.2.2.2.2.2, zrowok "SiphonReport" zTs zNs zCL zP zm_57 row := ⟨fun _ => zc_57, zM_rows zb_57 (zpl_hold zw_57) zs_57⟩
set_option maxRecDepth 100000 in
theorem zb_58 : zMb zCL zP zm_58 = true := by decide +kernel
set_option maxRecDepth 100000 in
theorem zw_58 : (zMw "SiphonReport" zCL zP zm_58).map some = ([(true, 56), (false, 162), (true, 19)] : List (Bool × Nat)).map (zpl zTs zNs) := rfl
set_option maxRecDepth 100000 in
theorem zs_58 : (zMs zCL zP zm_58).map Prod.fst = (zMs zCL zP zm_58).map Prod.snd := rfl
set_option maxRecDepth 100000 in
theorem zc_58 : zmeth zTs zm_58 := zM_meth (Ns := zNs) (zpl_hold (is := [(false, 370), (false, 50), (false, 369), (false, 17)]) rfl) (by decide +kernel) (by decide +kernel) (plainFor_of_name (by decide +kernel)) (fun h => by cases h)
theorem zo_58 : (Nat.ble zm_58.2.2.2.2.2.2.1 2 = true → zmeth zTs zm_58) ∧ ∀ row ∈ zm_58.2.2.2.2.2.2.2.2, zrowok "SiphonReport" zTs zNs zCL zP zm_58 row := ⟨fun _ => zc_58, zM_rows zb_58 (zpl_hold zw_58) zs_58⟩
set_option maxRecDepth 100000 in
theorem zb_59 : zMb zCL zP zm_59 = true := by decide +kernel
set_option maxRecDepth 100000 in
theorem zw_59 : (zMw "SiphonReport" zCL zP zm_59).map some = ([] : List (Bool × Nat)).map (zpl zTs zNs) := rfl
set_option maxRecDepth 100000 in
theorem zs_59 : (zMs zCL zP zm_59).map Prod.fst = (zMs zCL zP zm_59).map Prod.snd := rfl
set_option maxRecDepth 100000 in
theorem zc_59 : zmeth zTs zm_59 := zM_meth (Ns := zNs) (zpl_hold (is := [(false, 374), (false, 53), (false, 373)]) rfl) (by decide +kernel) (by decide +kernel) (by decide +kernel) (fun h => by cases h)
theorem zo_59 : (Nat.ble zm_59.2.2.2.2.2.2.1 2 = true → zmeth zTs zm_59) ∧ ∀ row ∈ zm_59.2.2.2.2.2.2.2.2, zrowok "SiphonReport" zTs zNs zCL zP zm_59 row := ⟨fun _ => zc_59, zM_rows zb_59 (zpl_hold zw_59) zs_59⟩
set_option maxRecDepth 100000 in
theorem zb_60 : zMb zCL zP zm_60 = true := by decide +kernel
set_option maxRecDepth 100000 in
theorem zw_60 : (zMw "SiphonReport" zCL zP zm_60).map some = ([(false, 162), (true, 19), (false, 162), (true, 18), (false, 162), (true, 18), (false, 162), (true, 18)] : List (Bool × Nat)).map (zpl zTs zNs) := rfl
set_option maxRecDepth 100000 in
theorem zs_60 : (zMs zCL zP zm_60).map Prod.fst = (zMs zCL zP zm_60).map Prod.snd := rfl
set_option maxRecDepth 100000 in
theorem zc_60 : zmeth zTs zm_60 := zM_meth (Ns := zNs) (zpl_hold (is := [(false, 377), (false, 50), (false, 376), (false, 18)]) rfl) (by decide +kernel) (by decide +kernel) (plainFor_of_name (by decide +kernel)) (fun h => by cases h)
theorem zo_60 : (Nat.ble zm_60.2.2.2.2.2.2.1 2 = true → zmeth zTs zm_60) ∧ ∀ row ∈ zm_60.2.2.2.2.2.2.2.2, zrowok "SiphonReport" zTs zNs zCL zP zm_60 row := ⟨fun _ => zc_60, zM_rows zb_60 (zpl_hold zw_60) zs_60⟩
set_option maxRecDepth 100000 in
theorem zb_61 : zMb zCL zP zm_61 = true := by decide +kernel
set_option maxRecDepth 100000 in
theorem zw_61 : (zMw "SiphonReport" zCL zP zm_61).map some = ([(false, 368), (false, 162), (true, 19), (false, 162), (true, 18), (false, 162), (true, 18), (false, 371), (true, 57), (false, 372), (true, 57), (false, 372), (false, 160), (true, 25), (false, 161), (false, 160), (true, 25), (false, 375), (false, 160), (false, 378)] : List (Bool × Nat)).map (zpl zTs zNs) := rfl
set_option maxRecDepth 100000 in
theorem zs_61 : (zMs zCL zP zm_61).map Prod.fst = (zMs zCL zP zm_61).map Prod.snd := rfl
set_option maxRecDepth 100000 in
theorem zc_61 : zmeth zTs zm_61 := zM_meth (Ns := zNs) (zpl_hold (is := [(false, 367), (false, 50), (false, 366), (false, 16)]) rfl) (by decide +kernel) (by decide +kernel) (plainFor_of_name (by decide +kernel)) (fun h => by cases h)
theorem zo_61 : (Nat.ble zm_61.2.2.2.2.2.2.1 2 = true → zmeth zTs zm_61) ∧ ∀ row ∈ zm_61.2.2.2.2.2.2.2.2, zrowok "SiphonReport" zTs zNs zCL zP zm_61 row := ⟨fun _ => zc_61, zM_rows zb_61 (zpl_hold zw_61) zs_61⟩
set_option maxRecDepth 100000 in
theorem zb_62 : zMb zCL zP zm_62 = true := by decide +kernel
set_option maxRecDepth 100000 in
theorem zw_62 : (zMw "SiphonReport" zCL zP zm_62).map some = ([(false, 160), (true, 25), (false, 352), (true, 54), (false, 160), (false, 353), (false, 162), (false, 354), (false, 162), (false, 358), (false, 359), (false, 365)] : List (Bool × Nat)).map (zpl zTs zNs) := rfl
set_option maxRecDepth 100000 in
theorem zs_62 : (zMs zCL zP zm_62).map Prod.fst = (zMs zCL zP zm_62).map Prod.snd := rfl
set_option maxRecDepth 100000 in
theorem zc_62 : zmeth zTs zm_62 := zM_meth (Ns := zNs) (zpl_hold (is := [(false, 351), (false, 50), (false, 349), (false, 350)]) rfl) (by decide +kernel) (by decide +kernel) (plainFor_of_name (by decide +kernel)) (fun h => by cases h)
theorem zo_62 : (Nat.ble zm_62.2.2.2.2.2.2.1 2 = true → zmeth zTs zm_62) ∧ ∀ row ∈ zm_62.2.2.2.2.2.2.2.2, zrowok "SiphonReport" zTs zNs zCL zP zm_62 row := ⟨fun _ => zc_62, zM_rows zb_62 (zpl_hold zw_62) zs_62⟩
set_option maxRecDepth 100000 in
theorem zb_63 : zMb zCL zP zm_63 = true := by decide +kernel
set_option maxRecDepth 100000 in
theorem zw_63 : (zMw "SiphonReport" zCL zP zm_63).map some = ([(false, 185), (false, 184), (false, 218), (false, 185), (false, 245), (false, 186), (false, 192), (false, 184), (false, 249), (false, 191), (false, 192), (false, 191), (false, 192), (false, 187), (false, 191), (false, 275), (false, 188), (false, 191), (false, 187), (false, 300), (false, 326), (false, 190), (false, 191), (false, 188), (true, 21), (false, 348), (false, 191), (true, 46)] : List (Bool × Nat)).map (zpl zTs zNs) := rfl
set_option maxRecDepth 100000 in
theorem zs_63 : (zMs zCL zP zm_63).map Prod.fst = (zMs zCL zP zm_63).map Prod.snd := rfl
set_option maxRecDepth 100000 in
theorem zc_63 : zmeth zTs zm_63 := zM_meth (Ns := zNs) (zpl_hold (is := [(false, 217), (false, 42), (false, 215), (false, 216)]) rfl) (by decide +kernel) (by decide +kernel) (plainFor_of_name (by decide +kernel)) (fun h => by cases h)
theorem zo_63 : (Nat.ble zm_63.2.2.2.2.2.2.1 2 = true → zmeth zTs zm_63) ∧ ∀ row ∈ zm_63.2.2.2.2.2.2.2.2, zrowok "SiphonReport" zTs zNs zCL zP zm_63 row := ⟨fun _ => zc_63, zM_rows zb_63 (zpl_hold zw_63) zs_63⟩
set_option maxRecDepth 100000 in
theorem zb_64 : zMb zCL zP zm_64 = true := by decide +kernel
set_option maxRecDepth 100000 in
theorem zw_64 : (zMw "SiphonReport" zCL zP zm_64).map some = ([] : List (Bool × Nat)).map (zpl zTs zNs) := rfl
set_option maxRecDepth 100000 in
theorem zs_64 : (zMs zCL zP zm_64).map Prod.fst = (zMs zCL zP zm_64).map Prod.snd := rfl
set_option maxRecDepth 100000 in
theorem zc_64 : zmeth zTs zm_64 := zM_meth (Ns := zNs) (zpl_hold (is := [(false, 548), (false, 52), (false, 547)]) rfl) (by decide +kernel) (by decide +kernel) (plainFor_of_name (by decide +kernel)) (fun h => by cases h)
theorem zo_64 : (Nat.ble zm_64.2.2.2.2.2.2.1 2 = true → zmeth zTs zm_64) ∧ ∀ row ∈ zm_64.2.2.2.2.2.2.2.2, zrowok "SiphonReport" zTs zNs zCL zP zm_64 row := ⟨fun _ => zc_64, zM_rows zb_64 (zpl_hold zw_64) zs_64⟩
set_option maxRecDepth 100000 in
theorem zb_65 : zMb zCL zP zm_65 = true := by decide +kernel
set_option maxRecDepth 100000 in
theorem zw_65 : (zMw "SiphonReport" zCL zP zm_65).map some = ([(false, 487), (false, 486), (false, 486), (false, 546), (false, 487)] : List (Bool × Nat)).map (zpl zTs zNs) := rfl
set_option maxRecDepth 100000 in
theorem zs_65 : (zMs zCL zP zm_65).map Prod.fst = (zMs zCL zP zm_65).map Prod.snd := rfl
set_option maxRecDepth 100000 in
theorem zc_65 : zmeth zTs zm_65 := zM_meth (Ns := zNs) (zpl_hold (is := [(false, 545), (false, 52), (false, 544), (false, 23)]) rfl) (by decide +kernel) (by decide +kernel) (plainFor_of_name (by decide +kernel)) (fun h => by cases h)
theorem zo_65 : (Nat.ble zm_65.2.2.2.2.2.2.1 2 = true → zmeth zTs zm_65) ∧ ∀ row ∈ zm_65.2.2.2.2.2.2.2.2, zrowok "SiphonReport" zTs zNs zCL zP zm_65 row := ⟨fun _ => zc_65, zM_rows zb_65 (zpl_hold zw_65) zs_65⟩
set_option maxRecDepth 100000 in
theorem zb_66 : zMb zCL zP zm_66 = true := by decide +kernel
set_option maxRecDepth 100000 in
theorem zw_66 : (zMw "SiphonReport" zCL zP zm_66).map some = ([(false, 492), (false, 493)] : List (Bool × Nat)).map (zpl zTs zNs) := rfl
set_option maxRecDepth 100000 in
theorem zs_66 : (zMs zCL zP zm_66).map Prod.fst = (zMs zCL zP zm_66).map Prod.snd := rfl
set_option maxRecDepth 100000 in
theorem zc_66 : zmeth zTs zm_66 := zM_meth (Ns := zNs) (zpl_hold (is := [(false, 551), (false, 52), (false, 550), (false, 24)]) rfl) (by decide +kernel) (by decide +kernel) (plainFor_of_name (by decide +kernel)) (fun h => by cases h)
theorem zo_66 : (Nat.ble zm_66.2.2.2.2.2.2.1 2 = true → zmeth zTs zm_66) ∧ ∀ row ∈ zm_66.2.2.2.2.2.2.2.2, zrowok "SiphonReport" zTs zNs zCL zP zm_66 row := ⟨fun _ => zc_66, zM_rows zb_66 (zpl_hold zw_66) zs_66⟩
set_option maxRecDepth 100000 in
theorem zb_67 : zMb zCL zP zm_67 = true := by decide +kernel
set_option maxRecDepth 100000 in
theorem zw_67 : (zMw "SiphonReport" zCL zP zm_67).map some = ([(false, 488), (false, 489), (false, 492), (false, 493), (false, 489), (false, 488), (false, 492), (false, 493), (false, 488), (false, 488), (false, 488)] : List (Bool × Nat)).map (zpl zTs zNs) := rfl
set_option maxRecDepth 100000 in
theorem zs_67 : (zMs zCL zP zm_67).map Prod.fst = (zMs zCL zP zm_67).map Prod.snd := rfl
set_option maxRecDepth 100000 in
theorem zc_67 : zmeth zTs zm_67 := zM_meth (Ns := zNs) (zpl_hold (is := [(false, 560), (false, 52), (false, 559), (false, 27)]) rfl) (by decide +kernel) (by decide +kernel) (plainFor_of_name (by decide +kernel)) (fun h => by cases h)
theorem zo_67 : (Nat.ble zm_67.2.2.2.2.2.2.1 2 = true → zmeth zTs zm_67) ∧ ∀ row ∈ zm_67.2.2.2.2.2.2.2.2, zrowok "SiphonReport" zTs zNs zCL zP zm_67 row := ⟨fun _ => zc_67, zM_rows zb_67 (zpl_hold zw_67) zs_67⟩
end
section
/-! The methods 68 to 80, instruction by instruction. -/
set_option maxRecDepth 100000 in
theorem zb_68 : zMb zCL zP zm_68 = true := by decide +kernel
set_option maxRecDepth 100000 in
theorem zw_68 : (zMw "SiphonReport" zCL zP zm_68).map some = ([(false, 490), (false, 490), (false, 491), (false, 491)] : List (Bool × Nat)).map (zpl zTs zNs) := rfl
set_option maxRecDepth 100000 in
theorem zs_68 : (zMs zCL zP zm_68).map Prod.fst = (zMs zCL zP zm_68).map Prod.snd := rfl
set_option maxRecDepth 100000 in
theorem zc_68 : zmeth zTs zm_68 := zM_meth (Ns := zNs) (zpl_hold (is := [(false, 563), (false, 52), (false, 562), (false, 28)]) rfl) (by decide +kernel) (by decide +kernel) (plainFor_of_name (by decide +kernel)) (fun h => by cases h)
theorem zo_68 : (Nat.ble zm_68.2.2.2.2.2.2.1 2 = true → zmeth zTs zm_68) ∧ ∀ row ∈ zm_68.2.2.2.2.2.2.2.2, zrowok "SiphonReport" zTs zNs zCL zP zm_68 row := ⟨fun _ => zc_68, zM_rows zb_68 (zpl_hold zw_68) zs_68⟩
set_option maxRecDepth 100000 in
theorem zb_69 : zMb zCL zP zm_69 = true := by decide +kernel
set_option maxRecDepth 100000 in
theorem zw_69 : (zMw "SiphonReport" zCL zP zm_69).map some = ([(false, 492), (false, 493), (false, 492), (false, 493), (false, 558), (false, 558), (false, 488), (false, 561), (false, 561), (false, 491)] : List (Bool × Nat)).map (zpl zTs zNs) := rfl
set_option maxRecDepth 100000 in
theorem zs_69 : (zMs zCL zP zm_69).map Prod.fst = (zMs zCL zP zm_69).map Prod.snd := rfl
set_option maxRecDepth 100000 in
theorem zc_69 : zmeth zTs zm_69 := zM_meth (Ns := zNs) (zpl_hold (is := [(false, 557), (false, 52), (false, 556), (false, 26)]) rfl) (by decide +kernel) (by decide +kernel) (plainFor_of_name (by decide +kernel)) (fun h => by cases h)
theorem zo_69 : (Nat.ble zm_69.2.2.2.2.2.2.1 2 = true → zmeth zTs zm_69) ∧ ∀ row ∈ zm_69.2.2.2.2.2.2.2.2, zrowok "SiphonReport" zTs zNs zCL zP zm_69 row := ⟨fun _ => zc_69, zM_rows zb_69 (zpl_hold zw_69) zs_69⟩
set_option maxRecDepth 100000 in
theorem zb_70 : zMb zCL zP zm_70 = true := by decide +kernel
set_option maxRecDepth 100000 in
theorem zw_70 : (zMw "SiphonReport" zCL zP zm_70).map some = ([(false, 487), (false, 487), (false, 486), (false, 493), (false, 492), (false, 555), (false, 549)] : List (Bool × Nat)).map (zpl zTs zNs) := rfl
set_option maxRecDepth 100000 in
theorem zs_70 : (zMs zCL zP zm_70).map Prod.fst = (zMs zCL zP zm_70).map Prod.snd := rfl
set_option maxRecDepth 100000 in
theorem zc_70 : zmeth zTs zm_70 := zM_meth (Ns := zNs) (zpl_hold (is := [(false, 554), (false, 52), (false, 553), (false, 25)]) rfl) (by decide +kernel) (by decide +kernel) (plainFor_of_name (by decide +kernel)) (fun h => by cases h)
theorem zo_70 : (Nat.ble zm_70.2.2.2.2.2.2.1 2 = true → zmeth zTs zm_70) ∧ ∀ row ∈ zm_70.2.2.2.2.2.2.2.2, zrowok "SiphonReport" zTs zNs zCL zP zm_70 row := ⟨fun _ => zc_70, zM_rows zb_70 (zpl_hold zw_70) zs_70⟩
set_option maxRecDepth 100000 in
theorem zb_71 : zMb zCL zP zm_71 = true := by decide +kernel
set_option maxRecDepth 100000 in
theorem zw_71 : (zMw "SiphonReport" zCL zP zm_71).map some = ([(false, 499), (false, 494), (false, 494), (false, 497), (false, 497), (false, 499), (false, 499), (false, 499), (false, 499), (false, 499)] : List (Bool × Nat)).map (zpl zTs zNs) := rfl
set_option maxRecDepth 100000 in
theorem zs_71 : (zMs zCL zP zm_71).map Prod.fst = (zMs zCL zP zm_71).map Prod.snd := rfl
set_option maxRecDepth 100000 in
theorem zc_71 : zmeth zTs zm_71 := zM_meth (Ns := zNs) (zpl_hold (is := [(false, 569), (false, 52), (false, 568), (false, 30)]) rfl) (by decide +kernel) (by decide +kernel) (plainFor_of_name (by decide +kernel)) (fun h => by cases h)
theorem zo_71 : (Nat.ble zm_71.2.2.2.2.2.2.1 2 = true → zmeth zTs zm_71) ∧ ∀ row ∈ zm_71.2.2.2.2.2.2.2.2, zrowok "SiphonReport" zTs zNs zCL zP zm_71 row := ⟨fun _ => zc_71, zM_rows zb_71 (zpl_hold zw_71) zs_71⟩
set_option maxRecDepth 100000 in
theorem zb_72 : zMb zCL zP zm_72 = true := by decide +kernel
set_option maxRecDepth 100000 in
theorem zw_72 : (zMw "SiphonReport" zCL zP zm_72).map some = ([(false, 496)] : List (Bool × Nat)).map (zpl zTs zNs) := rfl
set_option maxRecDepth 100000 in
theorem zs_72 : (zMs zCL zP zm_72).map Prod.fst = (zMs zCL zP zm_72).map Prod.snd := rfl
set_option maxRecDepth 100000 in
theorem zc_72 : zmeth zTs zm_72 := zM_meth (Ns := zNs) (zpl_hold (is := [(false, 576), (false, 52), (false, 575), (false, 31)]) rfl) (by decide +kernel) (by decide +kernel) (plainFor_of_name (by decide +kernel)) (fun h => by cases h)
theorem zo_72 : (Nat.ble zm_72.2.2.2.2.2.2.1 2 = true → zmeth zTs zm_72) ∧ ∀ row ∈ zm_72.2.2.2.2.2.2.2.2, zrowok "SiphonReport" zTs zNs zCL zP zm_72 row := ⟨fun _ => zc_72, zM_rows zb_72 (zpl_hold zw_72) zs_72⟩
set_option maxRecDepth 100000 in
theorem zb_73 : zMb zCL zP zm_73 = true := by decide +kernel
set_option maxRecDepth 100000 in
theorem zw_73 : (zMw "SiphonReport" zCL zP zm_73).map some = ([(false, 494), (false, 574)] : List (Bool × Nat)).map (zpl zTs zNs) := rfl
set_option maxRecDepth 100000 in
theorem zs_73 : (zMs zCL zP zm_73).map Prod.fst = (zMs zCL zP zm_73).map Prod.snd := rfl
set_option maxRecDepth 100000 in
theorem zc_73 : zmeth zTs zm_73 := zM_meth (Ns := zNs) (zpl_hold (is := [(false, 573), (false, 52), (false, 571), (false, 572)]) rfl) (by decide +kernel) (by decide +kernel) (plainFor_of_name (by decide +kernel)) (fun h => by cases h)
theorem zo_73 : (Nat.ble zm_73.2.2.2.2.2.2.1 2 = true → zmeth zTs zm_73) ∧ ∀ row ∈ zm_73.2.2.2.2.2.2.2.2, zrowok "SiphonReport" zTs zNs zCL zP zm_73 row := ⟨fun _ => zc_73, zM_rows zb_73 (zpl_hold zw_73) zs_73⟩
set_option maxRecDepth 100000 in
theorem zb_74 : zMb zCL zP zm_74 = true := by decide +kernel
set_option maxRecDepth 100000 in
theorem zw_74 : (zMw "SiphonReport" zCL zP zm_74).map some = ([(false, 494), (false, 494), (false, 497), (false, 574), (false, 574)] : List (Bool × Nat)).map (zpl zTs zNs) := rfl
set_option maxRecDepth 100000 in
theorem zs_74 : (zMs zCL zP zm_74).map Prod.fst = (zMs zCL zP zm_74).map Prod.snd := rfl
set_option maxRecDepth 100000 in
theorem zc_74 : zmeth zTs zm_74 := zM_meth (Ns := zNs) (zpl_hold (is := [(false, 582), (false, 52), (false, 581), (false, 33)]) rfl) (by decide +kernel) (by decide +kernel) (plainFor_of_name (by decide +kernel)) (fun h => by cases h)
theorem zo_74 : (Nat.ble zm_74.2.2.2.2.2.2.1 2 = true → zmeth zTs zm_74) ∧ ∀ row ∈ zm_74.2.2.2.2.2.2.2.2, zrowok "SiphonReport" zTs zNs zCL zP zm_74 row := ⟨fun _ => zc_74, zM_rows zb_74 (zpl_hold zw_74) zs_74⟩
set_option maxRecDepth 100000 in
theorem zb_75 : zMb zCL zP zm_75 = true := by decide +kernel
set_option maxRecDepth 100000 in
theorem zw_75 : (zMw "SiphonReport" zCL zP zm_75).map some = ([(false, 580), (false, 580), (false, 501), (false, 500), (false, 500), (false, 500)] : List (Bool × Nat)).map (zpl zTs zNs) := rfl
set_option maxRecDepth 100000 in
theorem zs_75 : (zMs zCL zP zm_75).map Prod.fst = (zMs zCL zP zm_75).map Prod.snd := rfl
set_option maxRecDepth 100000 in
theorem zc_75 : zmeth zTs zm_75 := zM_meth (Ns := zNs) (zpl_hold (is := [(false, 579), (false, 52), (false, 578), (false, 32)]) rfl) (by decide +kernel) (by decide +kernel) (plainFor_of_name (by decide +kernel)) (fun h => by cases h)
theorem zo_75 : (Nat.ble zm_75.2.2.2.2.2.2.1 2 = true → zmeth zTs zm_75) ∧ ∀ row ∈ zm_75.2.2.2.2.2.2.2.2, zrowok "SiphonReport" zTs zNs zCL zP zm_75 row := ⟨fun _ => zc_75, zM_rows zb_75 (zpl_hold zw_75) zs_75⟩
set_option maxRecDepth 100000 in
theorem zb_76 : zMb zCL zP zm_76 = true := by decide +kernel
set_option maxRecDepth 100000 in
theorem zw_76 : (zMw "SiphonReport" zCL zP zm_76).map some = ([(false, 505), (false, 494), (false, 494), (false, 497), (false, 499), (false, 506), (false, 505), (false, 496), (false, 496), (false, 505), (false, 505)] : List (Bool × Nat)).map (zpl zTs zNs) := rfl
set_option maxRecDepth 100000 in
theorem zs_76 : (zMs zCL zP zm_76).map Prod.fst = (zMs zCL zP zm_76).map Prod.snd := rfl
set_option maxRecDepth 100000 in
theorem zc_76 : zmeth zTs zm_76 := zM_meth (Ns := zNs) (zpl_hold (is := [(false, 591), (false, 52), (false, 590), (false, 36)]) rfl) (by decide +kernel) (by decide +kernel) (plainFor_of_name (by decide +kernel)) (fun h => by cases h)
theorem zo_76 : (Nat.ble zm_76.2.2.2.2.2.2.1 2 = true → zmeth zTs zm_76) ∧ ∀ row ∈ zm_76.2.2.2.2.2.2.2.2, zrowok "SiphonReport" zTs zNs zCL zP zm_76 row := ⟨fun _ => zc_76, zM_rows zb_76 (zpl_hold zw_76) zs_76⟩
set_option maxRecDepth 100000 in
theorem zb_77 : zMb zCL zP zm_77 = true := by decide +kernel
set_option maxRecDepth 100000 in
theorem zw_77 : (zMw "SiphonReport" zCL zP zm_77).map some = ([(false, 506), (false, 506), (false, 506), (false, 506)] : List (Bool × Nat)).map (zpl zTs zNs) := rfl
set_option maxRecDepth 100000 in
theorem zs_77 : (zMs zCL zP zm_77).map Prod.fst = (zMs zCL zP zm_77).map Prod.snd := rfl
set_option maxRecDepth 100000 in
theorem zc_77 : zmeth zTs zm_77 := zM_meth (Ns := zNs) (zpl_hold (is := [(false, 594), (false, 52), (false, 593), (false, 37)]) rfl) (by decide +kernel) (by decide +kernel) (plainFor_of_name (by decide +kernel)) (fun h => by cases h)
theorem zo_77 : (Nat.ble zm_77.2.2.2.2.2.2.1 2 = true → zmeth zTs zm_77) ∧ ∀ row ∈ zm_77.2.2.2.2.2.2.2.2, zrowok "SiphonReport" zTs zNs zCL zP zm_77 row := ⟨fun _ => zc_77, zM_rows zb_77 (zpl_hold zw_77) zs_77⟩
set_option maxRecDepth 100000 in
theorem zb_78 : zMb zCL zP zm_78 = true := by decide +kernel
set_option maxRecDepth 100000 in
theorem zw_78 : (zMw "SiphonReport" zCL zP zm_78).map some = ([] : List (Bool × Nat)).map (zpl zTs zNs) := rfl
set_option maxRecDepth 100000 in
theorem zs_78 : (zMs zCL zP zm_78).map Prod.fst = (zMs zCL zP zm_78).map Prod.snd := rfl
set_option maxRecDepth 100000 in
theorem zc_78 : zmeth zTs zm_78 := zM_meth (Ns := zNs) (zpl_hold (is := [(false, 600), (false, 52), (false, 599)]) rfl) (by decide +kernel) (by decide +kernel) (plainFor_of_name (by decide +kernel)) (fun h => by cases h)
theorem zo_78 : (Nat.ble zm_78.2.2.2.2.2.2.1 2 = true → zmeth zTs zm_78) ∧ ∀ row ∈ zm_78.2.2.2.2.2.2.2.2, zrowok "SiphonReport" zTs zNs zCL zP zm_78 row := ⟨fun _ => zc_78, zM_rows zb_78 (zpl_hold zw_78) zs_78⟩
set_option maxRecDepth 100000 in
theorem zb_79 : zMb zCL zP zm_79 = true := by decide +kernel
set_option maxRecDepth 100000 in
theorem zw_79 : (zMw "SiphonReport" zCL zP zm_79).map some = ([(false, 506), (false, 506), (false, 506), (false, 506), (false, 506), (false, 506), (false, 598), (false, 506)] : List (Bool × Nat)).map (zpl zTs zNs) := rfl
set_option maxRecDepth 100000 in
theorem zs_79 : (zMs zCL zP zm_79).map Prod.fst = (zMs zCL zP zm_79).map Prod.snd := rfl
set_option maxRecDepth 100000 in
theorem zc_79 : zmeth zTs zm_79 := zM_meth (Ns := zNs) (zpl_hold (is := [(false, 597), (false, 52), (false, 596), (false, 38)]) rfl) (by decide +kernel) (by decide +kernel) (plainFor_of_name (by decide +kernel)) (fun h => by cases h)
theorem zo_79 : (Nat.ble zm_79.2.2.2.2.2.2.1 2 = true → zmeth zTs zm_79) ∧ ∀ row ∈ zm_79.2.2.2.2.2.2.2.2, zrowok "SiphonReport" zTs zNs zCL zP zm_79 row := ⟨fun _ => zc_79, zM_rows zb_79 (zpl_hold zw_79) zs_79⟩
set_option maxRecDepth 100000 in
theorem zb_80 : zMb zCL zP zm_80 = true := by decide +kernel
set_option maxRecDepth 100000 in
theorem zw_80 : (zMw "SiphonReport" zCL zP zm_80).map some = ([(false, 589), (false, 505), (false, 506), (false, 505), (false, 592), (false, 507), (false, 505), (false, 506), (false, 595)] : List (Bool × Nat)).map (zpl zTs zNs) := rfl
set_option maxRecDepth 100000 in
theorem zs_80 : (zMs zCL zP zm_80).map Prod.fst = (zMs zCL zP zm_80).map Prod.snd := rfl
set_option maxRecDepth 100000 in
theorem zc_80 : zmeth zTs zm_80 := zM_meth (Ns := zNs) (zpl_hold (is := [(false, 588), (false, 52), (false, 587), (false, 35)]) rfl) (by decide +kernel) (by decide +kernel) (plainFor_of_name (by decide +kernel)) (fun h => by cases h)
theorem zo_80 : (Nat.ble zm_80.2.2.2.2.2.2.1 2 = true → zmeth zTs zm_80) ∧ ∀ row ∈ zm_80.2.2.2.2.2.2.2.2, zrowok "SiphonReport" zTs zNs zCL zP zm_80 row := ⟨fun _ => zc_80, zM_rows zb_80 (zpl_hold zw_80) zs_80⟩
end
section
/-! The methods 81 to 101, instruction by instruction. -/
set_option maxRecDepth 100000 in
theorem zb_81 : zMb zCL zP zm_81 = true := by decide +kernel
set_option maxRecDepth 100000 in
theorem zw_81 : (zMw "SiphonReport" zCL zP zm_81).map some = ([(false, 586), (false, 507), (false, 506), (false, 507), (false, 506), (false, 598), (false, 598), (false, 504), (false, 502), (false, 506), (false, 506), (false, 507), (false, 504), (false, 502), (false, 507), (false, 503), (false, 502), (false, 502), (false, 502)] : List (Bool × Nat)).map (zpl zTs zNs) := rfl
set_option maxRecDepth 100000 in
theorem zs_81 : (zMs zCL zP zm_81).map Prod.fst = (zMs zCL zP zm_81).map Prod.snd := rfl
set_option maxRecDepth 100000 in
theorem zc_81 : zmeth zTs zm_81 := zM_meth (Ns := zNs) (zpl_hold (is := [(false, 585), (false, 52), (false, 584), (false, 34)]) rfl) (by decide +kernel) (by decide +kernel) (plainFor_of_name (by decide +kernel)) (fun h => by cases h)
theorem zo_81 : (Nat.ble zm_81.2.2.2.2.2.2.1 2 = true → zmeth zTs zm_81) ∧ ∀ row ∈ zm_81.2.2.2.2.2.2.2.2, zrowok "SiphonReport" zTs zNs zCL zP zm_81 row := ⟨fun _ => zc_81, zM_rows zb_81 (zpl_hold zw_81) zs_81⟩
set_option maxRecDepth 100000 in
theorem zb_82 : zMb zCL zP zm_82 = true := by decide +kernel
set_option maxRecDepth 100000 in
theorem zw_82 : (zMw "SiphonReport" zCL zP zm_82).map some = ([(false, 488), (false, 494), (false, 491), (false, 495), (false, 496), (false, 489), (false, 497), (false, 494), (false, 494), (false, 490), (false, 498), (false, 497), (false, 498), (false, 498), (false, 498), (false, 498), (false, 567), (false, 500), (false, 502), (false, 570), (false, 577), (false, 583)] : List (Bool × Nat)).map (zpl zTs zNs) := rfl
set_option maxRecDepth 100000 in
theorem zs_82 : (zMs zCL zP zm_82).map Prod.fst = (zMs zCL zP zm_82).map Prod.snd := rfl
set_option maxRecDepth 100000 in
theorem zc_82 : zmeth zTs zm_82 := zM_meth (Ns := zNs) (zpl_hold (is := [(false, 566), (false, 52), (false, 565), (false, 29)]) rfl) (by decide +kernel) (by decide +kernel) (plainFor_of_name (by decide +kernel)) (fun h => by cases h)
theorem zo_82 : (Nat.ble zm_82.2.2.2.2.2.2.1 2 = true → zmeth zTs zm_82) ∧ ∀ row ∈ zm_82.2.2.2.2.2.2.2.2, zrowok "SiphonReport" zTs zNs zCL zP zm_82 row := ⟨fun _ => zc_82, zM_rows zb_82 (zpl_hold zw_82) zs_82⟩
set_option maxRecDepth 100000 in
theorem zb_83 : zMb zCL zP zm_83 = true := by decide +kernel
set_option maxRecDepth 100000 in
theorem zw_83 : (zMw "SiphonReport" zCL zP zm_83).map some = ([(false, 543), (false, 488), (false, 491), (false, 490), (false, 549), (false, 487), (false, 486), (false, 552), (false, 564), (false, 495)] : List (Bool × Nat)).map (zpl zTs zNs) := rfl
set_option maxRecDepth 100000 in
theorem zs_83 : (zMs zCL zP zm_83).map Prod.fst = (zMs zCL zP zm_83).map Prod.snd := rfl
set_option maxRecDepth 100000 in
theorem zc_83 : zmeth zTs zm_83 := zM_meth (Ns := zNs) (zpl_hold (is := [(false, 542), (false, 52), (false, 540), (false, 541)]) rfl) (by decide +kernel) (by decide +kernel) (plainFor_of_name (by decide +kernel)) (fun h => by cases h)
theorem zo_83 : (Nat.ble zm_83.2.2.2.2.2.2.1 2 = true → zmeth zTs zm_83) ∧ ∀ row ∈ zm_83.2.2.2.2.2.2.2.2, zrowok "SiphonReport" zTs zNs zCL zP zm_83 row := ⟨fun _ => zc_83, zM_rows zb_83 (zpl_hold zw_83) zs_83⟩
set_option maxRecDepth 100000 in
theorem zb_84 : zMb zCL zP zm_84 = true := by decide +kernel
set_option maxRecDepth 100000 in
theorem zw_84 : (zMw "SiphonReport" zCL zP zm_84).map some = ([(false, 191), (true, 46)] : List (Bool × Nat)).map (zpl zTs zNs) := rfl
set_option maxRecDepth 100000 in
theorem zs_84 : (zMs zCL zP zm_84).map Prod.fst = (zMs zCL zP zm_84).map Prod.snd := rfl
set_option maxRecDepth 100000 in
theorem zc_84 : zmeth zTs zm_84 := zM_meth (Ns := zNs) (zpl_hold (is := [(false, 382), (false, 42), (false, 380), (false, 381)]) rfl) (by decide +kernel) (by decide +kernel) (plainFor_of_name (by decide +kernel)) (fun h => by cases h)
theorem zo_84 : (Nat.ble zm_84.2.2.2.2.2.2.1 2 = true → zmeth zTs zm_84) ∧ ∀ row ∈ zm_84.2.2.2.2.2.2.2.2, zrowok "SiphonReport" zTs zNs zCL zP zm_84 row := ⟨fun _ => zc_84, zM_rows zb_84 (zpl_hold zw_84) zs_84⟩
set_option maxRecDepth 100000 in
theorem zb_85 : zMb zCL zP zm_85 = true := by decide +kernel
set_option maxRecDepth 100000 in
theorem zw_85 : (zMw "SiphonReport" zCL zP zm_85).map some = ([(false, 495)] : List (Bool × Nat)).map (zpl zTs zNs) := rfl
set_option maxRecDepth 100000 in
theorem zs_85 : (zMs zCL zP zm_85).map Prod.fst = (zMs zCL zP zm_85).map Prod.snd := rfl
set_option maxRecDepth 100000 in
theorem zc_85 : zmeth zTs zm_85 := zM_meth (Ns := zNs) (zpl_hold (is := [(false, 604), (false, 52), (false, 602), (false, 603)]) rfl) (by decide +kernel) (by decide +kernel) (plainFor_of_name (by decide +kernel)) (fun h => by cases h)
theorem zo_85 : (Nat.ble zm_85.2.2.2.2.2.2.1 2 = true → zmeth zTs zm_85) ∧ ∀ row ∈ zm_85.2.2.2.2.2.2.2.2, zrowok "SiphonReport" zTs zNs zCL zP zm_85 row := ⟨fun _ => zc_85, zM_rows zb_85 (zpl_hold zw_85) zs_85⟩
set_option maxRecDepth 100000 in
theorem zb_86 : zMb zCL zP zm_86 = true := by decide +kernel
set_option maxRecDepth 100000 in
theorem zw_86 : (zMw "SiphonReport" zCL zP zm_86).map some = ([(false, 191), (true, 42)] : List (Bool × Nat)).map (zpl zTs zNs) := rfl
set_option maxRecDepth 100000 in
theorem zs_86 : (zMs zCL zP zm_86).map Prod.fst = (zMs zCL zP zm_86).map Prod.snd := rfl
set_option maxRecDepth 100000 in
theorem zc_86 : zmeth zTs zm_86 := zM_meth (Ns := zNs) (zpl_hold (is := [(false, 386), (false, 42), (false, 384), (false, 385)]) rfl) (by decide +kernel) (by decide +kernel) (plainFor_of_name (by decide +kernel)) (fun h => by cases h)
theorem zo_86 : (Nat.ble zm_86.2.2.2.2.2.2.1 2 = true → zmeth zTs zm_86) ∧ ∀ row ∈ zm_86.2.2.2.2.2.2.2.2, zrowok "SiphonReport" zTs zNs zCL zP zm_86 row := ⟨fun _ => zc_86, zM_rows zb_86 (zpl_hold zw_86) zs_86⟩
set_option maxRecDepth 100000 in
theorem zb_87 : zMb zCL zP zm_87 = true := by decide +kernel
set_option maxRecDepth 100000 in
theorem zw_87 : (zMw "SiphonReport" zCL zP zm_87).map some = ([(false, 494)] : List (Bool × Nat)).map (zpl zTs zNs) := rfl
set_option maxRecDepth 100000 in
theorem zs_87 : (zMs zCL zP zm_87).map Prod.fst = (zMs zCL zP zm_87).map Prod.snd := rfl
set_option maxRecDepth 100000 in
theorem zc_87 : zmeth zTs zm_87 := zM_meth (Ns := zNs) (zpl_hold (is := [(false, 608), (false, 52), (false, 606), (false, 607)]) rfl) (by decide +kernel) (by decide +kernel) (plainFor_of_name (by decide +kernel)) (fun h => by cases h)
theorem zo_87 : (Nat.ble zm_87.2.2.2.2.2.2.1 2 = true → zmeth zTs zm_87) ∧ ∀ row ∈ zm_87.2.2.2.2.2.2.2.2, zrowok "SiphonReport" zTs zNs zCL zP zm_87 row := ⟨fun _ => zc_87, zM_rows zb_87 (zpl_hold zw_87) zs_87⟩
set_option maxRecDepth 100000 in
theorem zb_88 : zMb zCL zP zm_88 = true := by decide +kernel
set_option maxRecDepth 100000 in
theorem zw_88 : (zMw "SiphonReport" zCL zP zm_88).map some = ([(false, 176)] : List (Bool × Nat)).map (zpl zTs zNs) := rfl
set_option maxRecDepth 100000 in
theorem zs_88 : (zMs zCL zP zm_88).map Prod.fst = (zMs zCL zP zm_88).map Prod.snd := rfl
set_option maxRecDepth 100000 in
theorem zc_88 : zmeth zTs zm_88 := zM_meth (Ns := zNs) (zpl_hold (is := [(false, 394), (false, 51), (false, 392), (false, 393)]) rfl) (by decide +kernel) (by decide +kernel) (plainFor_of_name (by decide +kernel)) (fun h => by cases h)
theorem zo_88 : (Nat.ble zm_88.2.2.2.2.2.2.1 2 = true → zmeth zTs zm_88) ∧ ∀ row ∈ zm_88.2.2.2.2.2.2.2.2, zrowok "SiphonReport" zTs zNs zCL zP zm_88 row := ⟨fun _ => zc_88, zM_rows zb_88 (zpl_hold zw_88) zs_88⟩
set_option maxRecDepth 100000 in
theorem zb_89 : zMb zCL zP zm_89 = true := by decide +kernel
set_option maxRecDepth 100000 in
theorem zw_89 : (zMw "SiphonReport" zCL zP zm_89).map some = ([(false, 191), (false, 391), (false, 395), (false, 191), (true, 34)] : List (Bool × Nat)).map (zpl zTs zNs) := rfl
set_option maxRecDepth 100000 in
theorem zs_89 : (zMs zCL zP zm_89).map Prod.fst = (zMs zCL zP zm_89).map Prod.snd := rfl
set_option maxRecDepth 100000 in
theorem zc_89 : zmeth zTs zm_89 := zM_meth (Ns := zNs) (zpl_hold (is := [(false, 390), (false, 42), (false, 388), (false, 389)]) rfl) (by decide +kernel) (by decide +kernel) (plainFor_of_name (by decide +kernel)) (fun h => by cases h)
theorem zo_89 : (Nat.ble zm_89.2.2.2.2.2.2.1 2 = true → zmeth zTs zm_89) ∧ ∀ row ∈ zm_89.2.2.2.2.2.2.2.2, zrowok "SiphonReport" zTs zNs zCL zP zm_89 row := ⟨fun _ => zc_89, zM_rows zb_89 (zpl_hold zw_89) zs_89⟩
set_option maxRecDepth 100000 in
theorem zb_90 : zMb zCL zP zm_90 = true := by decide +kernel
set_option maxRecDepth 100000 in
theorem zw_90 : (zMw "SiphonReport" zCL zP zm_90).map some = ([(false, 494)] : List (Bool × Nat)).map (zpl zTs zNs) := rfl
set_option maxRecDepth 100000 in
theorem zs_90 : (zMs zCL zP zm_90).map Prod.fst = (zMs zCL zP zm_90).map Prod.snd := rfl
set_option maxRecDepth 100000 in
theorem zc_90 : zmeth zTs zm_90 := zM_meth (Ns := zNs) (zpl_hold (is := [(false, 615), (false, 52), (false, 614), (false, 39)]) rfl) (by decide +kernel) (by decide +kernel) (plainFor_of_name (by decide +kernel)) (fun h => by cases h)
theorem zo_90 : (Nat.ble zm_90.2.2.2.2.2.2.1 2 = true → zmeth zTs zm_90) ∧ ∀ row ∈ zm_90.2.2.2.2.2.2.2.2, zrowok "SiphonReport" zTs zNs zCL zP zm_90 row := ⟨fun _ => zc_90, zM_rows zb_90 (zpl_hold zw_90) zs_90⟩
set_option maxRecDepth 100000 in
theorem zb_91 : zMb zCL zP zm_91 = true := by decide +kernel
set_option maxRecDepth 100000 in
theorem zw_91 : (zMw "SiphonReport" zCL zP zm_91).map some = ([(false, 613), (false, 496)] : List (Bool × Nat)).map (zpl zTs zNs) := rfl
set_option maxRecDepth 100000 in
theorem zs_91 : (zMs zCL zP zm_91).map Prod.fst = (zMs zCL zP zm_91).map Prod.snd := rfl
set_option maxRecDepth 100000 in
theorem zc_91 : zmeth zTs zm_91 := zM_meth (Ns := zNs) (zpl_hold (is := [(false, 612), (false, 52), (false, 610), (false, 611)]) rfl) (by decide +kernel) (by decide +kernel) (plainFor_of_name (by decide +kernel)) (fun h => by cases h)
theorem zo_91 : (Nat.ble zm_91.2.2.2.2.2.2.1 2 = true → zmeth zTs zm_91) ∧ ∀ row ∈ zm_91.2.2.2.2.2.2.2.2, zrowok "SiphonReport" zTs zNs zCL zP zm_91 row := ⟨fun _ => zc_91, zM_rows zb_91 (zpl_hold zw_91) zs_91⟩
set_option maxRecDepth 100000 in
theorem zb_92 : zMb zCL zP zm_92 = true := by decide +kernel
set_option maxRecDepth 100000 in
theorem zw_92 : (zMw "SiphonReport" zCL zP zm_92).map some = ([(false, 191), (false, 329)] : List (Bool × Nat)).map (zpl zTs zNs) := rfl
set_option maxRecDepth 100000 in
theorem zs_92 : (zMs zCL zP zm_92).map Prod.fst = (zMs zCL zP zm_92).map Prod.snd := rfl
set_option maxRecDepth 100000 in
theorem zc_92 : zmeth zTs zm_92 := zM_meth (Ns := zNs) (zpl_hold (is := [(false, 399), (false, 42), (false, 397), (false, 398)]) rfl) (by decide +kernel) (by decide +kernel) (plainFor_of_name (by decide +kernel)) (fun h => by cases h)
theorem zo_92 : (Nat.ble zm_92.2.2.2.2.2.2.1 2 = true → zmeth zTs zm_92) ∧ ∀ row ∈ zm_92.2.2.2.2.2.2.2.2, zrowok "SiphonReport" zTs zNs zCL zP zm_92 row := ⟨fun _ => zc_92, zM_rows zb_92 (zpl_hold zw_92) zs_92⟩
set_option maxRecDepth 100000 in
theorem zb_93 : zMb zCL zP zm_93 = true := by decide +kernel
set_option maxRecDepth 100000 in
theorem zw_93 : (zMw "SiphonReport" zCL zP zm_93).map some = ([(false, 187), (true, 14)] : List (Bool × Nat)).map (zpl zTs zNs) := rfl
set_option maxRecDepth 100000 in
theorem zs_93 : (zMs zCL zP zm_93).map Prod.fst = (zMs zCL zP zm_93).map Prod.snd := rfl
set_option maxRecDepth 100000 in
theorem zc_93 : zmeth zTs zm_93 := zM_meth (Ns := zNs) (zpl_hold (is := [(false, 403), (false, 42), (false, 401), (false, 402)]) rfl) (by decide +kernel) (by decide +kernel) (plainFor_of_name (by decide +kernel)) (fun h => by cases h)
theorem zo_93 : (Nat.ble zm_93.2.2.2.2.2.2.1 2 = true → zmeth zTs zm_93) ∧ ∀ row ∈ zm_93.2.2.2.2.2.2.2.2, zrowok "SiphonReport" zTs zNs zCL zP zm_93 row := ⟨fun _ => zc_93, zM_rows zb_93 (zpl_hold zw_93) zs_93⟩
set_option maxRecDepth 100000 in
theorem zb_94 : zMb zCL zP zm_94 = true := by decide +kernel
set_option maxRecDepth 100000 in
theorem zw_94 : (zMw "SiphonReport" zCL zP zm_94).map some = ([(false, 494), (false, 499)] : List (Bool × Nat)).map (zpl zTs zNs) := rfl
set_option maxRecDepth 100000 in
theorem zs_94 : (zMs zCL zP zm_94).map Prod.fst = (zMs zCL zP zm_94).map Prod.snd := rfl
set_option maxRecDepth 100000 in
theorem zc_94 : zmeth zTs zm_94 := zM_meth (Ns := zNs) (zpl_hold (is := [(false, 620), (false, 52), (false, 618), (false, 619)]) rfl) (by decide +kernel) (by decide +kernel) (plainFor_of_name (by decide +kernel)) (fun h => by cases h)
theorem zo_94 : (Nat.ble zm_94.2.2.2.2.2.2.1 2 = true → zmeth zTs zm_94) ∧ ∀ row ∈ zm_94.2.2.2.2.2.2.2.2, zrowok "SiphonReport" zTs zNs zCL zP zm_94 row := ⟨fun _ => zc_94, zM_rows zb_94 (zpl_hold zw_94) zs_94⟩
set_option maxRecDepth 100000 in
theorem zb_95 : zMb zCL zP zm_95 = true := by decide +kernel
set_option maxRecDepth 100000 in
theorem zw_95 : (zMw "SiphonReport" zCL zP zm_95).map some = ([(false, 191), (false, 391), (false, 187), (true, 10)] : List (Bool × Nat)).map (zpl zTs zNs) := rfl
set_option maxRecDepth 100000 in
theorem zs_95 : (zMs zCL zP zm_95).map Prod.fst = (zMs zCL zP zm_95).map Prod.snd := rfl
set_option maxRecDepth 100000 in
theorem zc_95 : zmeth zTs zm_95 := zM_meth (Ns := zNs) (zpl_hold (is := [(false, 407), (false, 42), (false, 405), (false, 406)]) rfl) (by decide +kernel) (by decide +kernel) (plainFor_of_name (by decide +kernel)) (fun h => by cases h)
theorem zo_95 : (Nat.ble zm_95.2.2.2.2.2.2.1 2 = true → zmeth zTs zm_95) ∧ ∀ row ∈ zm_95.2.2.2.2.2.2.2.2, zrowok "SiphonReport" zTs zNs zCL zP zm_95 row := ⟨fun _ => zc_95, zM_rows zb_95 (zpl_hold zw_95) zs_95⟩
set_option maxRecDepth 100000 in
theorem zb_96 : zMb zCL zP zm_96 = true := by decide +kernel
set_option maxRecDepth 100000 in
theorem zw_96 : (zMw "SiphonReport" zCL zP zm_96).map some = ([(false, 613), (false, 499), (false, 499)] : List (Bool × Nat)).map (zpl zTs zNs) := rfl
set_option maxRecDepth 100000 in
theorem zs_96 : (zMs zCL zP zm_96).map Prod.fst = (zMs zCL zP zm_96).map Prod.snd := rfl
set_option maxRecDepth 100000 in
theorem zc_96 : zmeth zTs zm_96 := zM_meth (Ns := zNs) (zpl_hold (is := [(false, 624), (false, 52), (false, 622), (false, 623)]) rfl) (by decide +kernel) (by decide +kernel) (plainFor_of_name (by decide +kernel)) (fun h => by cases h)
theorem zo_96 : (Nat.ble zm_96.2.2.2.2.2.2.1 2 = true → zmeth zTs zm_96) ∧ ∀ row ∈ zm_96.2.2.2.2.2.2.2.2, zrowok "SiphonReport" zTs zNs zCL zP zm_96 row := ⟨fun _ => zc_96, zM_rows zb_96 (zpl_hold zw_96) zs_96⟩
set_option maxRecDepth 100000 in
theorem zb_97 : zMb zCL zP zm_97 = true := by decide +kernel
set_option maxRecDepth 100000 in
theorem zw_97 : (zMw "SiphonReport" zCL zP zm_97).map some = ([(false, 187), (true, 15)] : List (Bool × Nat)).map (zpl zTs zNs) := rfl
set_option maxRecDepth 100000 in
theorem zs_97 : (zMs zCL zP zm_97).map Prod.fst = (zMs zCL zP zm_97).map Prod.snd := rfl
set_option maxRecDepth 100000 in
theorem zc_97 : zmeth zTs zm_97 := zM_meth (Ns := zNs) (zpl_hold (is := [(false, 411), (false, 42), (false, 409), (false, 410)]) rfl) (by decide +kernel) (by decide +kernel) (plainFor_of_name (by decide +kernel)) (fun h => by cases h)
theorem zo_97 : (Nat.ble zm_97.2.2.2.2.2.2.1 2 = true → zmeth zTs zm_97) ∧ ∀ row ∈ zm_97.2.2.2.2.2.2.2.2, zrowok "SiphonReport" zTs zNs zCL zP zm_97 row := ⟨fun _ => zc_97, zM_rows zb_97 (zpl_hold zw_97) zs_97⟩
set_option maxRecDepth 100000 in
theorem zb_98 : zMb zCL zP zm_98 = true := by decide +kernel
set_option maxRecDepth 100000 in
theorem zw_98 : (zMw "SiphonReport" zCL zP zm_98).map some = ([(false, 498), (false, 498)] : List (Bool × Nat)).map (zpl zTs zNs) := rfl
set_option maxRecDepth 100000 in
theorem zs_98 : (zMs zCL zP zm_98).map Prod.fst = (zMs zCL zP zm_98).map Prod.snd := rfl
set_option maxRecDepth 100000 in
theorem zc_98 : zmeth zTs zm_98 := zM_meth (Ns := zNs) (zpl_hold (is := [(false, 631), (false, 52), (false, 630), (false, 40)]) rfl) (by decide +kernel) (by decide +kernel) (plainFor_of_name (by decide +kernel)) (fun h => by cases h)
theorem zo_98 : (Nat.ble zm_98.2.2.2.2.2.2.1 2 = true → zmeth zTs zm_98) ∧ ∀ row ∈ zm_98.2.2.2.2.2.2.2.2, zrowok "SiphonReport" zTs zNs zCL zP zm_98 row := ⟨fun _ => zc_98, zM_rows zb_98 (zpl_hold zw_98) zs_98⟩
set_option maxRecDepth 100000 in
theorem zb_99 : zMb zCL zP zm_99 = true := by decide +kernel
set_option maxRecDepth 100000 in
theorem zw_99 : (zMw "SiphonReport" zCL zP zm_99).map some = ([(false, 494), (false, 629)] : List (Bool × Nat)).map (zpl zTs zNs) := rfl
set_option maxRecDepth 100000 in
theorem zs_99 : (zMs zCL zP zm_99).map Prod.fst = (zMs zCL zP zm_99).map Prod.snd := rfl
set_option maxRecDepth 100000 in
theorem zc_99 : zmeth zTs zm_99 := zM_meth (Ns := zNs) (zpl_hold (is := [(false, 628), (false, 52), (false, 626), (false, 627)]) rfl) (by decide +kernel) (by decide +kernel) (plainFor_of_name (by decide +kernel)) (fun h => by cases h)
theorem zo_99 : (Nat.ble zm_99.2.2.2.2.2.2.1 2 = true → zmeth zTs zm_99) ∧ ∀ row ∈ zm_99.2.2.2.2.2.2.2.2, zrowok "SiphonReport" zTs zNs zCL zP zm_99 row := ⟨fun _ => zc_99, zM_rows zb_99 (zpl_hold zw_99) zs_99⟩
set_option maxRecDepth 100000 in
theorem zb_100 : zMb zCL zP zm_100 = true := by decide +kernel
set_option maxRecDepth 100000 in
theorem zw_100 : (zMw "SiphonReport" zCL zP zm_100).map some = ([(false, 191), (false, 391), (false, 187), (false, 416)] : List (Bool × Nat)).map (zpl zTs zNs) := rfl
set_option maxRecDepth 100000 in
theorem zs_100 : (zMs zCL zP zm_100).map Prod.fst = (zMs zCL zP zm_100).map Prod.snd := rfl
set_option maxRecDepth 100000 in
theorem zc_100 : zmeth zTs zm_100 := zM_meth (Ns := zNs) (zpl_hold (is := [(false, 415), (false, 42), (false, 413), (false, 414)]) rfl) (by decide +kernel) (by decide +kernel) (plainFor_of_name (by decide +kernel)) (fun h => by cases h)
theorem zo_100 : (Nat.ble zm_100.2.2.2.2.2.2.1 2 = true → zmeth zTs zm_100) ∧ ∀ row ∈ zm_100.2.2.2.2.2.2.2.2, zrowok "SiphonReport" zTs zNs zCL zP zm_100 row := ⟨fun _ => zc_100, zM_rows zb_100 (zpl_hold zw_100) zs_100⟩
set_option maxRecDepth 100000 in
theorem zb_101 : zMb zCL zP zm_101 = true := by decide +kernel
set_option maxRecDepth 100000 in
theorem zw_101 : (zMw "SiphonReport" zCL zP zm_101).map some = ([(false, 613), (false, 494), (false, 498), (false, 498)] : List (Bool × Nat)).map (zpl zTs zNs) := rfl
set_option maxRecDepth 100000 in
theorem zs_101 : (zMs zCL zP zm_101).map Prod.fst = (zMs zCL zP zm_101).map Prod.snd := rfl
set_option maxRecDepth 100000 in
theorem zc_101 : zmeth zTs zm_101 := zM_meth (Ns := zNs) (zpl_hold (is := [(false, 635), (false, 52), (false, 633), (false, 634)]) rfl) (by decide +kernel) (by decide +kernel) (plainFor_of_name (by decide +kernel)) (fun h => by cases h)
theorem zo_101 : (Nat.ble zm_101.2.2.2.2.2.2.1 2 = true → zmeth zTs zm_101) ∧ ∀ row ∈ zm_101.2.2.2.2.2.2.2.2, zrowok "SiphonReport" zTs zNs zCL zP zm_101 row := ⟨fun _ => zc_101, zM_rows zb_101 (zpl_hold zw_101) zs_101⟩
end
section
/-! The methods 102 to 128, instruction by instruction. -/
set_option maxRecDepth 100000 in
theorem zb_102 : zMb zCL zP zm_102 = true := by decide +kernel
set_option maxRecDepth 100000 in
theorem zw_102 : (zMw "SiphonReport" zCL zP zm_102).map some = ([(false, 188), (true, 23)] : List (Bool × Nat)).map (zpl zTs zNs) := rfl
set_option maxRecDepth 100000 in
theorem zs_102 : (zMs zCL zP zm_102).map Prod.fst = (zMs zCL zP zm_102).map Prod.snd := rfl
set_option maxRecDepth 100000 in
theorem zc_102 : zmeth zTs zm_102 := zM_meth (Ns := zNs) (zpl_hold (is := [(false, 420), (false, 42), (false, 418), (false, 419)]) rfl) (by decide +kernel) (by decide +kernel) (plainFor_of_name (by decide +kernel)) (fun h => by cases h)
theorem zo_102 : (Nat.ble zm_102.2.2.2.2.2.2.1 2 = true → zmeth zTs zm_102) ∧ ∀ row ∈ zm_102.2.2.2.2.2.2.2.2, zrowok "SiphonReport" zTs zNs zCL zP zm_102 row := ⟨fun _ => zc_102, zM_rows zb_102 (zpl_hold zw_102) zs_102⟩
set_option maxRecDepth 100000 in
theorem zb_103 : zMb zCL zP zm_103 = true := by decide +kernel
set_option maxRecDepth 100000 in
theorem zw_103 : (zMw "SiphonReport" zCL zP zm_103).map some = ([(false, 586)] : List (Bool × Nat)).map (zpl zTs zNs) := rfl
set_option maxRecDepth 100000 in
theorem zs_103 : (zMs zCL zP zm_103).map Prod.fst = (zMs zCL zP zm_103).map Prod.snd := rfl
set_option maxRecDepth 100000 in
theorem zc_103 : zmeth zTs zm_103 := zM_meth (Ns := zNs) (zpl_hold (is := [(false, 639), (false, 52), (false, 637), (false, 638)]) rfl) (by decide +kernel) (by decide +kernel) (plainFor_of_name (by decide +kernel)) (fun h => by cases h)
theorem zo_103 : (Nat.ble zm_103.2.2.2.2.2.2.1 2 = true → zmeth zTs zm_103) ∧ ∀ row ∈ zm_103.2.2.2.2.2.2.2.2, zrowok "SiphonReport" zTs zNs zCL zP zm_103 row := ⟨fun _ => zc_103, zM_rows zb_103 (zpl_hold zw_103) zs_103⟩
set_option maxRecDepth 100000 in
theorem zb_104 : zMb zCL zP zm_104 = true := by decide +kernel
set_option maxRecDepth 100000 in
theorem zw_104 : (zMw "SiphonReport" zCL zP zm_104).map some = ([(false, 191), (true, 42), (false, 187), (true, 14), (false, 188), (true, 23), (false, 187), (true, 14), (false, 187), (true, 11), (false, 188), (true, 22)] : List (Bool × Nat)).map (zpl zTs zNs) := rfl
set_option maxRecDepth 100000 in
theorem zs_104 : (zMs zCL zP zm_104).map Prod.fst = (zMs zCL zP zm_104).map Prod.snd := rfl
set_option maxRecDepth 100000 in
theorem zc_104 : zmeth zTs zm_104 := zM_meth (Ns := zNs) (zpl_hold (is := [(false, 424), (false, 42), (false, 422), (false, 423)]) rfl) (by decide +kernel) (by decide +kernel) (plainFor_of_name (by decide +kernel)) (fun h => by cases h)
theorem zo_104 : (Nat.ble zm_104.2.2.2.2.2.2.1 2 = true → zmeth zTs zm_104) ∧ ∀ row ∈ zm_104.2.2.2.2.2.2.2.2, zrowok "SiphonReport" zTs zNs zCL zP zm_104 row := ⟨fun _ => zc_104, zM_rows zb_104 (zpl_hold zw_104) zs_104⟩
set_option maxRecDepth 100000 in
theorem zb_105 : zMb zCL zP zm_105 = true := by decide +kernel
set_option maxRecDepth 100000 in
theorem zw_105 : (zMw "SiphonReport" zCL zP zm_105).map some = ([(false, 494), (false, 644), (false, 645), (false, 494), (false, 646), (false, 586)] : List (Bool × Nat)).map (zpl zTs zNs) := rfl
set_option maxRecDepth 100000 in
theorem zs_105 : (zMs zCL zP zm_105).map Prod.fst = (zMs zCL zP zm_105).map Prod.snd := rfl
set_option maxRecDepth 100000 in
theorem zc_105 : zmeth zTs zm_105 := zM_meth (Ns := zNs) (zpl_hold (is := [(false, 643), (false, 52), (false, 641), (false, 642)]) rfl) (by decide +kernel) (by decide +kernel) (plainFor_of_name (by decide +kernel)) (fun h => by cases h)
theorem zo_105 : (Nat.ble zm_105.2.2.2.2.2.2.1 2 = true → zmeth zTs zm_105) ∧ ∀ row ∈ zm_105.2.2.2.2.2.2.2.2, zrowok "SiphonReport" zTs zNs zCL zP zm_105 row := ⟨fun _ => zc_105, zM_rows zb_105 (zpl_hold zw_105) zs_105⟩
set_option maxRecDepth 100000 in
theorem zb_106 : zMb zCL zP zm_106 = true := by decide +kernel
set_option maxRecDepth 100000 in
theorem zw_106 : (zMw "SiphonReport" zCL zP zm_106).map some = ([(false, 189), (true, 26)] : List (Bool × Nat)).map (zpl zTs zNs) := rfl
set_option maxRecDepth 100000 in
theorem zs_106 : (zMs zCL zP zm_106).map Prod.fst = (zMs zCL zP zm_106).map Prod.snd := rfl
set_option maxRecDepth 100000 in
theorem zc_106 : zmeth zTs zm_106 := zM_meth (Ns := zNs) (zpl_hold (is := [(false, 428), (false, 42), (false, 426), (false, 427)]) rfl) (by decide +kernel) (by decide +kernel) (plainFor_of_name (by decide +kernel)) (fun h => by cases h)
theorem zo_106 : (Nat.ble zm_106.2.2.2.2.2.2.1 2 = true → zmeth zTs zm_106) ∧ ∀ row ∈ zm_106.2.2.2.2.2.2.2.2, zrowok "SiphonReport" zTs zNs zCL zP zm_106 row := ⟨fun _ => zc_106, zM_rows zb_106 (zpl_hold zw_106) zs_106⟩
set_option maxRecDepth 100000 in
theorem zb_107 : zMb zCL zP zm_107 = true := by decide +kernel
set_option maxRecDepth 100000 in
theorem zw_107 : (zMw "SiphonReport" zCL zP zm_107).map some = ([(false, 500)] : List (Bool × Nat)).map (zpl zTs zNs) := rfl
set_option maxRecDepth 100000 in
theorem zs_107 : (zMs zCL zP zm_107).map Prod.fst = (zMs zCL zP zm_107).map Prod.snd := rfl
set_option maxRecDepth 100000 in
theorem zc_107 : zmeth zTs zm_107 := zM_meth (Ns := zNs) (zpl_hold (is := [(false, 650), (false, 52), (false, 648), (false, 649)]) rfl) (by decide +kernel) (by decide +kernel) (plainFor_of_name (by decide +kernel)) (fun h => by cases h)
theorem zo_107 : (Nat.ble zm_107.2.2.2.2.2.2.1 2 = true → zmeth zTs zm_107) ∧ ∀ row ∈ zm_107.2.2.2.2.2.2.2.2, zrowok "SiphonReport" zTs zNs zCL zP zm_107 row := ⟨fun _ => zc_107, zM_rows zb_107 (zpl_hold zw_107) zs_107⟩
set_option maxRecDepth 100000 in
theorem zb_108 : zMb zCL zP zm_108 = true := by decide +kernel
set_option maxRecDepth 100000 in
theorem zw_108 : (zMw "SiphonReport" zCL zP zm_108).map some = ([(false, 149)] : List (Bool × Nat)).map (zpl zTs zNs) := rfl
set_option maxRecDepth 100000 in
theorem zs_108 : (zMs zCL zP zm_108).map Prod.fst = (zMs zCL zP zm_108).map Prod.snd := rfl
set_option maxRecDepth 100000 in
theorem zc_108 : zmeth zTs zm_108 := zM_meth (Ns := zNs) (zpl_hold (is := [(false, 440), (false, 49), (false, 438), (false, 439)]) rfl) (by decide +kernel) (by decide +kernel) (plainFor_of_name (by decide +kernel)) (fun h => by cases h)
theorem zo_108 : (Nat.ble zm_108.2.2.2.2.2.2.1 2 = true → zmeth zTs zm_108) ∧ ∀ row ∈ zm_108.2.2.2.2.2.2.2.2, zrowok "SiphonReport" zTs zNs zCL zP zm_108 row := ⟨fun _ => zc_108, zM_rows zb_108 (zpl_hold zw_108) zs_108⟩
set_option maxRecDepth 100000 in
theorem zb_109 : zMb zCL zP zm_109 = true := by decide +kernel
set_option maxRecDepth 100000 in
theorem zw_109 : (zMw "SiphonReport" zCL zP zm_109).map some = ([(false, 437), (false, 148)] : List (Bool × Nat)).map (zpl zTs zNs) := rfl
set_option maxRecDepth 100000 in
theorem zs_109 : (zMs zCL zP zm_109).map Prod.fst = (zMs zCL zP zm_109).map Prod.snd := rfl
set_option maxRecDepth 100000 in
theorem zc_109 : zmeth zTs zm_109 := zM_meth (Ns := zNs) (zpl_hold (is := [(false, 436), (false, 49), (false, 434), (false, 435)]) rfl) (by decide +kernel) (by decide +kernel) (plainFor_of_name (by decide +kernel)) (fun h => by cases h)
theorem zo_109 : (Nat.ble zm_109.2.2.2.2.2.2.1 2 = true → zmeth zTs zm_109) ∧ ∀ row ∈ zm_109.2.2.2.2.2.2.2.2, zrowok "SiphonReport" zTs zNs zCL zP zm_109 row := ⟨fun _ => zc_109, zM_rows zb_109 (zpl_hold zw_109) zs_109⟩
set_option maxRecDepth 100000 in
theorem zb_110 : zMb zCL zP zm_110 = true := by decide +kernel
set_option maxRecDepth 100000 in
theorem zw_110 : (zMw "SiphonReport" zCL zP zm_110).map some = ([(false, 189), (false, 433)] : List (Bool × Nat)).map (zpl zTs zNs) := rfl
set_option maxRecDepth 100000 in
theorem zs_110 : (zMs zCL zP zm_110).map Prod.fst = (zMs zCL zP zm_110).map Prod.snd := rfl
set_option maxRecDepth 100000 in
theorem zc_110 : zmeth zTs zm_110 := zM_meth (Ns := zNs) (zpl_hold (is := [(false, 432), (false, 42), (false, 430), (false, 431)]) rfl) (by decide +kernel) (by decide +kernel) (plainFor_of_name (by decide +kernel)) (fun h => by cases h)
theorem zo_110 : (Nat.ble zm_110.2.2.2.2.2.2.1 2 = true → zmeth zTs zm_110) ∧ ∀ row ∈ zm_110.2.2.2.2.2.2.2.2, zrowok "SiphonReport" zTs zNs zCL zP zm_110 row := ⟨fun _ => zc_110, zM_rows zb_110 (zpl_hold zw_110) zs_110⟩
set_option maxRecDepth 100000 in
theorem zb_111 : zMb zCL zP zm_111 = true := by decide +kernel
set_option maxRecDepth 100000 in
theorem zw_111 : (zMw "SiphonReport" zCL zP zm_111).map some = ([(false, 500), (false, 501)] : List (Bool × Nat)).map (zpl zTs zNs) := rfl
set_option maxRecDepth 100000 in
theorem zs_111 : (zMs zCL zP zm_111).map Prod.fst = (zMs zCL zP zm_111).map Prod.snd := rfl
set_option maxRecDepth 100000 in
theorem zc_111 : zmeth zTs zm_111 := zM_meth (Ns := zNs) (zpl_hold (is := [(false, 654), (false, 52), (false, 652), (false, 653)]) rfl) (by decide +kernel) (by decide +kernel) (plainFor_of_name (by decide +kernel)) (fun h => by cases h)
theorem zo_111 : (Nat.ble zm_111.2.2.2.2.2.2.1 2 = true → zmeth zTs zm_111) ∧ ∀ row ∈ zm_111.2.2.2.2.2.2.2.2, zrowok "SiphonReport" zTs zNs zCL zP zm_111 row := ⟨fun _ => zc_111, zM_rows zb_111 (zpl_hold zw_111) zs_111⟩
set_option maxRecDepth 100000 in
theorem zb_112 : zMb zCL zP zm_112 = true := by decide +kernel
set_option maxRecDepth 100000 in
theorem zw_112 : (zMw "SiphonReport" zCL zP zm_112).map some = ([(false, 189), (false, 445), (false, 190), (true, 30), (false, 189), (false, 433), (false, 336)] : List (Bool × Nat)).map (zpl zTs zNs) := rfl
set_option maxRecDepth 100000 in
theorem zs_112 : (zMs zCL zP zm_112).map Prod.fst = (zMs zCL zP zm_112).map Prod.snd := rfl
set_option maxRecDepth 100000 in
theorem zc_112 : zmeth zTs zm_112 := zM_meth (Ns := zNs) (zpl_hold (is := [(false, 444), (false, 42), (false, 442), (false, 443)]) rfl) (by decide +kernel) (by decide +kernel) (plainFor_of_name (by decide +kernel)) (fun h => by cases h)
theorem zo_112 : (Nat.ble zm_112.2.2.2.2.2.2.1 2 = true → zmeth zTs zm_112) ∧ ∀ row ∈ zm_112.2.2.2.2.2.2.2.2, zrowok "SiphonReport" zTs zNs zCL zP zm_112 row := ⟨fun _ => zc_112, zM_rows zb_112 (zpl_hold zw_112) zs_112⟩
set_option maxRecDepth 100000 in
theorem zb_113 : zMb zCL zP zm_113 = true := by decide +kernel
set_option maxRecDepth 100000 in
theorem zw_113 : (zMw "SiphonReport" zCL zP zm_113).map some = ([(false, 502), (false, 500), (false, 503), (false, 501)] : List (Bool × Nat)).map (zpl zTs zNs) := rfl
set_option maxRecDepth 100000 in
theorem zs_113 : (zMs zCL zP zm_113).map Prod.fst = (zMs zCL zP zm_113).map Prod.snd := rfl
set_option maxRecDepth 100000 in
theorem zc_113 : zmeth zTs zm_113 := zM_meth (Ns := zNs) (zpl_hold (is := [(false, 658), (false, 52), (false, 656), (false, 657)]) rfl) (by decide +kernel) (by decide +kernel) (plainFor_of_name (by decide +kernel)) (fun h => by cases h)
theorem zo_113 : (Nat.ble zm_113.2.2.2.2.2.2.1 2 = true → zmeth zTs zm_113) ∧ ∀ row ∈ zm_113.2.2.2.2.2.2.2.2, zrowok "SiphonReport" zTs zNs zCL zP zm_113 row := ⟨fun _ => zc_113, zM_rows zb_113 (zpl_hold zw_113) zs_113⟩
set_option maxRecDepth 100000 in
theorem zb_114 : zMb zCL zP zm_114 = true := by decide +kernel
set_option maxRecDepth 100000 in
theorem zw_114 : (zMw "SiphonReport" zCL zP zm_114).map some = ([(false, 190), (true, 30), (true, 26)] : List (Bool × Nat)).map (zpl zTs zNs) := rfl
set_option maxRecDepth 100000 in
theorem zs_114 : (zMs zCL zP zm_114).map Prod.fst = (zMs zCL zP zm_114).map Prod.snd := rfl
set_option maxRecDepth 100000 in
theorem zc_114 : zmeth zTs zm_114 := zM_meth (Ns := zNs) (zpl_hold (is := [(false, 449), (false, 42), (false, 447), (false, 448)]) rfl) (by decide +kernel) (by decide +kernel) (plainFor_of_name (by decide +kernel)) (fun h => by cases h)
theorem zo_114 : (Nat.ble zm_114.2.2.2.2.2.2.1 2 = true → zmeth zTs zm_114) ∧ ∀ row ∈ zm_114.2.2.2.2.2.2.2.2, zrowok "SiphonReport" zTs zNs zCL zP zm_114 row := ⟨fun _ => zc_114, zM_rows zb_114 (zpl_hold zw_114) zs_114⟩
set_option maxRecDepth 100000 in
theorem zb_115 : zMb zCL zP zm_115 = true := by decide +kernel
set_option maxRecDepth 100000 in
theorem zw_115 : (zMw "SiphonReport" zCL zP zm_115).map some = ([(false, 502)] : List (Bool × Nat)).map (zpl zTs zNs) := rfl
set_option maxRecDepth 100000 in
theorem zs_115 : (zMs zCL zP zm_115).map Prod.fst = (zMs zCL zP zm_115).map Prod.snd := rfl
set_option maxRecDepth 100000 in
theorem zc_115 : zmeth zTs zm_115 := zM_meth (Ns := zNs) (zpl_hold (is := [(false, 662), (false, 52), (false, 660), (false, 661)]) rfl) (by decide +kernel) (by decide +kernel) (plainFor_of_name (by decide +kernel)) (fun h => by cases h)
theorem zo_115 : (Nat.ble zm_115.2.2.2.2.2.2.1 2 = true → zmeth zTs zm_115) ∧ ∀ row ∈ zm_115.2.2.2.2.2.2.2.2, zrowok "SiphonReport" zTs zNs zCL zP zm_115 row := ⟨fun _ => zc_115, zM_rows zb_115 (zpl_hold zw_115) zs_115⟩
set_option maxRecDepth 100000 in
theorem zb_116 : zMb zCL zP zm_116 = true := by decide +kernel
set_option maxRecDepth 100000 in
theorem zw_116 : (zMw "SiphonReport" zCL zP zm_116).map some = ([(false, 190), (true, 30), (false, 433)] : List (Bool × Nat)).map (zpl zTs zNs) := rfl
set_option maxRecDepth 100000 in
theorem zs_116 : (zMs zCL zP zm_116).map Prod.fst = (zMs zCL zP zm_116).map Prod.snd := rfl
set_option maxRecDepth 100000 in
theorem zc_116 : zmeth zTs zm_116 := zM_meth (Ns := zNs) (zpl_hold (is := [(false, 453), (false, 42), (false, 451), (false, 452)]) rfl) (by decide +kernel) (by decide +kernel) (plainFor_of_name (by decide +kernel)) (fun h => by cases h)
theorem zo_116 : (Nat.ble zm_116.2.2.2.2.2.2.1 2 = true → zmeth zTs zm_116) ∧ ∀ row ∈ zm_116.2.2.2.2.2.2.2.2, zrowok "SiphonReport" zTs zNs zCL zP zm_116 row := ⟨fun _ => zc_116, zM_rows zb_116 (zpl_hold zw_116) zs_116⟩
set_option maxRecDepth 100000 in
theorem zb_117 : zMb zCL zP zm_117 = true := by decide +kernel
set_option maxRecDepth 100000 in
theorem zw_117 : (zMw "SiphonReport" zCL zP zm_117).map some = ([(false, 502), (false, 503)] : List (Bool × Nat)).map (zpl zTs zNs) := rfl
set_option maxRecDepth 100000 in
theorem zs_117 : (zMs zCL zP zm_117).map Prod.fst = (zMs zCL zP zm_117).map Prod.snd := rfl
set_option maxRecDepth 100000 in
theorem zc_117 : zmeth zTs zm_117 := zM_meth (Ns := zNs) (zpl_hold (is := [(false, 666), (false, 52), (false, 664), (false, 665)]) rfl) (by decide +kernel) (by decide +kernel) (plainFor_of_name (by decide +kernel)) (fun h => by cases h)
theorem zo_117 : (Nat.ble zm_117.2.2.2.2.2.2.1 2 = true → zmeth zTs zm_117) ∧ ∀ row ∈ zm_117.2.2.2.2.2.2.2.2, zrowok "SiphonReport" zTs zNs zCL zP zm_117 row := ⟨fun _ => zc_117, zM_rows zb_117 (zpl_hold zw_117) zs_117⟩
set_option maxRecDepth 100000 in
theorem zb_118 : zMb zCL zP zm_118 = true := by decide +kernel
set_option maxRecDepth 100000 in
theorem zw_118 : (zMw "SiphonReport" zCL zP zm_118).map some = ([(false, 190), (true, 30), (false, 445), (false, 395), (false, 190), (true, 31)] : List (Bool × Nat)).map (zpl zTs zNs) := rfl
set_option maxRecDepth 100000 in
theorem zs_118 : (zMs zCL zP zm_118).map Prod.fst = (zMs zCL zP zm_118).map Prod.snd := rfl
set_option maxRecDepth 100000 in
theorem zc_118 : zmeth zTs zm_118 := zM_meth (Ns := zNs) (zpl_hold (is := [(false, 457), (false, 42), (false, 455), (false, 456)]) rfl) (by decide +kernel) (by decide +kernel) (plainFor_of_name (by decide +kernel)) (fun h => by cases h)
theorem zo_118 : (Nat.ble zm_118.2.2.2.2.2.2.1 2 = true → zmeth zTs zm_118) ∧ ∀ row ∈ zm_118.2.2.2.2.2.2.2.2, zrowok "SiphonReport" zTs zNs zCL zP zm_118 row := ⟨fun _ => zc_118, zM_rows zb_118 (zpl_hold zw_118) zs_118⟩
set_option maxRecDepth 100000 in
theorem zb_119 : zMb zCL zP zm_119 = true := by decide +kernel
set_option maxRecDepth 100000 in
theorem zw_119 : (zMw "SiphonReport" zCL zP zm_119).map some = ([(false, 502), (false, 504)] : List (Bool × Nat)).map (zpl zTs zNs) := rfl
set_option maxRecDepth 100000 in
theorem zs_119 : (zMs zCL zP zm_119).map Prod.fst = (zMs zCL zP zm_119).map Prod.snd := rfl
set_option maxRecDepth 100000 in
theorem zc_119 : zmeth zTs zm_119 := zM_meth (Ns := zNs) (zpl_hold (is := [(false, 670), (false, 52), (false, 668), (false, 669)]) rfl) (by decide +kernel) (by decide +kernel) (plainFor_of_name (by decide +kernel)) (fun h => by cases h)
theorem zo_119 : (Nat.ble zm_119.2.2.2.2.2.2.1 2 = true → zmeth zTs zm_119) ∧ ∀ row ∈ zm_119.2.2.2.2.2.2.2.2, zrowok "SiphonReport" zTs zNs zCL zP zm_119 row := ⟨fun _ => zc_119, zM_rows zb_119 (zpl_hold zw_119) zs_119⟩
set_option maxRecDepth 100000 in
theorem zb_120 : zMb zCL zP zm_120 = true := by decide +kernel
set_option maxRecDepth 100000 in
theorem zw_120 : (zMw "SiphonReport" zCL zP zm_120).map some = ([(false, 187), (true, 15), (false, 187), (true, 14)] : List (Bool × Nat)).map (zpl zTs zNs) := rfl
set_option maxRecDepth 100000 in
theorem zs_120 : (zMs zCL zP zm_120).map Prod.fst = (zMs zCL zP zm_120).map Prod.snd := rfl
set_option maxRecDepth 100000 in
theorem zc_120 : zmeth zTs zm_120 := zM_meth (Ns := zNs) (zpl_hold (is := [(false, 464), (false, 42), (false, 463), (false, 19)]) rfl) (by decide +kernel) (by decide +kernel) (plainFor_of_name (by decide +kernel)) (fun h => by cases h)
theorem zo_120 : (Nat.ble zm_120.2.2.2.2.2.2.1 2 = true → zmeth zTs zm_120) ∧ ∀ row ∈ zm_120.2.2.2.2.2.2.2.2, zrowok "SiphonReport" zTs zNs zCL zP zm_120 row := ⟨fun _ => zc_120, zM_rows zb_120 (zpl_hold zw_120) zs_120⟩
set_option maxRecDepth 100000 in
theorem zb_121 : zMb zCL zP zm_121 = true := by decide +kernel
set_option maxRecDepth 100000 in
theorem zw_121 : (zMw "SiphonReport" zCL zP zm_121).map some = ([(false, 187), (true, 14), (false, 465), (false, 187), (true, 12), (false, 465)] : List (Bool × Nat)).map (zpl zTs zNs) := rfl
set_option maxRecDepth 100000 in
theorem zs_121 : (zMs zCL zP zm_121).map Prod.fst = (zMs zCL zP zm_121).map Prod.snd := rfl
set_option maxRecDepth 100000 in
theorem zc_121 : zmeth zTs zm_121 := zM_meth (Ns := zNs) (zpl_hold (is := [(false, 468), (false, 42), (false, 467), (false, 20)]) rfl) (by decide +kernel) (by decide +kernel) (plainFor_of_name (by decide +kernel)) (fun h => by cases h)
theorem zo_121 : (Nat.ble zm_121.2.2.2.2.2.2.1 2 = true → zmeth zTs zm_121) ∧ ∀ row ∈ zm_121.2.2.2.2.2.2.2.2, zrowok "SiphonReport" zTs zNs zCL zP zm_121 row := ⟨fun _ => zc_121, zM_rows zb_121 (zpl_hold zw_121) zs_121⟩
set_option maxRecDepth 100000 in
theorem zb_122 : zMb zCL zP zm_122 = true := by decide +kernel
set_option maxRecDepth 100000 in
theorem zw_122 : (zMw "SiphonReport" zCL zP zm_122).map some = ([(false, 189), (true, 26), (false, 472)] : List (Bool × Nat)).map (zpl zTs zNs) := rfl
set_option maxRecDepth 100000 in
theorem zs_122 : (zMs zCL zP zm_122).map Prod.fst = (zMs zCL zP zm_122).map Prod.snd := rfl
set_option maxRecDepth 100000 in
theorem zc_122 : zmeth zTs zm_122 := zM_meth (Ns := zNs) (zpl_hold (is := [(false, 471), (false, 42), (false, 470), (false, 21)]) rfl) (by decide +kernel) (by decide +kernel) (plainFor_of_name (by decide +kernel)) (fun h => by cases h)
theorem zo_122 : (Nat.ble zm_122.2.2.2.2.2.2.1 2 = true → zmeth zTs zm_122) ∧ ∀ row ∈ zm_122.2.2.2.2.2.2.2.2, zrowok "SiphonReport" zTs zNs zCL zP zm_122 row := ⟨fun _ => zc_122, zM_rows zb_122 (zpl_hold zw_122) zs_122⟩
set_option maxRecDepth 100000 in
theorem zb_123 : zMb zCL zP zm_123 = true := by decide +kernel
set_option maxRecDepth 100000 in
theorem zw_123 : (zMw "SiphonReport" zCL zP zm_123).map some = ([(false, 149), (false, 148)] : List (Bool × Nat)).map (zpl zTs zNs) := rfl
set_option maxRecDepth 100000 in
theorem zs_123 : (zMs zCL zP zm_123).map Prod.fst = (zMs zCL zP zm_123).map Prod.snd := rfl
set_option maxRecDepth 100000 in
theorem zc_123 : zmeth zTs zm_123 := zM_meth (Ns := zNs) (zpl_hold (is := [(false, 479), (false, 49), (false, 477), (false, 478)]) rfl) (by decide +kernel) (by decide +kernel) (plainFor_of_name (by decide +kernel)) (fun h => by cases h)
theorem zo_123 : (Nat.ble zm_123.2.2.2.2.2.2.1 2 = true → zmeth zTs zm_123) ∧ ∀ row ∈ zm_123.2.2.2.2.2.2.2.2, zrowok "SiphonReport" zTs zNs zCL zP zm_123 row := ⟨fun _ => zc_123, zM_rows zb_123 (zpl_hold zw_123) zs_123⟩
set_option maxRecDepth 100000 in
theorem zb_124 : zMb zCL zP zm_124 = true := by decide +kernel
set_option maxRecDepth 100000 in
theorem zw_124 : (zMw "SiphonReport" zCL zP zm_124).map some = ([(false, 190), (true, 30), (false, 476), (false, 191), (false, 329)] : List (Bool × Nat)).map (zpl zTs zNs) := rfl
set_option maxRecDepth 100000 in
theorem zs_124 : (zMs zCL zP zm_124).map Prod.fst = (zMs zCL zP zm_124).map Prod.snd := rfl
set_option maxRecDepth 100000 in
theorem zc_124 : zmeth zTs zm_124 := zM_meth (Ns := zNs) (zpl_hold (is := [(false, 475), (false, 42), (false, 474), (false, 22)]) rfl) (by decide +kernel) (by decide +kernel) (plainFor_of_name (by decide +kernel)) (fun h => by cases h)
theorem zo_124 : (Nat.ble zm_124.2.2.2.2.2.2.1 2 = true → zmeth zTs zm_124) ∧ ∀ row ∈ zm_124.2.2.2.2.2.2.2.2, zrowok "SiphonReport" zTs zNs zCL zP zm_124 row := ⟨fun _ => zc_124, zM_rows zb_124 (zpl_hold zw_124) zs_124⟩
set_option maxRecDepth 100000 in
theorem zb_125 : zMb zCL zP zm_125 = true := by decide +kernel
set_option maxRecDepth 100000 in
theorem zw_125 : (zMw "SiphonReport" zCL zP zm_125).map some = ([(false, 462), (false, 465), (false, 466), (false, 469), (false, 473)] : List (Bool × Nat)).map (zpl zTs zNs) := rfl
set_option maxRecDepth 100000 in
theorem zs_125 : (zMs zCL zP zm_125).map Prod.fst = (zMs zCL zP zm_125).map Prod.snd := rfl
set_option maxRecDepth 100000 in
theorem zc_125 : zmeth zTs zm_125 := zM_meth (Ns := zNs) (zpl_hold (is := [(false, 461), (false, 42), (false, 459), (false, 460)]) rfl) (by decide +kernel) (by decide +kernel) (plainFor_of_name (by decide +kernel)) (fun h => by cases h)
theorem zo_125 : (Nat.ble zm_125.2.2.2.2.2.2.1 2 = true → zmeth zTs zm_125) ∧ ∀ row ∈ zm_125.2.2.2.2.2.2.2.2, zrowok "SiphonReport" zTs zNs zCL zP zm_125 row := ⟨fun _ => zc_125, zM_rows zb_125 (zpl_hold zw_125) zs_125⟩
set_option maxRecDepth 100000 in
theorem zb_126 : zMb zCL zP zm_126 = true := by decide +kernel
set_option maxRecDepth 100000 in
theorem zw_126 : (zMw "SiphonReport" zCL zP zm_126).map some = ([(false, 644), (false, 494), (false, 646), (false, 629), (false, 680), (false, 676), (false, 676)] : List (Bool × Nat)).map (zpl zTs zNs) := rfl
set_option maxRecDepth 100000 in
theorem zs_126 : (zMs zCL zP zm_126).map Prod.fst = (zMs zCL zP zm_126).map Prod.snd := rfl
set_option maxRecDepth 100000 in
theorem zc_126 : zmeth zTs zm_126 := zM_meth (Ns := zNs) (zpl_hold (is := [(false, 679), (false, 52), (false, 678), (false, 41)]) rfl) (by decide +kernel) (by decide +kernel) (plainFor_of_name (by decide +kernel)) (fun h => by cases h)
theorem zo_126 : (Nat.ble zm_126.2.2.2.2.2.2.1 2 = true → zmeth zTs zm_126) ∧ ∀ row ∈ zm_126.2.2.2.2.2.2.2.2, zrowok "SiphonReport" zTs zNs zCL zP zm_126 row := ⟨fun _ => zc_126, zM_rows zb_126 (zpl_hold zw_126) zs_126⟩
set_option maxRecDepth 100000 in
theorem zb_127 : zMb zCL zP zm_127 = true := by decide +kernel
set_option maxRecDepth 100000 in
theorem zw_127 : (zMw "SiphonReport" zCL zP zm_127).map some = ([(false, 675), (false, 644), (false, 676), (false, 677), (false, 500), (false, 681), (false, 502), (false, 503), (false, 570)] : List (Bool × Nat)).map (zpl zTs zNs) := rfl
set_option maxRecDepth 100000 in
theorem zs_127 : (zMs zCL zP zm_127).map Prod.fst = (zMs zCL zP zm_127).map Prod.snd := rfl
set_option maxRecDepth 100000 in
theorem zc_127 : zmeth zTs zm_127 := zM_meth (Ns := zNs) (zpl_hold (is := [(false, 674), (false, 52), (false, 672), (false, 673)]) rfl) (by decide +kernel) (by decide +kernel) (plainFor_of_name (by decide +kernel)) (fun h => by cases h)
theorem zo_127 : (Nat.ble zm_127.2.2.2.2.2.2.1 2 = true → zmeth zTs zm_127) ∧ ∀ row ∈ zm_127.2.2.2.2.2.2.2.2, zrowok "SiphonReport" zTs zNs zCL zP zm_127 row := ⟨fun _ => zc_127, zM_rows zb_127 (zpl_hold zw_127) zs_127⟩
set_option maxRecDepth 100000 in
theorem zb_128 : zMb zCL zP zm_128 = true := by decide +kernel
set_option maxRecDepth 100000 in
theorem zw_128 : (zMw "SiphonReport" zCL zP zm_128).map some = ([(false, 55), (false, 56), (false, 42), (false, 57), (false, 480), (false, 481), (false, 52), (false, 482), (false, 202), (false, 531), (false, 210), (false, 535), (false, 214), (false, 539), (false, 379), (false, 601), (false, 383), (false, 605), (false, 387), (false, 609), (false, 396), (false, 616), (false, 400), (false, 617), (false, 404), (false, 621), (false, 408), (false, 625), (false, 412), (false, 632), (false, 417), (false, 636), (false, 421), (false, 640), (false, 425), (false, 647), (false, 429), (false, 651), (false, 441), (false, 655), (false, 446), (false, 659), (false, 450), (false, 663), (false, 454), (false, 667), (false, 458), (false, 671)] : List (Bool × Nat)).map (zpl zTs zNs) := rfl
set_option maxRecDepth 100000 in
theorem zs_128 : (zMs zCL zP zm_128).map Prod.fst = (zMs zCL zP zm_128).map Prod.snd := rfl
theorem zo_128 : (Nat.ble zm_128.2.2.2.2.2.2.1 2 = true → zmeth zTs zm_128) ∧ ∀ row ∈ zm_128.2.2.2.2.2.2.2.2, zrowok "SiphonReport" zTs zNs zCL zP zm_128 row := ⟨fun h => absurd h (by decide +kernel), zM_rows zb_128 (zpl_hold zw_128) zs_128⟩
end
section
/-! The program is as its tables say. -/
theorem zP_all : ∀ M ∈ zP, (Nat.ble M.2.2.2.2.2.2.1 2 = true → zmeth zTs M) ∧ ∀ row ∈ M.2.2.2.2.2.2.2.2, zrowok "SiphonReport" zTs zNs zCL zP M row := List.forall_mem_cons.mpr ⟨zo_0, List.forall_mem_cons.mpr ⟨zo_1, List.forall_mem_cons.mpr ⟨zo_2, List.forall_mem_cons.mpr ⟨zo_3, List.forall_mem_cons.mpr ⟨zo_4, List.forall_mem_cons.mpr ⟨zo_5, List.forall_mem_cons.mpr ⟨zo_6, List.forall_mem_cons.mpr ⟨zo_7, List.forall_mem_cons.mpr ⟨zo_8, List.forall_mem_cons.mpr ⟨zo_9, List.forall_mem_cons.mpr ⟨zo_10, List.forall_mem_cons.mpr ⟨zo_11, List.forall_mem_cons.mpr ⟨zo_12, List.forall_mem_cons.mpr ⟨zo_13, List.forall_mem_cons.mpr ⟨zo_14, List.forall_mem_cons.mpr ⟨zo_15, List.forall_mem_cons.mpr ⟨zo_16, List.forall_mem_cons.mpr ⟨zo_17, List.forall_mem_cons.mpr ⟨zo_18, List.forall_mem_cons.mpr ⟨zo_19, List.forall_mem_cons.mpr ⟨zo_20, List.forall_mem_cons.mpr ⟨zo_21, List.forall_mem_cons.mpr ⟨zo_22, List.forall_mem_cons.mpr ⟨zo_23, List.forall_mem_cons.mpr ⟨zo_24, List.forall_mem_cons.mpr ⟨zo_25, List.forall_mem_cons.mpr ⟨zo_26, List.forall_mem_cons.mpr ⟨zo_27, List.forall_mem_cons.mpr ⟨zo_28, List.forall_mem_cons.mpr ⟨zo_29, List.forall_mem_cons.mpr ⟨zo_30, List.forall_mem_cons.mpr ⟨zo_31, List.forall_mem_cons.mpr ⟨zo_32, List.forall_mem_cons.mpr ⟨zo_33, List.forall_mem_cons.mpr ⟨zo_34, List.forall_mem_cons.mpr ⟨zo_35, List.forall_mem_cons.mpr ⟨zo_36, List.forall_mem_cons.mpr ⟨zo_37, List.forall_mem_cons.mpr ⟨zo_38, List.forall_mem_cons.mpr ⟨zo_39, List.forall_mem_cons.mpr ⟨zo_40, List.forall_mem_cons.mpr ⟨zo_41, List.forall_mem_cons.mpr ⟨zo_42, List.forall_mem_cons.mpr ⟨zo_43, List.forall_mem_cons.mpr ⟨zo_44, List.forall_mem_cons.mpr ⟨zo_45, List.forall_mem_cons.mpr ⟨zo_46, List.forall_mem_cons.mpr ⟨zo_47, List.forall_mem_cons.mpr ⟨zo_48, List.forall_mem_cons.mpr ⟨zo_49, List.forall_mem_cons.mpr ⟨zo_50, List.forall_mem_cons.mpr ⟨zo_51, List.forall_mem_cons.mpr ⟨zo_52, List.forall_mem_cons.mpr ⟨zo_53, List.forall_mem_cons.mpr ⟨zo_54, List.forall_mem_cons.mpr ⟨zo_55, List.forall_mem_cons.mpr ⟨zo_56, List.forall_mem_cons.mpr ⟨zo_57, List.forall_mem_cons.mpr ⟨zo_58, List.forall_mem_cons.mpr ⟨zo_59, List.forall_mem_cons.mpr ⟨zo_60, List.forall_mem_cons.mpr ⟨zo_61, List.forall_mem_cons.mpr ⟨zo_62, List.forall_mem_cons.mpr ⟨zo_63, List.forall_mem_cons.mpr ⟨zo_64, List.forall_mem_cons.mpr ⟨zo_65, List.forall_mem_cons.mpr ⟨zo_66, List.forall_mem_cons.mpr ⟨zo_67, List.forall_mem_cons.mpr ⟨zo_68, List.forall_mem_cons.mpr ⟨zo_69, List.forall_mem_cons.mpr ⟨zo_70, List.forall_mem_cons.mpr ⟨zo_71, List.forall_mem_cons.mpr ⟨zo_72, List.forall_mem_cons.mpr ⟨zo_73, List.forall_mem_cons.mpr ⟨zo_74, List.forall_mem_cons.mpr ⟨zo_75, List.forall_mem_cons.mpr ⟨zo_76, List.forall_mem_cons.mpr ⟨zo_77, List.forall_mem_cons.mpr ⟨zo_78, List.forall_mem_cons.mpr ⟨zo_79, List.forall_mem_cons.mpr ⟨zo_80, List.forall_mem_cons.mpr ⟨zo_81, List.forall_mem_cons.mpr ⟨zo_82, List.forall_mem_cons.mpr ⟨zo_83, List.forall_mem_cons.mpr ⟨zo_84, List.forall_mem_cons.mpr ⟨zo_85, List.forall_mem_cons.mpr ⟨zo_86, List.forall_mem_cons.mpr ⟨zo_87, List.forall_mem_cons.mpr ⟨zo_88, List.forall_mem_cons.mpr ⟨zo_89, List.forall_mem_cons.mpr ⟨zo_90, List.forall_mem_cons.mpr ⟨zo_91, List.forall_mem_cons.mpr ⟨zo_92, List.forall_mem_cons.mpr ⟨zo_93, List.forall_mem_cons.mpr ⟨zo_94, List.forall_mem_cons.mpr ⟨zo_95, List.forall_mem_cons.mpr ⟨zo_96, List.forall_mem_cons.mpr ⟨zo_97, List.forall_mem_cons.mpr ⟨zo_98, List.forall_mem_cons.mpr ⟨zo_99, List.forall_mem_cons.mpr ⟨zo_100, List.forall_mem_cons.mpr ⟨zo_101, List.forall_mem_cons.mpr ⟨zo_102, List.forall_mem_cons.mpr ⟨zo_103, List.forall_mem_cons.mpr ⟨zo_104, List.forall_mem_cons.mpr ⟨zo_105, List.forall_mem_cons.mpr ⟨zo_106, List.forall_mem_cons.mpr ⟨zo_107, List.forall_mem_cons.mpr ⟨zo_108, List.forall_mem_cons.mpr ⟨zo_109, List.forall_mem_cons.mpr ⟨zo_110, List.forall_mem_cons.mpr ⟨zo_111, List.forall_mem_cons.mpr ⟨zo_112, List.forall_mem_cons.mpr ⟨zo_113, List.forall_mem_cons.mpr ⟨zo_114, List.forall_mem_cons.mpr ⟨zo_115, List.forall_mem_cons.mpr ⟨zo_116, List.forall_mem_cons.mpr ⟨zo_117, List.forall_mem_cons.mpr ⟨zo_118, List.forall_mem_cons.mpr ⟨zo_119, List.forall_mem_cons.mpr ⟨zo_120, List.forall_mem_cons.mpr ⟨zo_121, List.forall_mem_cons.mpr ⟨zo_122, List.forall_mem_cons.mpr ⟨zo_123, List.forall_mem_cons.mpr ⟨zo_124, List.forall_mem_cons.mpr ⟨zo_125, List.forall_mem_cons.mpr ⟨zo_126, List.forall_mem_cons.mpr ⟨zo_127, List.forall_mem_cons.mpr ⟨zo_128, fun _ h => absurd h List.not_mem_nil⟩⟩⟩⟩⟩⟩⟩⟩⟩⟩⟩⟩⟩⟩⟩⟩⟩⟩⟩⟩⟩⟩⟩⟩⟩⟩⟩⟩⟩⟩⟩⟩⟩⟩⟩⟩⟩⟩⟩⟩⟩⟩⟩⟩⟩⟩⟩⟩⟩⟩⟩⟩⟩⟩⟩⟩⟩⟩⟩⟩⟩⟩⟩⟩⟩⟩⟩⟩⟩⟩⟩⟩⟩⟩⟩⟩⟩⟩⟩⟩⟩⟩⟩⟩⟩⟩⟩⟩⟩⟩⟩⟩⟩⟩⟩⟩⟩⟩⟩⟩⟩⟩⟩⟩⟩⟩⟩⟩⟩⟩⟩⟩⟩⟩⟩⟩⟩⟩⟩⟩⟩⟩⟩⟩⟩⟩⟩⟩⟩
theorem zP_ok : zprog "SiphonReport" zTs zNs zCL zP := fun _ M h => zP_all M (List.mem_of_getElem? h)
end
section
/-! A fresh object of the class, a fresh reference: the law's first instructions. -/
abbrev zR (scr : Option (List Int32)) (y : Nat) (a : zS) (o : zO) : Prop := zRn zP zFT zCD scr y a o
def zd1 : DecidableEq (Nat × List Value) := inferInstance
def zd2 : DecidableEq (FieldType × List Int32) := inferInstance
def zd3 : DecidableEq (List Int64 ⊕ (FieldType × List Nat)) := inferInstance
def zd4 : DecidableEq ((FieldType × List Int32) ⊕ (List Int64 ⊕ (FieldType × List Nat))) := @instDecidableEqSum _ _ zd2 zd3
def zd5 : DecidableEq zC := @instDecidableEqSum _ _ zd1 zd4
def zd6 : DecidableEq (List zC) := @instDecidableEqList zC zd5
def zeqo (a : Option zO) (v : Option Value) (σ : List zC) (n k : Nat) : Bool := match a with
  | some (v', σ', n', k') => decide (v' = v) && (@decide (σ' = σ) (zd6 σ' σ) && (Nat.beq n' n && Nat.beq k' k))
  | none => false
theorem zeqo_eq {a : Option zO} {v : Option Value} {σ : List zC} {n k : Nat} (h : zeqo a v σ n k = true) : a = some (v, σ, n, k) := by
  cases a with
  | none => cases h
  | some q =>
    obtain ⟨v', σ', n', k'⟩ := q
    simp only [zeqo, Bool.and_eq_true, decide_eq_true_eq] at h
    obtain ⟨rfl, rfl, h3, h4⟩ := h
    rw [Nat.eq_of_beq_eq_true h3, Nat.eq_of_beq_eq_true h4]
def zd7 : DecidableEq (List (Option Value)) := inferInstance
def zd8 : DecidableEq (List Value) := inferInstance
def zeqs (a : Option zS) (pc : Nat) (L : List (Option Value)) (st : List Value) (σ : List zC) (n k : Nat) : Bool := match a with
  | some (pc', L', st', σ', n', k') => Nat.beq pc' pc && (@decide (L' = L) (zd7 L' L) && (@decide (st' = st) (zd8 st' st) && (@decide (σ' = σ) (zd6 σ' σ) && (Nat.beq n' n && Nat.beq k' k))))
  | none => false
theorem zeqs_eq {a : Option zS} {pc : Nat} {L : List (Option Value)} {st : List Value} {σ : List zC} {n k : Nat} (h : zeqs a pc L st σ n k = true) : a = some (pc, L, st, σ, n, k) := by
  cases a with
  | none => cases h
  | some q =>
    obtain ⟨pc', L', st', σ', n', k'⟩ := q
    simp only [zeqs, Bool.and_eq_true, decide_eq_true_eq] at h
    obtain ⟨h1, rfl, rfl, rfl, h5, h6⟩ := h
    rw [Nat.eq_of_beq_eq_true h1, Nat.eq_of_beq_eq_true h5, Nat.eq_of_beq_eq_true h6]
def zσX : List zC := [.inl (0, [.ref 2, .ref 4, .ref 5, .ref 8, .ref 14, .ref 42, .ref 44, .ref 96, .ref 110]),
  .inl (1, [.ref 3, .int 0]),
  .inr (.inl (.char, List.replicate 100 0)),
  .inl (2, [.int 0, .int 0, .int 0]),
  .inl (3, [.ref 6, .ref 7, .int 0, .int 0]),
  .inr (.inl (.int, List.replicate 7 0)),
  .inr (.inl (.int, List.replicate 7 0)),
  .inl (5, [.ref 9, .ref 10, .ref 11, .ref 12, .ref 13, .int 0, .int 0]),
  .inr (.inl (.int, List.replicate 9 0)),
  .inr (.inl (.int, List.replicate 9 0)),
  .inr (.inl (.int, List.replicate 9 0)),
  .inr (.inl (.int, List.replicate 9 0)),
  .inr (.inl (.int, List.replicate 9 0)),
  .inl (6, [.ref 15, .ref 28, .ref 41, .int 0]),
  .inl (7, [.ref 16, .ref 27, .int 0]),
  .inr (.inr (.inr (.long, [17, 18, 19, 20, 21, 22, 23, 24, 25, 26]))),
  .inr (.inr (.inl (List.replicate 7 0))),
  .inr (.inr (.inl (List.replicate 7 0))),
  .inr (.inr (.inl (List.replicate 7 0))),
  .inr (.inr (.inl (List.replicate 7 0))),
  .inr (.inr (.inl (List.replicate 7 0))),
  .inr (.inr (.inl (List.replicate 7 0))),
  .inr (.inr (.inl (List.replicate 7 0))),
  .inr (.inr (.inl (List.replicate 7 0))),
  .inr (.inr (.inl (List.replicate 7 0))),
  .inr (.inr (.inl (List.replicate 7 0))),
  .inr (.inl (.int, List.replicate 7 0)),
  .inl (7, [.ref 29, .ref 40, .int 0]),
  .inr (.inr (.inr (.long, [30, 31, 32, 33, 34, 35, 36, 37, 38, 39]))),
  .inr (.inr (.inl (List.replicate 7 0))),
  .inr (.inr (.inl (List.replicate 7 0))),
  .inr (.inr (.inl (List.replicate 7 0))),
  .inr (.inr (.inl (List.replicate 7 0))),
  .inr (.inr (.inl (List.replicate 7 0))),
  .inr (.inr (.inl (List.replicate 7 0))),
  .inr (.inr (.inl (List.replicate 7 0))),
  .inr (.inr (.inl (List.replicate 7 0))),
  .inr (.inr (.inl (List.replicate 7 0))),
  .inr (.inr (.inl (List.replicate 7 0))),
  .inr (.inl (.int, List.replicate 7 0)),
  .inr (.inl (.int, List.replicate 9 0)),
  .inl (8, [.ref 43, .int 0]),
  .inr (.inl (.int, List.replicate 35 0)),
  .inl (9, [.ref 45, .ref 47, .ref 83]),
  .inl (8, [.ref 46, .int 0]),
  .inr (.inl (.int, List.replicate 35 0)),
  .inr (.inr (.inr (.int, [48, 49, 50, 51, 52, 53, 54, 55, 56, 57, 58, 59, 60, 61, 62, 63, 64, 65, 66, 67, 68, 69, 70, 71, 72, 73, 74, 75, 76, 77, 78, 79, 80, 81, 82]))),
  .inr (.inl (.int, List.replicate 7 0)),
  .inr (.inl (.int, List.replicate 7 0)),
  .inr (.inl (.int, List.replicate 7 0)),
  .inr (.inl (.int, List.replicate 7 0)),
  .inr (.inl (.int, List.replicate 7 0)),
  .inr (.inl (.int, List.replicate 7 0)),
  .inr (.inl (.int, List.replicate 7 0)),
  .inr (.inl (.int, List.replicate 7 0)),
  .inr (.inl (.int, List.replicate 7 0)),
  .inr (.inl (.int, List.replicate 7 0)),
  .inr (.inl (.int, List.replicate 7 0)),
  .inr (.inl (.int, List.replicate 7 0)),
  .inr (.inl (.int, List.replicate 7 0)),
  .inr (.inl (.int, List.replicate 7 0)),
  .inr (.inl (.int, List.replicate 7 0)),
  .inr (.inl (.int, List.replicate 7 0)),
  .inr (.inl (.int, List.replicate 7 0)),
  .inr (.inl (.int, List.replicate 7 0)),
  .inr (.inl (.int, List.replicate 7 0)),
  .inr (.inl (.int, List.replicate 7 0)),
  .inr (.inl (.int, List.replicate 7 0)),
  .inr (.inl (.int, List.replicate 7 0)),
  .inr (.inl (.int, List.replicate 7 0)),
  .inr (.inl (.int, List.replicate 7 0)),
  .inr (.inl (.int, List.replicate 7 0)),
  .inr (.inl (.int, List.replicate 7 0)),
  .inr (.inl (.int, List.replicate 7 0)),
  .inr (.inl (.int, List.replicate 7 0)),
  .inr (.inl (.int, List.replicate 7 0)),
  .inr (.inl (.int, List.replicate 7 0)),
  .inr (.inl (.int, List.replicate 7 0)),
  .inr (.inl (.int, List.replicate 7 0)),
  .inr (.inl (.int, List.replicate 7 0)),
  .inr (.inl (.int, List.replicate 7 0)),
  .inr (.inl (.int, List.replicate 7 0)),
  .inl (7, [.ref 84, .ref 95, .int 0]),
  .inr (.inr (.inr (.long, [85, 86, 87, 88, 89, 90, 91, 92, 93, 94]))),
  .inr (.inr (.inl (List.replicate 7 0))),
  .inr (.inr (.inl (List.replicate 7 0))),
  .inr (.inr (.inl (List.replicate 7 0))),
  .inr (.inr (.inl (List.replicate 7 0))),
  .inr (.inr (.inl (List.replicate 7 0))),
  .inr (.inr (.inl (List.replicate 7 0))),
  .inr (.inr (.inl (List.replicate 7 0))),
  .inr (.inr (.inl (List.replicate 7 0))),
  .inr (.inr (.inl (List.replicate 7 0))),
  .inr (.inr (.inl (List.replicate 7 0))),
  .inr (.inl (.int, List.replicate 7 0)),
  .inl (4, [.ref 97, .ref 107, .ref 108, .ref 109, .int 0, .int 0]),
  .inr (.inr (.inr (.int, [98, 99, 100, 101, 102, 103, 104, 105, 106]))),
  .inr (.inl (.int, List.replicate 7 0)),
  .inr (.inl (.int, List.replicate 7 0)),
  .inr (.inl (.int, List.replicate 7 0)),
  .inr (.inl (.int, List.replicate 7 0)),
  .inr (.inl (.int, List.replicate 7 0)),
  .inr (.inl (.int, List.replicate 7 0)),
  .inr (.inl (.int, List.replicate 7 0)),
  .inr (.inl (.int, List.replicate 7 0)),
  .inr (.inl (.int, List.replicate 7 0)),
  .inr (.inl (.int, List.replicate 9 0)),
  .inr (.inl (.int, List.replicate 10 0)),
  .inr (.inl (.int, List.replicate 10 0)),
  .inl (4, [.ref 111, .ref 121, .ref 122, .ref 123, .int 0, .int 0]),
  .inr (.inr (.inr (.int, [112, 113, 114, 115, 116, 117, 118, 119, 120]))),
  .inr (.inl (.int, List.replicate 7 0)),
  .inr (.inl (.int, List.replicate 7 0)),
  .inr (.inl (.int, List.replicate 7 0)),
  .inr (.inl (.int, List.replicate 7 0)),
  .inr (.inl (.int, List.replicate 7 0)),
  .inr (.inl (.int, List.replicate 7 0)),
  .inr (.inl (.int, List.replicate 7 0)),
  .inr (.inl (.int, List.replicate 7 0)),
  .inr (.inl (.int, List.replicate 7 0)),
  .inr (.inl (.int, List.replicate 9 0)),
  .inr (.inl (.int, List.replicate 10 0)),
  .inr (.inl (.int, List.replicate 10 0))]
def zσ0 : List zC := [.inl (0, [.ref 2, .ref 4, .ref 5, .ref 8, .ref 14, .ref 42, .ref 44, .ref 96, .ref 110]),
  .inl (1, [.ref 3, .int 0]),
  .inr (.inl (.char, List.replicate 100 0)),
  .inl (2, [.int 0, .int 0, .int 0]),
  .inl (3, [.ref 6, .ref 7, .int 0, .int 0]),
  .inr (.inl (.int, List.replicate 7 0)),
  .inr (.inl (.int, List.replicate 7 0)),
  .inl (5, [.ref 9, .ref 10, .ref 11, .ref 12, .ref 13, .int 0, .int 0]),
  .inr (.inl (.int, List.replicate 9 0)),
  .inr (.inl (.int, List.replicate 9 0)),
  .inr (.inl (.int, List.replicate 9 0)),
  .inr (.inl (.int, List.replicate 9 0)),
  .inr (.inl (.int, List.replicate 9 0)),
  .inl (6, [.ref 15, .ref 28, .ref 41, .int 0]),
  .inl (7, [.ref 16, .ref 27, .int 0]),
  .inr (.inr (.inr (.long, [17, 18, 19, 20, 21, 22, 23, 24, 25, 26]))),
  .inr (.inr (.inl (List.replicate 7 0))),
  .inr (.inr (.inl (List.replicate 7 0))),
  .inr (.inr (.inl (List.replicate 7 0))),
  .inr (.inr (.inl (List.replicate 7 0))),
  .inr (.inr (.inl (List.replicate 7 0))),
  .inr (.inr (.inl (List.replicate 7 0))),
  .inr (.inr (.inl (List.replicate 7 0))),
  .inr (.inr (.inl (List.replicate 7 0))),
  .inr (.inr (.inl (List.replicate 7 0))),
  .inr (.inr (.inl (List.replicate 7 0))),
  .inr (.inl (.int, List.replicate 7 0)),
  .inl (7, [.ref 29, .ref 40, .int 0]),
  .inr (.inr (.inr (.long, [30, 31, 32, 33, 34, 35, 36, 37, 38, 39]))),
  .inr (.inr (.inl (List.replicate 7 0))),
  .inr (.inr (.inl (List.replicate 7 0))),
  .inr (.inr (.inl (List.replicate 7 0))),
  .inr (.inr (.inl (List.replicate 7 0))),
  .inr (.inr (.inl (List.replicate 7 0))),
  .inr (.inr (.inl (List.replicate 7 0))),
  .inr (.inr (.inl (List.replicate 7 0))),
  .inr (.inr (.inl (List.replicate 7 0))),
  .inr (.inr (.inl (List.replicate 7 0))),
  .inr (.inr (.inl (List.replicate 7 0))),
  .inr (.inl (.int, List.replicate 7 0)),
  .inr (.inl (.int, List.replicate 9 0)),
  .inl (8, [.ref 43, .int 0]),
  .inr (.inl (.int, List.replicate 35 0)),
  .inl (9, [.ref 45, .ref 47, .ref 83]),
  .inl (8, [.ref 46, .int 0]),
  .inr (.inl (.int, List.replicate 35 0)),
  .inr (.inr (.inr (.int, [48, 49, 50, 51, 52, 53, 54, 55, 56, 57, 58, 59, 60, 61, 62, 63, 64, 65, 66, 67, 68, 69, 70, 71, 72, 73, 74, 75, 76, 77, 78, 79, 80, 81, 82]))),
  .inr (.inl (.int, List.replicate 7 0)),
  .inr (.inl (.int, List.replicate 7 0)),
  .inr (.inl (.int, List.replicate 7 0)),
  .inr (.inl (.int, List.replicate 7 0)),
  .inr (.inl (.int, List.replicate 7 0)),
  .inr (.inl (.int, List.replicate 7 0)),
  .inr (.inl (.int, List.replicate 7 0)),
  .inr (.inl (.int, List.replicate 7 0)),
  .inr (.inl (.int, List.replicate 7 0)),
  .inr (.inl (.int, List.replicate 7 0)),
  .inr (.inl (.int, List.replicate 7 0)),
  .inr (.inl (.int, List.replicate 7 0)),
  .inr (.inl (.int, List.replicate 7 0)),
  .inr (.inl (.int, List.replicate 7 0)),
  .inr (.inl (.int, List.replicate 7 0)),
  .inr (.inl (.int, List.replicate 7 0)),
  .inr (.inl (.int, List.replicate 7 0)),
  .inr (.inl (.int, List.replicate 7 0)),
  .inr (.inl (.int, List.replicate 7 0)),
  .inr (.inl (.int, List.replicate 7 0)),
  .inr (.inl (.int, List.replicate 7 0)),
  .inr (.inl (.int, List.replicate 7 0)),
  .inr (.inl (.int, List.replicate 7 0)),
  .inr (.inl (.int, List.replicate 7 0)),
  .inr (.inl (.int, List.replicate 7 0)),
  .inr (.inl (.int, List.replicate 7 0)),
  .inr (.inl (.int, List.replicate 7 0)),
  .inr (.inl (.int, List.replicate 7 0)),
  .inr (.inl (.int, List.replicate 7 0)),
  .inr (.inl (.int, List.replicate 7 0)),
  .inr (.inl (.int, List.replicate 7 0)),
  .inr (.inl (.int, List.replicate 7 0)),
  .inr (.inl (.int, List.replicate 7 0)),
  .inr (.inl (.int, List.replicate 7 0)),
  .inr (.inl (.int, List.replicate 7 0)),
  .inl (7, [.ref 84, .ref 95, .int 0]),
  .inr (.inr (.inr (.long, [85, 86, 87, 88, 89, 90, 91, 92, 93, 94]))),
  .inr (.inr (.inl (List.replicate 7 0))),
  .inr (.inr (.inl (List.replicate 7 0))),
  .inr (.inr (.inl (List.replicate 7 0))),
  .inr (.inr (.inl (List.replicate 7 0))),
  .inr (.inr (.inl (List.replicate 7 0))),
  .inr (.inr (.inl (List.replicate 7 0))),
  .inr (.inr (.inl (List.replicate 7 0))),
  .inr (.inr (.inl (List.replicate 7 0))),
  .inr (.inr (.inl (List.replicate 7 0))),
  .inr (.inr (.inl (List.replicate 7 0))),
  .inr (.inl (.int, List.replicate 7 0)),
  .inl (4, [.ref 97, .ref 107, .ref 108, .ref 109, .int 0, .int 0]),
  .inr (.inr (.inr (.int, [98, 99, 100, 101, 102, 103, 104, 105, 106]))),
  .inr (.inl (.int, List.replicate 7 0)),
  .inr (.inl (.int, List.replicate 7 0)),
  .inr (.inl (.int, List.replicate 7 0)),
  .inr (.inl (.int, List.replicate 7 0)),
  .inr (.inl (.int, List.replicate 7 0)),
  .inr (.inl (.int, List.replicate 7 0)),
  .inr (.inl (.int, List.replicate 7 0)),
  .inr (.inl (.int, List.replicate 7 0)),
  .inr (.inl (.int, List.replicate 7 0)),
  .inr (.inl (.int, List.replicate 9 0)),
  .inr (.inl (.int, List.replicate 10 0)),
  .inr (.inl (.int, List.replicate 10 0)),
  .inl (4, [.ref 111, .ref 121, .ref 122, .ref 123, .int 0, .int 0]),
  .inr (.inr (.inr (.int, [112, 113, 114, 115, 116, 117, 118, 119, 120]))),
  .inr (.inl (.int, List.replicate 7 0)),
  .inr (.inl (.int, List.replicate 7 0)),
  .inr (.inl (.int, List.replicate 7 0)),
  .inr (.inl (.int, List.replicate 7 0)),
  .inr (.inl (.int, List.replicate 7 0)),
  .inr (.inl (.int, List.replicate 7 0)),
  .inr (.inl (.int, List.replicate 7 0)),
  .inr (.inl (.int, List.replicate 7 0)),
  .inr (.inl (.int, List.replicate 7 0)),
  .inr (.inl (.int, List.replicate 9 0)),
  .inr (.inl (.int, List.replicate 10 0)),
  .inr (.inl (.int, List.replicate 10 0)),
  .inl (10, [.ref 125, .int 0, .int 0, .ref 126, .ref 127, .int 0, .ref 128, .ref 129, .int 0, .int 0, .ref 130, .ref 131, .ref 132, .ref 133, .int 0, .ref 134, .int 0, .ref 135, .ref 136, .int 0, .ref 137, .ref 138]),
  .inr (.inl (.char, List.replicate 100 0)),
  .inr (.inl (.int, List.replicate 77 0)),
  .inr (.inl (.boolean, List.replicate 121 0)),
  .inr (.inl (.int, List.replicate 7 0)),
  .inr (.inl (.int, List.replicate 7 0)),
  .inr (.inl (.int, List.replicate 63 0)),
  .inr (.inl (.boolean, List.replicate 81 0)),
  .inr (.inl (.boolean, List.replicate 81 0)),
  .inr (.inl (.int, List.replicate 9 0)),
  .inr (.inl (.int, List.replicate 35 0)),
  .inr (.inl (.int, List.replicate 35 0)),
  .inr (.inl (.int, List.replicate 245 0)),
  .inr (.inr (.inl (List.replicate 70 0))),
  .inr (.inl (.int, List.replicate 7 0))]
set_option maxRecDepth 100000 in
theorem z0_ctorX : zrun zP zFT zCD 3000 none 9 (0, zent [.ref 1] 1, [], [.inl (0, [.null, .null, .null, .null, .null, .null, .null, .null, .null])], 0, 0) = some (none, zσX, 122, 1029) := zeqo_eq (by decide +kernel)
set_option maxRecDepth 100000 in
theorem z0_ctorM : zrun zP zFT zCD 3000 none 10 (0, zent [.ref 124] 1, [], zσX ++ [.inl (10, [.null, .int 0, .int 0, .null, .null, .int 0, .null, .null, .int 0, .int 0, .null, .null, .null, .null, .int 0, .null, .int 0, .null, .null, .int 0, .null, .null])], 0, 0) = some (none, zσ0, 14, 938) := zeqo_eq (by decide +kernel)
set_option maxRecDepth 100000 in
theorem z0_backX (scr : Option (List Int32)) {o : zO} (k : zR scr 128 (7, [some (.ref 0), none, none, none], [.ref 1], zσX, 123, 1038) o) : zR scr 128 (0, zent [.ref 0] 4, [], [], 0, 0) o :=
  zRn_n 2 (a' := (4, [some (.ref 0), none, none, none], [.ref 1, .ref 1], [.inl (0, [.null, .null, .null, .null, .null, .null, .null, .null, .null])], 1, 9)) rfl (zRn_call rfl ⟨_, z0_ctorX⟩ rfl k)
set_option maxRecDepth 100000 in
theorem z0_start (scr : Option (List Int32)) {o : zO} (k : zR scr 128 (18, [some (.ref 0), some (.ref 1), some (.ref 124), some (.int 0)], [], zσ0, 138, 1998) o) : zR scr 128 (0, zent [.ref 0] 4, [], [], 0, 0) o := by
  refine z0_backX scr ?_
  refine zRn_n 3 (a' := (12, [some (.ref 0), some (.ref 1), none, none], [.ref 124, .ref 124], zσX ++ [.inl (10, [.null, .int 0, .int 0, .null, .null, .int 0, .null, .null, .int 0, .int 0, .null, .null, .null, .null, .int 0, .null, .int 0, .null, .null, .int 0, .null, .null])], 124, 1060)) rfl ?_
  refine zRn_call rfl ⟨_, z0_ctorM⟩ rfl ?_
  exact zRn_n 3 rfl k
end
section
/-! Branches of a run. -/
theorem zR_eq {scr : Option (List Int32)} {y : Nat} {t f : Nat} {L : List (Option Value)} {st : List Value} {σ : List zC} {nc ns : Nat} {o : zO} {x w : Int32} (h1 : x = w → zR scr y (t, L, st, σ, nc, ns) o) (h2 : ¬ (x = w) → zR scr y (f, L, st, σ, nc, ns) o) : zR scr y (zbr .eq x w t f, L, st, σ, nc, ns) o := by
  by_cases h : x = w
  · rw [show zbr .eq x w t f = t from if_pos h]
    exact h1 h
  · rw [show zbr .eq x w t f = f from if_neg h]
    exact h2 h
theorem zR_ne {scr : Option (List Int32)} {y : Nat} {t f : Nat} {L : List (Option Value)} {st : List Value} {σ : List zC} {nc ns : Nat} {o : zO} {x w : Int32} (h1 : x = w → zR scr y (f, L, st, σ, nc, ns) o) (h2 : ¬ (x = w) → zR scr y (t, L, st, σ, nc, ns) o) : zR scr y (zbr .ne x w t f, L, st, σ, nc, ns) o := by
  by_cases h : x = w
  · rw [show zbr .ne x w t f = f from if_pos h]
    exact h1 h
  · rw [show zbr .ne x w t f = t from if_neg h]
    exact h2 h
theorem zR_lt {scr : Option (List Int32)} {y : Nat} {t f : Nat} {L : List (Option Value)} {st : List Value} {σ : List zC} {nc ns : Nat} {o : zO} {x w : Int32} (h1 : x < w → zR scr y (t, L, st, σ, nc, ns) o) (h2 : ¬ (x < w) → zR scr y (f, L, st, σ, nc, ns) o) : zR scr y (zbr .lt x w t f, L, st, σ, nc, ns) o := by
  by_cases h : x < w
  · rw [show zbr .lt x w t f = t from if_pos h]
    exact h1 h
  · rw [show zbr .lt x w t f = f from if_neg h]
    exact h2 h
theorem zR_ge {scr : Option (List Int32)} {y : Nat} {t f : Nat} {L : List (Option Value)} {st : List Value} {σ : List zC} {nc ns : Nat} {o : zO} {x w : Int32} (h1 : w ≤ x → zR scr y (t, L, st, σ, nc, ns) o) (h2 : ¬ (w ≤ x) → zR scr y (f, L, st, σ, nc, ns) o) : zR scr y (zbr .ge x w t f, L, st, σ, nc, ns) o := by
  by_cases h : w ≤ x
  · rw [show zbr .ge x w t f = t from if_pos h]
    exact h1 h
  · rw [show zbr .ge x w t f = f from if_neg h]
    exact h2 h
theorem zR_gt {scr : Option (List Int32)} {y : Nat} {t f : Nat} {L : List (Option Value)} {st : List Value} {σ : List zC} {nc ns : Nat} {o : zO} {x w : Int32} (h1 : w < x → zR scr y (t, L, st, σ, nc, ns) o) (h2 : ¬ (w < x) → zR scr y (f, L, st, σ, nc, ns) o) : zR scr y (zbr .gt x w t f, L, st, σ, nc, ns) o := by
  by_cases h : w < x
  · rw [show zbr .gt x w t f = t from if_pos h]
    exact h1 h
  · rw [show zbr .gt x w t f = f from if_neg h]
    exact h2 h
theorem zR_le {scr : Option (List Int32)} {y : Nat} {t f : Nat} {L : List (Option Value)} {st : List Value} {σ : List zC} {nc ns : Nat} {o : zO} {x w : Int32} (h1 : x ≤ w → zR scr y (t, L, st, σ, nc, ns) o) (h2 : ¬ (x ≤ w) → zR scr y (f, L, st, σ, nc, ns) o) : zR scr y (zbr .le x w t f, L, st, σ, nc, ns) o := by
  by_cases h : x ≤ w
  · rw [show zbr .le x w t f = t from if_pos h]
    exact h1 h
  · rw [show zbr .le x w t f = f from if_neg h]
    exact h2 h
end
section
/-! Each call once, on a fresh object. -/
theorem z1_hasN (x : Int32) : zR none 88 (0, zent [.ref 96, .int x] 2, [], zσ0, 0, 0) (some (.int 0), zσ0, 0, 0) := by
  refine zRn_n 2 rfl ?_
  refine zR_lt (fun h => zRn_n 1 rfl (zRn_ret rfl)) (fun h => ?_)
  refine zRn_n 4 rfl ?_
  exact zR_ge (fun h2 => zRn_n 1 rfl (zRn_ret rfl)) (fun h2 => absurd (k2_le h) h2)
theorem z1_isC (x : Int32) : zR none 90 (0, zent [.ref 124, .int x] 2, [], zσ0, 0, 0) (some (.int 0), zσ0, 0, 0) := by
  refine zRn_n 2 rfl ?_
  refine zR_lt (fun h => zRn_n 1 rfl (zRn_ret rfl)) (fun h => ?_)
  refine zRn_n 4 rfl ?_
  exact zR_ge (fun h2 => zRn_n 1 rfl (zRn_ret rfl)) (fun h2 => absurd (k2_le h) h2)
theorem z1_hasS (x : Int32) : zR none 108 (0, zent [.ref 42, .int x] 2, [], zσ0, 0, 0) (some (.int 0), zσ0, 0, 0) := by
  refine zRn_n 2 rfl ?_
  refine zR_lt (fun h => zRn_n 1 rfl (zRn_ret rfl)) (fun h => ?_)
  refine zRn_n 4 rfl ?_
  exact zR_ge (fun h2 => zRn_n 1 rfl (zRn_ret rfl)) (fun h2 => absurd (k2_le h) h2)
theorem z1_hasU (x : Int32) : zR none 108 (0, zent [.ref 45, .int x] 2, [], zσ0, 0, 0) (some (.int 0), zσ0, 0, 0) := by
  refine zRn_n 2 rfl ?_
  refine zR_lt (fun h => zRn_n 1 rfl (zRn_ret rfl)) (fun h => ?_)
  refine zRn_n 4 rfl ?_
  exact zR_ge (fun h2 => zRn_n 1 rfl (zRn_ret rfl)) (fun h2 => absurd (k2_le h) h2)
theorem z1_atS (x : Int32) : zR none 109 (0, zent [.ref 42, .int x] 2, [], zσ0, 0, 0) (some (.int 0), zσ0, 0, 0) := by
  refine zRn_n 2 rfl ?_
  refine zRn_call rfl (z1_hasS x) rfl ?_
  exact zRn_n 2 rfl (zRn_ret rfl)
theorem z1_atU (x : Int32) : zR none 109 (0, zent [.ref 45, .int x] 2, [], zσ0, 0, 0) (some (.int 0), zσ0, 0, 0) := by
  refine zRn_n 2 rfl ?_
  refine zRn_call rfl (z1_hasU x) rfl ?_
  exact zRn_n 2 rfl (zRn_ret rfl)
theorem z1_coefX (x w : Int32) : zR none 89 (0, zent [.ref 1, .int x, .int w] 3, [], zσ0, 0, 0) (some (.int (-1)), zσ0, 0, 0) := by
  refine zRn_n 3 rfl ?_
  refine zRn_call rfl (z1_hasN x) rfl ?_
  exact zRn_n 2 rfl (zRn_ret rfl)
theorem z1_coefM (x w : Int32) : zR none 91 (0, zent [.ref 124, .int x, .int w] 3, [], zσ0, 0, 0) (some (.int (-1)), zσ0, 0, 0) := by
  refine zRn_n 2 rfl ?_
  refine zRn_call rfl (z1_isC x) rfl ?_
  exact zRn_n 2 rfl (zRn_ret rfl)
theorem z1_classX (x : Int32) : zR none 95 (0, zent [.ref 1, .int x] 2, [], zσ0, 0, 0) (some (.int (-1)), zσ0, 0, 0) := by
  refine zRn_n 3 rfl ?_
  refine zRn_call rfl (z1_hasN x) rfl ?_
  exact zRn_n 2 rfl (zRn_ret rfl)
theorem z1_classM (x : Int32) : zR none 96 (0, zent [.ref 124, .int x] 4, [], zσ0, 0, 0) (some (.int (-1)), zσ0, 0, 0) := by
  refine zRn_n 2 rfl ?_
  refine zRn_call rfl (z1_isC x) rfl ?_
  exact zRn_n 2 rfl (zRn_ret rfl)
theorem z1_termX (x : Int32) : zR none 100 (0, zent [.ref 1, .int x] 2, [], zσ0, 0, 0) (some (.int 0), zσ0, 0, 0) := by
  refine zRn_n 3 rfl ?_
  refine zRn_call rfl (z1_hasN x) rfl ?_
  exact zRn_n 2 rfl (zRn_ret rfl)
theorem z1_termM (x : Int32) : zR none 101 (0, zent [.ref 124, .int x] 3, [], zσ0, 0, 0) (some (.int 0), zσ0, 0, 0) := by
  refine zRn_n 2 rfl ?_
  refine zRn_call rfl (z1_isC x) rfl ?_
  exact zRn_n 2 rfl (zRn_ret rfl)
theorem z1_siphX (x : Int32) : zR none 110 (0, zent [.ref 1, .int x] 2, [], zσ0, 0, 0) (some (.int 0), zσ0, 0, 0) := by
  refine zRn_n 3 rfl ?_
  refine zRn_call rfl (z1_atS x) rfl ?_
  exact zRn_ret rfl
theorem z1_consX (x : Int32) : zR none 112 (0, zent [.ref 1, .int x] 2, [], zσ0, 0, 0) (some (.int 0), zσ0, 0, 0) := by
  refine zRn_n 3 rfl ?_
  refine zRn_call rfl (z1_hasS x) rfl ?_
  exact zRn_n 2 rfl (zRn_ret rfl)
theorem z1_suppX (x : Int32) : zR none 116 (0, zent [.ref 1, .int x] 2, [], zσ0, 0, 0) (some (.int 0), zσ0, 0, 0) := by
  refine zRn_n 4 rfl ?_
  refine zRn_call rfl (z1_atU x) rfl ?_
  exact zRn_ret rfl
theorem z1_weigX (x w : Int32) : zR none 118 (0, zent [.ref 1, .int x, .int w] 3, [], zσ0, 0, 0) (some (.int (-1)), zσ0, 0, 0) := by
  refine zRn_n 4 rfl ?_
  refine zRn_call rfl (z1_hasU x) rfl ?_
  exact zRn_n 2 rfl (zRn_ret rfl)
theorem z1_siphM (x : Int32) : zR none 111 (0, zent [.ref 124, .int x] 2, [], zσ0, 0, 0) (some (.int 0), zσ0, 0, 0) := by
  refine zRn_n 2 rfl ?_
  refine zR_lt (fun h => zRn_n 1 rfl (zRn_ret rfl)) (fun h => ?_)
  refine zRn_n 4 rfl ?_
  exact zR_ge (fun h2 => zRn_n 1 rfl (zRn_ret rfl)) (fun h2 => absurd (k2_le h) h2)
theorem z1_suppM (x : Int32) : zR none 117 (0, zent [.ref 124, .int x] 2, [], zσ0, 0, 0) (some (.int 0), zσ0, 0, 0) := by
  refine zRn_n 2 rfl ?_
  refine zR_lt (fun h => zRn_n 1 rfl (zRn_ret rfl)) (fun h => ?_)
  refine zRn_n 4 rfl ?_
  exact zR_ge (fun h2 => zRn_n 1 rfl (zRn_ret rfl)) (fun h2 => absurd (k2_le h) h2)
theorem z1_weigM (x w : Int32) : zR none 119 (0, zent [.ref 124, .int x, .int w] 3, [], zσ0, 0, 0) (some (.int (-1)), zσ0, 0, 0) := by
  refine zRn_n 2 rfl ?_
  refine zR_lt (fun h => zRn_n 1 rfl (zRn_ret rfl)) (fun h => ?_)
  refine zRn_n 4 rfl ?_
  exact zR_ge (fun h2 => zRn_n 1 rfl (zRn_ret rfl)) (fun h2 => absurd (k2_le h) h2)
theorem z1_consM (x : Int32) : zR none 113 (0, zent [.ref 124, .int x] 4, [], zσ0, 0, 0) (some (.int 0), zσ0, 0, 0) := by
  exact zRn_n 9 rfl (zRn_ret rfl)
set_option maxRecDepth 100000 in
theorem z1_clearX : zrun zP zFT zCD 60000 none 14 (0, zent [.ref 1] 1, [], zσ0, 0, 0) = some (none, zσ0, 0, 0) := zeqo_eq (by decide +kernel)
set_option maxRecDepth 100000 in
theorem z1_clearM : zrun zP zFT zCD 60000 none 15 (0, zent [.ref 124] 1, [], zσ0, 0, 0) = some (none, zσ0, 0, 0) := zeqo_eq (by decide +kernel)
def zσ_readX : List zC := [.inl (0, [.ref 2, .ref 4, .ref 5, .ref 8, .ref 14, .ref 42, .ref 44, .ref 110, .ref 96]),
  .inl (1, [.ref 3, .int 0]),
  .inr (.inl (.char, List.replicate 100 0)),
  .inl (2, [.int 0, .int 0, .int 0]),
  .inl (3, [.ref 6, .ref 7, .int 1, .int 32]),
  .inr (.inl (.int, List.replicate 7 0)),
  .inr (.inl (.int, List.replicate 7 0)),
  .inl (5, [.ref 9, .ref 10, .ref 11, .ref 12, .ref 13, .int 0, .int 0]),
  .inr (.inl (.int, List.replicate 9 0)),
  .inr (.inl (.int, List.replicate 9 0)),
  .inr (.inl (.int, List.replicate 9 0)),
  .inr (.inl (.int, List.replicate 9 0)),
  .inr (.inl (.int, List.replicate 9 0)),
  .inl (6, [.ref 15, .ref 28, .ref 41, .int 0]),
  .inl (7, [.ref 16, .ref 27, .int 0]),
  .inr (.inr (.inr (.long, [17, 18, 19, 20, 21, 22, 23, 24, 25, 26]))),
  .inr (.inr (.inl (List.replicate 7 0))),
  .inr (.inr (.inl (List.replicate 7 0))),
  .inr (.inr (.inl (List.replicate 7 0))),
  .inr (.inr (.inl (List.replicate 7 0))),
  .inr (.inr (.inl (List.replicate 7 0))),
  .inr (.inr (.inl (List.replicate 7 0))),
  .inr (.inr (.inl (List.replicate 7 0))),
  .inr (.inr (.inl (List.replicate 7 0))),
  .inr (.inr (.inl (List.replicate 7 0))),
  .inr (.inr (.inl (List.replicate 7 0))),
  .inr (.inl (.int, List.replicate 7 (-1))),
  .inl (7, [.ref 29, .ref 40, .int 0]),
  .inr (.inr (.inr (.long, [30, 31, 32, 33, 34, 35, 36, 37, 38, 39]))),
  .inr (.inr (.inl (List.replicate 7 0))),
  .inr (.inr (.inl (List.replicate 7 0))),
  .inr (.inr (.inl (List.replicate 7 0))),
  .inr (.inr (.inl (List.replicate 7 0))),
  .inr (.inr (.inl (List.replicate 7 0))),
  .inr (.inr (.inl (List.replicate 7 0))),
  .inr (.inr (.inl (List.replicate 7 0))),
  .inr (.inr (.inl (List.replicate 7 0))),
  .inr (.inr (.inl (List.replicate 7 0))),
  .inr (.inr (.inl (List.replicate 7 0))),
  .inr (.inl (.int, List.replicate 7 0)),
  .inr (.inl (.int, List.replicate 9 0)),
  .inl (8, [.ref 43, .int 0]),
  .inr (.inl (.int, List.replicate 35 0)),
  .inl (9, [.ref 45, .ref 47, .ref 83]),
  .inl (8, [.ref 46, .int 0]),
  .inr (.inl (.int, List.replicate 35 0)),
  .inr (.inr (.inr (.int, [48, 49, 50, 51, 52, 53, 54, 55, 56, 57, 58, 59, 60, 61, 62, 63, 64, 65, 66, 67, 68, 69, 70, 71, 72, 73, 74, 75, 76, 77, 78, 79, 80, 81, 82]))),
  .inr (.inl (.int, List.replicate 7 0)),
  .inr (.inl (.int, List.replicate 7 0)),
  .inr (.inl (.int, List.replicate 7 0)),
  .inr (.inl (.int, List.replicate 7 0)),
  .inr (.inl (.int, List.replicate 7 0)),
  .inr (.inl (.int, List.replicate 7 0)),
  .inr (.inl (.int, List.replicate 7 0)),
  .inr (.inl (.int, List.replicate 7 0)),
  .inr (.inl (.int, List.replicate 7 0)),
  .inr (.inl (.int, List.replicate 7 0)),
  .inr (.inl (.int, List.replicate 7 0)),
  .inr (.inl (.int, List.replicate 7 0)),
  .inr (.inl (.int, List.replicate 7 0)),
  .inr (.inl (.int, List.replicate 7 0)),
  .inr (.inl (.int, List.replicate 7 0)),
  .inr (.inl (.int, List.replicate 7 0)),
  .inr (.inl (.int, List.replicate 7 0)),
  .inr (.inl (.int, List.replicate 7 0)),
  .inr (.inl (.int, List.replicate 7 0)),
  .inr (.inl (.int, List.replicate 7 0)),
  .inr (.inl (.int, List.replicate 7 0)),
  .inr (.inl (.int, List.replicate 7 0)),
  .inr (.inl (.int, List.replicate 7 0)),
  .inr (.inl (.int, List.replicate 7 0)),
  .inr (.inl (.int, List.replicate 7 0)),
  .inr (.inl (.int, List.replicate 7 0)),
  .inr (.inl (.int, List.replicate 7 0)),
  .inr (.inl (.int, List.replicate 7 0)),
  .inr (.inl (.int, List.replicate 7 0)),
  .inr (.inl (.int, List.replicate 7 0)),
  .inr (.inl (.int, List.replicate 7 0)),
  .inr (.inl (.int, List.replicate 7 0)),
  .inr (.inl (.int, List.replicate 7 0)),
  .inr (.inl (.int, List.replicate 7 0)),
  .inr (.inl (.int, List.replicate 7 0)),
  .inl (7, [.ref 84, .ref 95, .int 0]),
  .inr (.inr (.inr (.long, [85, 86, 87, 88, 89, 90, 91, 92, 93, 94]))),
  .inr (.inr (.inl (List.replicate 7 0))),
  .inr (.inr (.inl (List.replicate 7 0))),
  .inr (.inr (.inl (List.replicate 7 0))),
  .inr (.inr (.inl (List.replicate 7 0))),
  .inr (.inr (.inl (List.replicate 7 0))),
  .inr (.inr (.inl (List.replicate 7 0))),
  .inr (.inr (.inl (List.replicate 7 0))),
  .inr (.inr (.inl (List.replicate 7 0))),
  .inr (.inr (.inl (List.replicate 7 0))),
  .inr (.inr (.inl (List.replicate 7 0))),
  .inr (.inl (.int, List.replicate 7 0)),
  .inl (4, [.ref 97, .ref 107, .ref 108, .ref 109, .int 0, .int 0]),
  .inr (.inr (.inr (.int, [98, 99, 100, 101, 102, 103, 104, 105, 106]))),
  .inr (.inl (.int, List.replicate 7 0)),
  .inr (.inl (.int, List.replicate 7 0)),
  .inr (.inl (.int, List.replicate 7 0)),
  .inr (.inl (.int, List.replicate 7 0)),
  .inr (.inl (.int, List.replicate 7 0)),
  .inr (.inl (.int, List.replicate 7 0)),
  .inr (.inl (.int, List.replicate 7 0)),
  .inr (.inl (.int, List.replicate 7 0)),
  .inr (.inl (.int, List.replicate 7 0)),
  .inr (.inl (.int, List.replicate 9 0)),
  .inr (.inl (.int, List.replicate 10 0)),
  .inr (.inl (.int, List.replicate 10 0)),
  .inl (4, [.ref 111, .ref 121, .ref 122, .ref 123, .int 0, .int 0]),
  .inr (.inr (.inr (.int, [112, 113, 114, 115, 116, 117, 118, 119, 120]))),
  .inr (.inl (.int, List.replicate 7 0)),
  .inr (.inl (.int, List.replicate 7 0)),
  .inr (.inl (.int, List.replicate 7 0)),
  .inr (.inl (.int, List.replicate 7 0)),
  .inr (.inl (.int, List.replicate 7 0)),
  .inr (.inl (.int, List.replicate 7 0)),
  .inr (.inl (.int, List.replicate 7 0)),
  .inr (.inl (.int, List.replicate 7 0)),
  .inr (.inl (.int, List.replicate 7 0)),
  .inr (.inl (.int, List.replicate 9 0)),
  .inr (.inl (.int, List.replicate 10 0)),
  .inr (.inl (.int, List.replicate 10 0)),
  .inl (10, [.ref 125, .int 0, .int 0, .ref 126, .ref 127, .int 0, .ref 128, .ref 129, .int 0, .int 0, .ref 130, .ref 131, .ref 132, .ref 133, .int 0, .ref 134, .int 0, .ref 135, .ref 136, .int 0, .ref 137, .ref 138]),
  .inr (.inl (.char, List.replicate 100 0)),
  .inr (.inl (.int, List.replicate 77 0)),
  .inr (.inl (.boolean, List.replicate 121 0)),
  .inr (.inl (.int, List.replicate 7 0)),
  .inr (.inl (.int, List.replicate 7 0)),
  .inr (.inl (.int, List.replicate 63 0)),
  .inr (.inl (.boolean, List.replicate 81 0)),
  .inr (.inl (.boolean, List.replicate 81 0)),
  .inr (.inl (.int, List.replicate 9 0)),
  .inr (.inl (.int, List.replicate 35 0)),
  .inr (.inl (.int, List.replicate 35 0)),
  .inr (.inl (.int, List.replicate 245 0)),
  .inr (.inr (.inl (List.replicate 70 0))),
  .inr (.inl (.int, List.replicate 7 0))]
set_option maxRecDepth 100000 in
theorem z1_readX : zrun zP zFT zCD 60000 none 63 (0, zent [.ref 1] 4, [], zσ0, 0, 0) = some (some (.int 0), zσ_readX, 0, 0) := zeqo_eq (by decide +kernel)
def zσ_take0 : List zC := [.inl (0, [.ref 2, .ref 4, .ref 5, .ref 8, .ref 14, .ref 42, .ref 44, .ref 110, .ref 96]),
  .inl (1, [.ref 3, .int 0]),
  .inr (.inl (.char, List.replicate 100 0)),
  .inl (2, [.int 0, .int 0, .int 0]),
  .inl (3, [.ref 6, .ref 7, .int 1, .int 32]),
  .inr (.inl (.int, List.replicate 7 0)),
  .inr (.inl (.int, List.replicate 7 0)),
  .inl (5, [.ref 9, .ref 10, .ref 11, .ref 12, .ref 13, .int 0, .int 0]),
  .inr (.inl (.int, List.replicate 9 0)),
  .inr (.inl (.int, List.replicate 9 0)),
  .inr (.inl (.int, List.replicate 9 0)),
  .inr (.inl (.int, List.replicate 9 0)),
  .inr (.inl (.int, List.replicate 9 0)),
  .inl (6, [.ref 15, .ref 28, .ref 41, .int 0]),
  .inl (7, [.ref 16, .ref 27, .int 0]),
  .inr (.inr (.inr (.long, [17, 18, 19, 20, 21, 22, 23, 24, 25, 26]))),
  .inr (.inr (.inl (List.replicate 7 0))),
  .inr (.inr (.inl (List.replicate 7 0))),
  .inr (.inr (.inl (List.replicate 7 0))),
  .inr (.inr (.inl (List.replicate 7 0))),
  .inr (.inr (.inl (List.replicate 7 0))),
  .inr (.inr (.inl (List.replicate 7 0))),
  .inr (.inr (.inl (List.replicate 7 0))),
  .inr (.inr (.inl (List.replicate 7 0))),
  .inr (.inr (.inl (List.replicate 7 0))),
  .inr (.inr (.inl (List.replicate 7 0))),
  .inr (.inl (.int, List.replicate 7 (-1))),
  .inl (7, [.ref 29, .ref 40, .int 0]),
  .inr (.inr (.inr (.long, [30, 31, 32, 33, 34, 35, 36, 37, 38, 39]))),
  .inr (.inr (.inl (List.replicate 7 0))),
  .inr (.inr (.inl (List.replicate 7 0))),
  .inr (.inr (.inl (List.replicate 7 0))),
  .inr (.inr (.inl (List.replicate 7 0))),
  .inr (.inr (.inl (List.replicate 7 0))),
  .inr (.inr (.inl (List.replicate 7 0))),
  .inr (.inr (.inl (List.replicate 7 0))),
  .inr (.inr (.inl (List.replicate 7 0))),
  .inr (.inr (.inl (List.replicate 7 0))),
  .inr (.inr (.inl (List.replicate 7 0))),
  .inr (.inl (.int, List.replicate 7 0)),
  .inr (.inl (.int, List.replicate 9 0)),
  .inl (8, [.ref 43, .int 0]),
  .inr (.inl (.int, List.replicate 35 0)),
  .inl (9, [.ref 45, .ref 47, .ref 83]),
  .inl (8, [.ref 46, .int 0]),
  .inr (.inl (.int, List.replicate 35 0)),
  .inr (.inr (.inr (.int, [48, 49, 50, 51, 52, 53, 54, 55, 56, 57, 58, 59, 60, 61, 62, 63, 64, 65, 66, 67, 68, 69, 70, 71, 72, 73, 74, 75, 76, 77, 78, 79, 80, 81, 82]))),
  .inr (.inl (.int, List.replicate 7 0)),
  .inr (.inl (.int, List.replicate 7 0)),
  .inr (.inl (.int, List.replicate 7 0)),
  .inr (.inl (.int, List.replicate 7 0)),
  .inr (.inl (.int, List.replicate 7 0)),
  .inr (.inl (.int, List.replicate 7 0)),
  .inr (.inl (.int, List.replicate 7 0)),
  .inr (.inl (.int, List.replicate 7 0)),
  .inr (.inl (.int, List.replicate 7 0)),
  .inr (.inl (.int, List.replicate 7 0)),
  .inr (.inl (.int, List.replicate 7 0)),
  .inr (.inl (.int, List.replicate 7 0)),
  .inr (.inl (.int, List.replicate 7 0)),
  .inr (.inl (.int, List.replicate 7 0)),
  .inr (.inl (.int, List.replicate 7 0)),
  .inr (.inl (.int, List.replicate 7 0)),
  .inr (.inl (.int, List.replicate 7 0)),
  .inr (.inl (.int, List.replicate 7 0)),
  .inr (.inl (.int, List.replicate 7 0)),
  .inr (.inl (.int, List.replicate 7 0)),
  .inr (.inl (.int, List.replicate 7 0)),
  .inr (.inl (.int, List.replicate 7 0)),
  .inr (.inl (.int, List.replicate 7 0)),
  .inr (.inl (.int, List.replicate 7 0)),
  .inr (.inl (.int, List.replicate 7 0)),
  .inr (.inl (.int, List.replicate 7 0)),
  .inr (.inl (.int, List.replicate 7 0)),
  .inr (.inl (.int, List.replicate 7 0)),
  .inr (.inl (.int, List.replicate 7 0)),
  .inr (.inl (.int, List.replicate 7 0)),
  .inr (.inl (.int, List.replicate 7 0)),
  .inr (.inl (.int, List.replicate 7 0)),
  .inr (.inl (.int, List.replicate 7 0)),
  .inr (.inl (.int, List.replicate 7 0)),
  .inr (.inl (.int, List.replicate 7 0)),
  .inl (7, [.ref 84, .ref 95, .int 0]),
  .inr (.inr (.inr (.long, [85, 86, 87, 88, 89, 90, 91, 92, 93, 94]))),
  .inr (.inr (.inl (List.replicate 7 0))),
  .inr (.inr (.inl (List.replicate 7 0))),
  .inr (.inr (.inl (List.replicate 7 0))),
  .inr (.inr (.inl (List.replicate 7 0))),
  .inr (.inr (.inl (List.replicate 7 0))),
  .inr (.inr (.inl (List.replicate 7 0))),
  .inr (.inr (.inl (List.replicate 7 0))),
  .inr (.inr (.inl (List.replicate 7 0))),
  .inr (.inr (.inl (List.replicate 7 0))),
  .inr (.inr (.inl (List.replicate 7 0))),
  .inr (.inl (.int, List.replicate 7 0)),
  .inl (4, [.ref 97, .ref 107, .ref 108, .ref 109, .int 0, .int 0]),
  .inr (.inr (.inr (.int, [98, 99, 100, 101, 102, 103, 104, 105, 106]))),
  .inr (.inl (.int, List.replicate 7 0)),
  .inr (.inl (.int, List.replicate 7 0)),
  .inr (.inl (.int, List.replicate 7 0)),
  .inr (.inl (.int, List.replicate 7 0)),
  .inr (.inl (.int, List.replicate 7 0)),
  .inr (.inl (.int, List.replicate 7 0)),
  .inr (.inl (.int, List.replicate 7 0)),
  .inr (.inl (.int, List.replicate 7 0)),
  .inr (.inl (.int, List.replicate 7 0)),
  .inr (.inl (.int, List.replicate 9 0)),
  .inr (.inl (.int, List.replicate 10 0)),
  .inr (.inl (.int, List.replicate 10 0)),
  .inl (4, [.ref 111, .ref 121, .ref 122, .ref 123, .int 0, .int 0]),
  .inr (.inr (.inr (.int, [112, 113, 114, 115, 116, 117, 118, 119, 120]))),
  .inr (.inl (.int, List.replicate 7 0)),
  .inr (.inl (.int, List.replicate 7 0)),
  .inr (.inl (.int, List.replicate 7 0)),
  .inr (.inl (.int, List.replicate 7 0)),
  .inr (.inl (.int, List.replicate 7 0)),
  .inr (.inl (.int, List.replicate 7 0)),
  .inr (.inl (.int, List.replicate 7 0)),
  .inr (.inl (.int, List.replicate 7 0)),
  .inr (.inl (.int, List.replicate 7 0)),
  .inr (.inl (.int, List.replicate 9 0)),
  .inr (.inl (.int, List.replicate 10 0)),
  .inr (.inl (.int, List.replicate 10 0)),
  .inl (10, [.ref 125, .int 0, .int 0, .ref 126, .ref 127, .int 0, .ref 128, .ref 129, .int 0, .int 0, .ref 130, .ref 131, .ref 132, .ref 133, .int 0, .ref 134, .int 0, .ref 135, .ref 136, .int 0, .ref 137, .ref 138]),
  .inr (.inl (.char, List.replicate 100 0)),
  .inr (.inl (.int, List.replicate 77 0)),
  .inr (.inl (.boolean, List.replicate 121 0)),
  .inr (.inl (.int, List.replicate 7 0)),
  .inr (.inl (.int, List.replicate 7 0)),
  .inr (.inl (.int, List.replicate 63 0)),
  .inr (.inl (.boolean, List.replicate 81 0)),
  .inr (.inl (.boolean, [1, 0, 0, 0, 0, 0, 0, 0, 0, 0, 1] ++ List.replicate 70 0)),
  .inr (.inl (.int, List.replicate 9 0)),
  .inr (.inl (.int, List.replicate 35 0)),
  .inr (.inl (.int, List.replicate 35 0)),
  .inr (.inl (.int, List.replicate 245 0)),
  .inr (.inr (.inl (List.replicate 70 0))),
  .inr (.inl (.int, List.replicate 7 0))]
set_option maxRecDepth 100000 in
theorem z1_take_0 : zsts zP zFT zCD none 82 1500 (0, [some (.ref 124), none, none, none], [], zσ_readX, 0, 0) = some (59, [some (.ref 124), some (.int 1), some (.int 8), none], [.ref 124], zσ_take0, 0, 0) := zeqs_eq (by decide +kernel)
def zσ_take1 : List zC := [.inl (0, [.ref 2, .ref 4, .ref 5, .ref 8, .ref 14, .ref 42, .ref 44, .ref 110, .ref 96]),
  .inl (1, [.ref 3, .int 0]),
  .inr (.inl (.char, List.replicate 100 0)),
  .inl (2, [.int 0, .int 0, .int 0]),
  .inl (3, [.ref 6, .ref 7, .int 1, .int 32]),
  .inr (.inl (.int, List.replicate 7 0)),
  .inr (.inl (.int, List.replicate 7 0)),
  .inl (5, [.ref 9, .ref 10, .ref 11, .ref 12, .ref 13, .int 0, .int 0]),
  .inr (.inl (.int, List.replicate 9 0)),
  .inr (.inl (.int, List.replicate 9 0)),
  .inr (.inl (.int, List.replicate 9 0)),
  .inr (.inl (.int, List.replicate 9 0)),
  .inr (.inl (.int, List.replicate 9 0)),
  .inl (6, [.ref 15, .ref 28, .ref 41, .int 0]),
  .inl (7, [.ref 16, .ref 27, .int 0]),
  .inr (.inr (.inr (.long, [17, 18, 19, 20, 21, 22, 23, 24, 25, 26]))),
  .inr (.inr (.inl (List.replicate 7 0))),
  .inr (.inr (.inl (List.replicate 7 0))),
  .inr (.inr (.inl (List.replicate 7 0))),
  .inr (.inr (.inl (List.replicate 7 0))),
  .inr (.inr (.inl (List.replicate 7 0))),
  .inr (.inr (.inl (List.replicate 7 0))),
  .inr (.inr (.inl (List.replicate 7 0))),
  .inr (.inr (.inl (List.replicate 7 0))),
  .inr (.inr (.inl (List.replicate 7 0))),
  .inr (.inr (.inl (List.replicate 7 0))),
  .inr (.inl (.int, List.replicate 7 (-1))),
  .inl (7, [.ref 29, .ref 40, .int 0]),
  .inr (.inr (.inr (.long, [30, 31, 32, 33, 34, 35, 36, 37, 38, 39]))),
  .inr (.inr (.inl (List.replicate 7 0))),
  .inr (.inr (.inl (List.replicate 7 0))),
  .inr (.inr (.inl (List.replicate 7 0))),
  .inr (.inr (.inl (List.replicate 7 0))),
  .inr (.inr (.inl (List.replicate 7 0))),
  .inr (.inr (.inl (List.replicate 7 0))),
  .inr (.inr (.inl (List.replicate 7 0))),
  .inr (.inr (.inl (List.replicate 7 0))),
  .inr (.inr (.inl (List.replicate 7 0))),
  .inr (.inr (.inl (List.replicate 7 0))),
  .inr (.inl (.int, List.replicate 7 0)),
  .inr (.inl (.int, List.replicate 9 0)),
  .inl (8, [.ref 43, .int 0]),
  .inr (.inl (.int, List.replicate 35 0)),
  .inl (9, [.ref 45, .ref 47, .ref 83]),
  .inl (8, [.ref 46, .int 0]),
  .inr (.inl (.int, List.replicate 35 0)),
  .inr (.inr (.inr (.int, [48, 49, 50, 51, 52, 53, 54, 55, 56, 57, 58, 59, 60, 61, 62, 63, 64, 65, 66, 67, 68, 69, 70, 71, 72, 73, 74, 75, 76, 77, 78, 79, 80, 81, 82]))),
  .inr (.inl (.int, List.replicate 7 0)),
  .inr (.inl (.int, List.replicate 7 0)),
  .inr (.inl (.int, List.replicate 7 0)),
  .inr (.inl (.int, List.replicate 7 0)),
  .inr (.inl (.int, List.replicate 7 0)),
  .inr (.inl (.int, List.replicate 7 0)),
  .inr (.inl (.int, List.replicate 7 0)),
  .inr (.inl (.int, List.replicate 7 0)),
  .inr (.inl (.int, List.replicate 7 0)),
  .inr (.inl (.int, List.replicate 7 0)),
  .inr (.inl (.int, List.replicate 7 0)),
  .inr (.inl (.int, List.replicate 7 0)),
  .inr (.inl (.int, List.replicate 7 0)),
  .inr (.inl (.int, List.replicate 7 0)),
  .inr (.inl (.int, List.replicate 7 0)),
  .inr (.inl (.int, List.replicate 7 0)),
  .inr (.inl (.int, List.replicate 7 0)),
  .inr (.inl (.int, List.replicate 7 0)),
  .inr (.inl (.int, List.replicate 7 0)),
  .inr (.inl (.int, List.replicate 7 0)),
  .inr (.inl (.int, List.replicate 7 0)),
  .inr (.inl (.int, List.replicate 7 0)),
  .inr (.inl (.int, List.replicate 7 0)),
  .inr (.inl (.int, List.replicate 7 0)),
  .inr (.inl (.int, List.replicate 7 0)),
  .inr (.inl (.int, List.replicate 7 0)),
  .inr (.inl (.int, List.replicate 7 0)),
  .inr (.inl (.int, List.replicate 7 0)),
  .inr (.inl (.int, List.replicate 7 0)),
  .inr (.inl (.int, List.replicate 7 0)),
  .inr (.inl (.int, List.replicate 7 0)),
  .inr (.inl (.int, List.replicate 7 0)),
  .inr (.inl (.int, List.replicate 7 0)),
  .inr (.inl (.int, List.replicate 7 0)),
  .inr (.inl (.int, List.replicate 7 0)),
  .inl (7, [.ref 84, .ref 95, .int 0]),
  .inr (.inr (.inr (.long, [85, 86, 87, 88, 89, 90, 91, 92, 93, 94]))),
  .inr (.inr (.inl (List.replicate 7 0))),
  .inr (.inr (.inl (List.replicate 7 0))),
  .inr (.inr (.inl (List.replicate 7 0))),
  .inr (.inr (.inl (List.replicate 7 0))),
  .inr (.inr (.inl (List.replicate 7 0))),
  .inr (.inr (.inl (List.replicate 7 0))),
  .inr (.inr (.inl (List.replicate 7 0))),
  .inr (.inr (.inl (List.replicate 7 0))),
  .inr (.inr (.inl (List.replicate 7 0))),
  .inr (.inr (.inl (List.replicate 7 0))),
  .inr (.inl (.int, List.replicate 7 0)),
  .inl (4, [.ref 97, .ref 107, .ref 108, .ref 109, .int 0, .int 0]),
  .inr (.inr (.inr (.int, [98, 99, 100, 101, 102, 103, 104, 105, 106]))),
  .inr (.inl (.int, List.replicate 7 0)),
  .inr (.inl (.int, List.replicate 7 0)),
  .inr (.inl (.int, List.replicate 7 0)),
  .inr (.inl (.int, List.replicate 7 0)),
  .inr (.inl (.int, List.replicate 7 0)),
  .inr (.inl (.int, List.replicate 7 0)),
  .inr (.inl (.int, List.replicate 7 0)),
  .inr (.inl (.int, List.replicate 7 0)),
  .inr (.inl (.int, List.replicate 7 0)),
  .inr (.inl (.int, List.replicate 9 0)),
  .inr (.inl (.int, List.replicate 10 0)),
  .inr (.inl (.int, List.replicate 10 0)),
  .inl (4, [.ref 111, .ref 121, .ref 122, .ref 123, .int 0, .int 0]),
  .inr (.inr (.inr (.int, [112, 113, 114, 115, 116, 117, 118, 119, 120]))),
  .inr (.inl (.int, List.replicate 7 0)),
  .inr (.inl (.int, List.replicate 7 0)),
  .inr (.inl (.int, List.replicate 7 0)),
  .inr (.inl (.int, List.replicate 7 0)),
  .inr (.inl (.int, List.replicate 7 0)),
  .inr (.inl (.int, List.replicate 7 0)),
  .inr (.inl (.int, List.replicate 7 0)),
  .inr (.inl (.int, List.replicate 7 0)),
  .inr (.inl (.int, List.replicate 7 0)),
  .inr (.inl (.int, List.replicate 9 0)),
  .inr (.inl (.int, List.replicate 10 0)),
  .inr (.inl (.int, List.replicate 10 0)),
  .inl (10, [.ref 125, .int 0, .int 0, .ref 126, .ref 127, .int 0, .ref 128, .ref 129, .int 0, .int 0, .ref 130, .ref 131, .ref 132, .ref 133, .int 0, .ref 134, .int 0, .ref 135, .ref 136, .int 0, .ref 137, .ref 138]),
  .inr (.inl (.char, List.replicate 100 0)),
  .inr (.inl (.int, List.replicate 77 0)),
  .inr (.inl (.boolean, List.replicate 121 0)),
  .inr (.inl (.int, List.replicate 7 0)),
  .inr (.inl (.int, List.replicate 7 0)),
  .inr (.inl (.int, List.replicate 63 0)),
  .inr (.inl (.boolean, List.replicate 81 0)),
  .inr (.inl (.boolean, [1, 0, 0, 0, 0, 0, 0, 0, 0, 0, 1, 0, 0, 0, 0, 0, 0, 0, 0, 0, 1, 0, 0, 0, 0, 0, 0, 0, 0, 0, 1, 0, 0, 0, 0, 0, 0, 0, 0, 0, 1, 0, 0, 0, 0, 0, 0, 0, 0, 0, 1] ++ List.replicate 30 0)),
  .inr (.inl (.int, List.replicate 9 0)),
  .inr (.inl (.int, List.replicate 35 0)),
  .inr (.inl (.int, List.replicate 35 0)),
  .inr (.inl (.int, List.replicate 245 0)),
  .inr (.inr (.inl (List.replicate 70 0))),
  .inr (.inl (.int, List.replicate 7 0))]
set_option maxRecDepth 100000 in
theorem z1_take_1 : zsts zP zFT zCD none 82 1500 (59, [some (.ref 124), some (.int 1), some (.int 8), none], [.ref 124], zσ_take0, 0, 0) = some (59, [some (.ref 124), some (.int 6), some (.int 1), none], [.ref 124], zσ_take1, 0, 0) := zeqs_eq (by decide +kernel)
def zσ_take2 : List zC := [.inl (0, [.ref 2, .ref 4, .ref 5, .ref 8, .ref 14, .ref 42, .ref 44, .ref 110, .ref 96]),
  .inl (1, [.ref 3, .int 0]),
  .inr (.inl (.char, List.replicate 100 0)),
  .inl (2, [.int 0, .int 0, .int 0]),
  .inl (3, [.ref 6, .ref 7, .int 1, .int 32]),
  .inr (.inl (.int, List.replicate 7 0)),
  .inr (.inl (.int, List.replicate 7 0)),
  .inl (5, [.ref 9, .ref 10, .ref 11, .ref 12, .ref 13, .int 0, .int 0]),
  .inr (.inl (.int, List.replicate 9 0)),
  .inr (.inl (.int, List.replicate 9 0)),
  .inr (.inl (.int, List.replicate 9 0)),
  .inr (.inl (.int, List.replicate 9 0)),
  .inr (.inl (.int, List.replicate 9 0)),
  .inl (6, [.ref 15, .ref 28, .ref 41, .int 0]),
  .inl (7, [.ref 16, .ref 27, .int 0]),
  .inr (.inr (.inr (.long, [17, 18, 19, 20, 21, 22, 23, 24, 25, 26]))),
  .inr (.inr (.inl (List.replicate 7 0))),
  .inr (.inr (.inl (List.replicate 7 0))),
  .inr (.inr (.inl (List.replicate 7 0))),
  .inr (.inr (.inl (List.replicate 7 0))),
  .inr (.inr (.inl (List.replicate 7 0))),
  .inr (.inr (.inl (List.replicate 7 0))),
  .inr (.inr (.inl (List.replicate 7 0))),
  .inr (.inr (.inl (List.replicate 7 0))),
  .inr (.inr (.inl (List.replicate 7 0))),
  .inr (.inr (.inl (List.replicate 7 0))),
  .inr (.inl (.int, List.replicate 7 (-1))),
  .inl (7, [.ref 29, .ref 40, .int 0]),
  .inr (.inr (.inr (.long, [30, 31, 32, 33, 34, 35, 36, 37, 38, 39]))),
  .inr (.inr (.inl (List.replicate 7 0))),
  .inr (.inr (.inl (List.replicate 7 0))),
  .inr (.inr (.inl (List.replicate 7 0))),
  .inr (.inr (.inl (List.replicate 7 0))),
  .inr (.inr (.inl (List.replicate 7 0))),
  .inr (.inr (.inl (List.replicate 7 0))),
  .inr (.inr (.inl (List.replicate 7 0))),
  .inr (.inr (.inl (List.replicate 7 0))),
  .inr (.inr (.inl (List.replicate 7 0))),
  .inr (.inr (.inl (List.replicate 7 0))),
  .inr (.inl (.int, List.replicate 7 0)),
  .inr (.inl (.int, List.replicate 9 0)),
  .inl (8, [.ref 43, .int 0]),
  .inr (.inl (.int, List.replicate 35 0)),
  .inl (9, [.ref 45, .ref 47, .ref 83]),
  .inl (8, [.ref 46, .int 0]),
  .inr (.inl (.int, List.replicate 35 0)),
  .inr (.inr (.inr (.int, [48, 49, 50, 51, 52, 53, 54, 55, 56, 57, 58, 59, 60, 61, 62, 63, 64, 65, 66, 67, 68, 69, 70, 71, 72, 73, 74, 75, 76, 77, 78, 79, 80, 81, 82]))),
  .inr (.inl (.int, List.replicate 7 0)),
  .inr (.inl (.int, List.replicate 7 0)),
  .inr (.inl (.int, List.replicate 7 0)),
  .inr (.inl (.int, List.replicate 7 0)),
  .inr (.inl (.int, List.replicate 7 0)),
  .inr (.inl (.int, List.replicate 7 0)),
  .inr (.inl (.int, List.replicate 7 0)),
  .inr (.inl (.int, List.replicate 7 0)),
  .inr (.inl (.int, List.replicate 7 0)),
  .inr (.inl (.int, List.replicate 7 0)),
  .inr (.inl (.int, List.replicate 7 0)),
  .inr (.inl (.int, List.replicate 7 0)),
  .inr (.inl (.int, List.replicate 7 0)),
  .inr (.inl (.int, List.replicate 7 0)),
  .inr (.inl (.int, List.replicate 7 0)),
  .inr (.inl (.int, List.replicate 7 0)),
  .inr (.inl (.int, List.replicate 7 0)),
  .inr (.inl (.int, List.replicate 7 0)),
  .inr (.inl (.int, List.replicate 7 0)),
  .inr (.inl (.int, List.replicate 7 0)),
  .inr (.inl (.int, List.replicate 7 0)),
  .inr (.inl (.int, List.replicate 7 0)),
  .inr (.inl (.int, List.replicate 7 0)),
  .inr (.inl (.int, List.replicate 7 0)),
  .inr (.inl (.int, List.replicate 7 0)),
  .inr (.inl (.int, List.replicate 7 0)),
  .inr (.inl (.int, List.replicate 7 0)),
  .inr (.inl (.int, List.replicate 7 0)),
  .inr (.inl (.int, List.replicate 7 0)),
  .inr (.inl (.int, List.replicate 7 0)),
  .inr (.inl (.int, List.replicate 7 0)),
  .inr (.inl (.int, List.replicate 7 0)),
  .inr (.inl (.int, List.replicate 7 0)),
  .inr (.inl (.int, List.replicate 7 0)),
  .inr (.inl (.int, List.replicate 7 0)),
  .inl (7, [.ref 84, .ref 95, .int 0]),
  .inr (.inr (.inr (.long, [85, 86, 87, 88, 89, 90, 91, 92, 93, 94]))),
  .inr (.inr (.inl (List.replicate 7 0))),
  .inr (.inr (.inl (List.replicate 7 0))),
  .inr (.inr (.inl (List.replicate 7 0))),
  .inr (.inr (.inl (List.replicate 7 0))),
  .inr (.inr (.inl (List.replicate 7 0))),
  .inr (.inr (.inl (List.replicate 7 0))),
  .inr (.inr (.inl (List.replicate 7 0))),
  .inr (.inr (.inl (List.replicate 7 0))),
  .inr (.inr (.inl (List.replicate 7 0))),
  .inr (.inr (.inl (List.replicate 7 0))),
  .inr (.inl (.int, List.replicate 7 0)),
  .inl (4, [.ref 97, .ref 107, .ref 108, .ref 109, .int 0, .int 0]),
  .inr (.inr (.inr (.int, [98, 99, 100, 101, 102, 103, 104, 105, 106]))),
  .inr (.inl (.int, List.replicate 7 0)),
  .inr (.inl (.int, List.replicate 7 0)),
  .inr (.inl (.int, List.replicate 7 0)),
  .inr (.inl (.int, List.replicate 7 0)),
  .inr (.inl (.int, List.replicate 7 0)),
  .inr (.inl (.int, List.replicate 7 0)),
  .inr (.inl (.int, List.replicate 7 0)),
  .inr (.inl (.int, List.replicate 7 0)),
  .inr (.inl (.int, List.replicate 7 0)),
  .inr (.inl (.int, List.replicate 9 0)),
  .inr (.inl (.int, List.replicate 10 0)),
  .inr (.inl (.int, List.replicate 10 0)),
  .inl (4, [.ref 111, .ref 121, .ref 122, .ref 123, .int 0, .int 0]),
  .inr (.inr (.inr (.int, [112, 113, 114, 115, 116, 117, 118, 119, 120]))),
  .inr (.inl (.int, List.replicate 7 0)),
  .inr (.inl (.int, List.replicate 7 0)),
  .inr (.inl (.int, List.replicate 7 0)),
  .inr (.inl (.int, List.replicate 7 0)),
  .inr (.inl (.int, List.replicate 7 0)),
  .inr (.inl (.int, List.replicate 7 0)),
  .inr (.inl (.int, List.replicate 7 0)),
  .inr (.inl (.int, List.replicate 7 0)),
  .inr (.inl (.int, List.replicate 7 0)),
  .inr (.inl (.int, List.replicate 9 0)),
  .inr (.inl (.int, List.replicate 10 0)),
  .inr (.inl (.int, List.replicate 10 0)),
  .inl (10, [.ref 125, .int 0, .int 0, .ref 126, .ref 127, .int 0, .ref 128, .ref 129, .int 0, .int 0, .ref 130, .ref 131, .ref 132, .ref 133, .int 0, .ref 134, .int 0, .ref 135, .ref 136, .int 0, .ref 137, .ref 138]),
  .inr (.inl (.char, List.replicate 100 0)),
  .inr (.inl (.int, List.replicate 77 0)),
  .inr (.inl (.boolean, List.replicate 121 0)),
  .inr (.inl (.int, List.replicate 7 0)),
  .inr (.inl (.int, List.replicate 7 0)),
  .inr (.inl (.int, List.replicate 63 0)),
  .inr (.inl (.boolean, List.replicate 81 0)),
  .inr (.inl (.boolean, [1, 0, 0, 0, 0, 0, 0, 0, 0, 0, 1, 0, 0, 0, 0, 0, 0, 0, 0, 0, 1, 0, 0, 0, 0, 0, 0, 0, 0, 0, 1, 0, 0, 0, 0, 0, 0, 0, 0, 0, 1, 0, 0, 0, 0, 0, 0, 0, 0, 0, 1, 0, 0, 0, 0, 0, 0, 0, 0, 0, 1, 0, 0, 0, 0, 0, 0, 0, 0, 0, 1, 0, 0, 0, 0, 0, 0, 0, 0, 0, 1])),
  .inr (.inl (.int, List.replicate 9 0)),
  .inr (.inl (.int, List.replicate 35 0)),
  .inr (.inl (.int, List.replicate 35 0)),
  .inr (.inl (.int, List.replicate 245 0)),
  .inr (.inr (.inl (List.replicate 70 0))),
  .inr (.inl (.int, List.replicate 7 0))]
set_option maxRecDepth 100000 in
theorem z1_take_2 : zsts zP zFT zCD none 82 1500 (59, [some (.ref 124), some (.int 6), some (.int 1), none], [.ref 124], zσ_take1, 0, 0) = some (207, [some (.ref 124), some (.int 0), some (.int 1), some (.int 3)], [.int 9, .ref 132, .int 12, .ref 132], zσ_take2, 0, 0) := zeqs_eq (by decide +kernel)
set_option maxRecDepth 100000 in
theorem z1_take_3 : zsts zP zFT zCD none 82 1500 (207, [some (.ref 124), some (.int 0), some (.int 1), some (.int 3)], [.int 9, .ref 132, .int 12, .ref 132], zσ_take2, 0, 0) = some (172, [some (.ref 124), some (.int 0), some (.int 6), some (.int 5)], [.int 9, .int 5], zσ_take2, 0, 0) := zeqs_eq (by decide +kernel)
set_option maxRecDepth 100000 in
theorem z1_take_4 : zsts zP zFT zCD none 82 1500 (172, [some (.ref 124), some (.int 0), some (.int 6), some (.int 5)], [.int 9, .int 5], zσ_take2, 0, 0) = some (185, [some (.ref 124), some (.int 1), some (.int 2), some (.int 4)], [.int 22, .ref 132], zσ_take2, 0, 0) := zeqs_eq (by decide +kernel)
set_option maxRecDepth 100000 in
theorem z1_take_5 : zsts zP zFT zCD none 82 1500 (185, [some (.ref 124), some (.int 1), some (.int 2), some (.int 4)], [.int 22, .ref 132], zσ_take2, 0, 0) = some (200, [some (.ref 124), some (.int 1), some (.int 7), some (.int 5)], [.ref 124, .int 68, .ref 132], zσ_take2, 0, 0) := zeqs_eq (by decide +kernel)
set_option maxRecDepth 100000 in
theorem z1_take_6 : zsts zP zFT zCD none 82 1500 (200, [some (.ref 124), some (.int 1), some (.int 7), some (.int 5)], [.ref 124, .int 68, .ref 132], zσ_take2, 0, 0) = some (231, [some (.ref 124), some (.int 2), some (.int 3), some (.int 4)], [.int 31, .ref 132], zσ_take2, 0, 0) := zeqs_eq (by decide +kernel)
set_option maxRecDepth 100000 in
theorem z1_take_7 : zsts zP zFT zCD none 82 1500 (231, [some (.ref 124), some (.int 2), some (.int 3), some (.int 4)], [.int 31, .ref 132], zσ_take2, 0, 0) = some (181, [some (.ref 124), some (.int 2), some (.int 8), some (.int 6)], [.int 9, .ref 132], zσ_take2, 0, 0) := zeqs_eq (by decide +kernel)
set_option maxRecDepth 100000 in
theorem z1_take_8 : zsts zP zFT zCD none 82 1500 (181, [some (.ref 124), some (.int 2), some (.int 8), some (.int 6)], [.int 9, .ref 132], zσ_take2, 0, 0) = some (192, [some (.ref 124), some (.int 3), some (.int 4), some (.int 5)], [.int 4, .int 9, .ref 132, .int 41, .ref 132], zσ_take2, 0, 0) := zeqs_eq (by decide +kernel)
set_option maxRecDepth 100000 in
theorem z1_take_9 : zsts zP zFT zCD none 82 1500 (192, [some (.ref 124), some (.int 3), some (.int 4), some (.int 5)], [.int 4, .int 9, .ref 132, .int 41, .ref 132], zσ_take2, 0, 0) = some (205, [some (.ref 124), some (.int 4), some (.int 0), some (.int 6)], [.int 9, .ref 132, .int 6, .ref 132], zσ_take2, 0, 0) := zeqs_eq (by decide +kernel)
set_option maxRecDepth 100000 in
theorem z1_take_10 : zsts zP zFT zCD none 82 1500 (205, [some (.ref 124), some (.int 4), some (.int 0), some (.int 6)], [.int 9, .ref 132, .int 6, .ref 132], zσ_take2, 0, 0) = some (169, [some (.ref 124), some (.int 4), some (.int 5), some (.int 6)], [], zσ_take2, 0, 0) := zeqs_eq (by decide +kernel)
set_option maxRecDepth 100000 in
theorem z1_take_11 : zsts zP zFT zCD none 82 1500 (169, [some (.ref 124), some (.int 4), some (.int 5), some (.int 6)], [], zσ_take2, 0, 0) = some (183, [some (.ref 124), some (.int 5), some (.int 1), some (.int 7)], [.int 9, .ref 132], zσ_take2, 0, 0) := zeqs_eq (by decide +kernel)
set_option maxRecDepth 100000 in
theorem z1_take_12 : zsts zP zFT zCD none 82 1500 (183, [some (.ref 124), some (.int 5), some (.int 1), some (.int 7)], [.int 9, .ref 132], zσ_take2, 0, 0) = some (185, [some (.ref 124), some (.int 5), some (.int 6), some (.int 6)], [.int 60, .ref 132], zσ_take2, 0, 0) := zeqs_eq (by decide +kernel)
set_option maxRecDepth 100000 in
theorem z1_take_13 : zsts zP zFT zCD none 82 1500 (185, [some (.ref 124), some (.int 5), some (.int 6), some (.int 6)], [.int 60, .ref 132], zσ_take2, 0, 0) = some (209, [some (.ref 124), some (.int 6), some (.int 2), some (.int 7)], [.int 24, .ref 132, .int 25, .ref 132], zσ_take2, 0, 0) := zeqs_eq (by decide +kernel)
set_option maxRecDepth 100000 in
theorem z1_take_14 : zsts zP zFT zCD none 82 1500 (209, [some (.ref 124), some (.int 6), some (.int 2), some (.int 7)], [.int 24, .ref 132, .int 25, .ref 132], zσ_take2, 0, 0) = some (231, [some (.ref 124), some (.int 6), some (.int 7), some (.int 6)], [.int 69, .ref 132], zσ_take2, 0, 0) := zeqs_eq (by decide +kernel)
set_option maxRecDepth 100000 in
theorem z1_take_15 : zsts zP zFT zCD none 82 1500 (231, [some (.ref 124), some (.int 6), some (.int 7), some (.int 6)], [.int 69, .ref 132], zσ_take2, 0, 0) = some (189, [some (.ref 124), some (.int 7), some (.int 3), some (.int 8)], [.ref 132, .int 35, .ref 132], zσ_take2, 0, 0) := zeqs_eq (by decide +kernel)
set_option maxRecDepth 100000 in
theorem z1_take_16 : zsts zP zFT zCD none 82 1500 (189, [some (.ref 124), some (.int 7), some (.int 3), some (.int 8)], [.ref 132, .int 35, .ref 132], zσ_take2, 0, 0) = some (192, [some (.ref 124), some (.int 7), some (.int 8), some (.int 7)], [.int 8, .int 9, .ref 132, .int 79, .ref 132], zσ_take2, 0, 0) := zeqs_eq (by decide +kernel)
set_option maxRecDepth 100000 in
theorem z1_take_17 : zsts zP zFT zCD none 82 1500 (192, [some (.ref 124), some (.int 7), some (.int 8), some (.int 7)], [.int 8, .int 9, .ref 132, .int 79, .ref 132], zσ_take2, 0, 0) = some (233, [some (.ref 124), some (.int 8), some (.int 4), some (.int 8)], [], zσ_take2, 0, 0) := zeqs_eq (by decide +kernel)
set_option maxRecDepth 100000 in
theorem z1_take_18 : zsts zP zFT zCD none 82 1248 (233, [some (.ref 124), some (.int 8), some (.int 4), some (.int 8)], [], zσ_take2, 0, 0) = some (252, [some (.ref 124), some (.int 9), some (.int 9), some (.int 9)], [.ref 124], zσ_take2, 0, 0) := zeqs_eq (by decide +kernel)
def zσ_take3 : List zC := [.inl (0, [.ref 2, .ref 4, .ref 5, .ref 8, .ref 14, .ref 42, .ref 44, .ref 110, .ref 96]),
  .inl (1, [.ref 3, .int 0]),
  .inr (.inl (.char, List.replicate 100 0)),
  .inl (2, [.int 0, .int 0, .int 0]),
  .inl (3, [.ref 6, .ref 7, .int 1, .int 32]),
  .inr (.inl (.int, List.replicate 7 0)),
  .inr (.inl (.int, List.replicate 7 0)),
  .inl (5, [.ref 9, .ref 10, .ref 11, .ref 12, .ref 13, .int 0, .int 0]),
  .inr (.inl (.int, List.replicate 9 0)),
  .inr (.inl (.int, List.replicate 9 0)),
  .inr (.inl (.int, List.replicate 9 0)),
  .inr (.inl (.int, List.replicate 9 0)),
  .inr (.inl (.int, List.replicate 9 0)),
  .inl (6, [.ref 15, .ref 28, .ref 41, .int 0]),
  .inl (7, [.ref 16, .ref 27, .int 0]),
  .inr (.inr (.inr (.long, [17, 18, 19, 20, 21, 22, 23, 24, 25, 26]))),
  .inr (.inr (.inl (List.replicate 7 0))),
  .inr (.inr (.inl (List.replicate 7 0))),
  .inr (.inr (.inl (List.replicate 7 0))),
  .inr (.inr (.inl (List.replicate 7 0))),
  .inr (.inr (.inl (List.replicate 7 0))),
  .inr (.inr (.inl (List.replicate 7 0))),
  .inr (.inr (.inl (List.replicate 7 0))),
  .inr (.inr (.inl (List.replicate 7 0))),
  .inr (.inr (.inl (List.replicate 7 0))),
  .inr (.inr (.inl (List.replicate 7 0))),
  .inr (.inl (.int, List.replicate 7 (-1))),
  .inl (7, [.ref 29, .ref 40, .int 0]),
  .inr (.inr (.inr (.long, [30, 31, 32, 33, 34, 35, 36, 37, 38, 39]))),
  .inr (.inr (.inl (List.replicate 7 0))),
  .inr (.inr (.inl (List.replicate 7 0))),
  .inr (.inr (.inl (List.replicate 7 0))),
  .inr (.inr (.inl (List.replicate 7 0))),
  .inr (.inr (.inl (List.replicate 7 0))),
  .inr (.inr (.inl (List.replicate 7 0))),
  .inr (.inr (.inl (List.replicate 7 0))),
  .inr (.inr (.inl (List.replicate 7 0))),
  .inr (.inr (.inl (List.replicate 7 0))),
  .inr (.inr (.inl (List.replicate 7 0))),
  .inr (.inl (.int, List.replicate 7 0)),
  .inr (.inl (.int, List.replicate 9 0)),
  .inl (8, [.ref 43, .int 0]),
  .inr (.inl (.int, List.replicate 35 0)),
  .inl (9, [.ref 45, .ref 47, .ref 83]),
  .inl (8, [.ref 46, .int 0]),
  .inr (.inl (.int, List.replicate 35 0)),
  .inr (.inr (.inr (.int, [48, 49, 50, 51, 52, 53, 54, 55, 56, 57, 58, 59, 60, 61, 62, 63, 64, 65, 66, 67, 68, 69, 70, 71, 72, 73, 74, 75, 76, 77, 78, 79, 80, 81, 82]))),
  .inr (.inl (.int, List.replicate 7 0)),
  .inr (.inl (.int, List.replicate 7 0)),
  .inr (.inl (.int, List.replicate 7 0)),
  .inr (.inl (.int, List.replicate 7 0)),
  .inr (.inl (.int, List.replicate 7 0)),
  .inr (.inl (.int, List.replicate 7 0)),
  .inr (.inl (.int, List.replicate 7 0)),
  .inr (.inl (.int, List.replicate 7 0)),
  .inr (.inl (.int, List.replicate 7 0)),
  .inr (.inl (.int, List.replicate 7 0)),
  .inr (.inl (.int, List.replicate 7 0)),
  .inr (.inl (.int, List.replicate 7 0)),
  .inr (.inl (.int, List.replicate 7 0)),
  .inr (.inl (.int, List.replicate 7 0)),
  .inr (.inl (.int, List.replicate 7 0)),
  .inr (.inl (.int, List.replicate 7 0)),
  .inr (.inl (.int, List.replicate 7 0)),
  .inr (.inl (.int, List.replicate 7 0)),
  .inr (.inl (.int, List.replicate 7 0)),
  .inr (.inl (.int, List.replicate 7 0)),
  .inr (.inl (.int, List.replicate 7 0)),
  .inr (.inl (.int, List.replicate 7 0)),
  .inr (.inl (.int, List.replicate 7 0)),
  .inr (.inl (.int, List.replicate 7 0)),
  .inr (.inl (.int, List.replicate 7 0)),
  .inr (.inl (.int, List.replicate 7 0)),
  .inr (.inl (.int, List.replicate 7 0)),
  .inr (.inl (.int, List.replicate 7 0)),
  .inr (.inl (.int, List.replicate 7 0)),
  .inr (.inl (.int, List.replicate 7 0)),
  .inr (.inl (.int, List.replicate 7 0)),
  .inr (.inl (.int, List.replicate 7 0)),
  .inr (.inl (.int, List.replicate 7 0)),
  .inr (.inl (.int, List.replicate 7 0)),
  .inr (.inl (.int, List.replicate 7 0)),
  .inl (7, [.ref 84, .ref 95, .int 0]),
  .inr (.inr (.inr (.long, [85, 86, 87, 88, 89, 90, 91, 92, 93, 94]))),
  .inr (.inr (.inl (List.replicate 7 0))),
  .inr (.inr (.inl (List.replicate 7 0))),
  .inr (.inr (.inl (List.replicate 7 0))),
  .inr (.inr (.inl (List.replicate 7 0))),
  .inr (.inr (.inl (List.replicate 7 0))),
  .inr (.inr (.inl (List.replicate 7 0))),
  .inr (.inr (.inl (List.replicate 7 0))),
  .inr (.inr (.inl (List.replicate 7 0))),
  .inr (.inr (.inl (List.replicate 7 0))),
  .inr (.inr (.inl (List.replicate 7 0))),
  .inr (.inl (.int, List.replicate 7 0)),
  .inl (4, [.ref 97, .ref 107, .ref 108, .ref 109, .int 0, .int 0]),
  .inr (.inr (.inr (.int, [98, 99, 100, 101, 102, 103, 104, 105, 106]))),
  .inr (.inl (.int, List.replicate 7 0)),
  .inr (.inl (.int, List.replicate 7 0)),
  .inr (.inl (.int, List.replicate 7 0)),
  .inr (.inl (.int, List.replicate 7 0)),
  .inr (.inl (.int, List.replicate 7 0)),
  .inr (.inl (.int, List.replicate 7 0)),
  .inr (.inl (.int, List.replicate 7 0)),
  .inr (.inl (.int, List.replicate 7 0)),
  .inr (.inl (.int, List.replicate 7 0)),
  .inr (.inl (.int, List.replicate 9 0)),
  .inr (.inl (.int, List.replicate 10 0)),
  .inr (.inl (.int, List.replicate 10 0)),
  .inl (4, [.ref 111, .ref 121, .ref 122, .ref 123, .int 0, .int 0]),
  .inr (.inr (.inr (.int, [112, 113, 114, 115, 116, 117, 118, 119, 120]))),
  .inr (.inl (.int, List.replicate 7 0)),
  .inr (.inl (.int, List.replicate 7 0)),
  .inr (.inl (.int, List.replicate 7 0)),
  .inr (.inl (.int, List.replicate 7 0)),
  .inr (.inl (.int, List.replicate 7 0)),
  .inr (.inl (.int, List.replicate 7 0)),
  .inr (.inl (.int, List.replicate 7 0)),
  .inr (.inl (.int, List.replicate 7 0)),
  .inr (.inl (.int, List.replicate 7 0)),
  .inr (.inl (.int, List.replicate 9 0)),
  .inr (.inl (.int, List.replicate 10 0)),
  .inr (.inl (.int, List.replicate 10 0)),
  .inl (10, [.ref 125, .int 0, .int 0, .ref 126, .ref 127, .int 0, .ref 128, .ref 129, .int 0, .int 0, .ref 130, .ref 131, .ref 132, .ref 133, .int 0, .ref 134, .int 0, .ref 135, .ref 136, .int 0, .ref 137, .ref 138]),
  .inr (.inl (.char, List.replicate 100 0)),
  .inr (.inl (.int, List.replicate 77 0)),
  .inr (.inl (.boolean, List.replicate 121 0)),
  .inr (.inl (.int, List.replicate 7 0)),
  .inr (.inl (.int, List.replicate 7 0)),
  .inr (.inl (.int, List.replicate 63 0)),
  .inr (.inl (.boolean, List.replicate 81 0)),
  .inr (.inl (.boolean, [1, 0, 0, 0, 0, 0, 0, 0, 0, 0, 1, 0, 0, 0, 0, 0, 0, 0, 0, 0, 1, 0, 0, 0, 0, 0, 0, 0, 0, 0, 1, 0, 0, 0, 0, 0, 0, 0, 0, 0, 1, 0, 0, 0, 0, 0, 0, 0, 0, 0, 1, 0, 0, 0, 0, 0, 0, 0, 0, 0, 1, 0, 0, 0, 0, 0, 0, 0, 0, 0, 1, 0, 0, 0, 0, 0, 0, 0, 0, 0, 1])),
  .inr (.inl (.int, [0, 1, 2, 3, 4, 5, 6, 7, 8])),
  .inr (.inl (.int, List.replicate 35 0)),
  .inr (.inl (.int, List.replicate 35 0)),
  .inr (.inl (.int, List.replicate 245 0)),
  .inr (.inr (.inl (List.replicate 70 0))),
  .inr (.inl (.int, List.replicate 7 0))]
set_option maxRecDepth 100000 in
theorem z1_take_19 : zrun zP zFT zCD 60000 none 71 (0, zent [.ref 124] 4, [], zσ_take2, 0, 0) = some (none, zσ_take3, 0, 0) := zeqo_eq (by decide +kernel)
set_option maxRecDepth 100000 in
theorem z1_take_20 : zsts zP zFT zCD none 82 7 (255, [some (.ref 124), some (.int 9), some (.int 9), some (.int 9)], [], zσ_take3, 0, 0) = some (266, [some (.ref 124), some (.int 9), some (.int 9), some (.int 9)], [.ref 124], zσ_take3, 0, 0) := zeqs_eq (by decide +kernel)
set_option maxRecDepth 100000 in
theorem z1_take_21 : zrun zP zFT zCD 60000 none 73 (0, zent [.ref 124] 3, [], zσ_take3, 0, 0) = some (some (.int 0), zσ_take3, 0, 0) := zeqo_eq (by decide +kernel)
set_option maxRecDepth 100000 in
theorem z1_take_22 : zsts zP zFT zCD none 82 1403 (269, [some (.ref 124), some (.int 9), some (.int 9), some (.int 9)], [.int 0], zσ_take3, 0, 0) = some (303, [some (.ref 124), some (.int 0), some (.int 128), some (.int 9)], [], zσ_take3, 0, 0) := zeqs_eq (by decide +kernel)
set_option maxRecDepth 100000 in
theorem z1_take : zR none 82 (0, zent [.ref 124] 4, [], zσ_readX, 0, 0) (none, zσ_take3, 0, 0) := by
  refine zRn_n 1500 z1_take_0 ?_
  refine zRn_n 1500 z1_take_1 ?_
  refine zRn_n 1500 z1_take_2 ?_
  refine zRn_n 1500 z1_take_3 ?_
  refine zRn_n 1500 z1_take_4 ?_
  refine zRn_n 1500 z1_take_5 ?_
  refine zRn_n 1500 z1_take_6 ?_
  refine zRn_n 1500 z1_take_7 ?_
  refine zRn_n 1500 z1_take_8 ?_
  refine zRn_n 1500 z1_take_9 ?_
  refine zRn_n 1500 z1_take_10 ?_
  refine zRn_n 1500 z1_take_11 ?_
  refine zRn_n 1500 z1_take_12 ?_
  refine zRn_n 1500 z1_take_13 ?_
  refine zRn_n 1500 z1_take_14 ?_
  refine zRn_n 1500 z1_take_15 ?_
  refine zRn_n 1500 z1_take_16 ?_
  refine zRn_n 1500 z1_take_17 ?_
  refine zRn_n 1248 z1_take_18 ?_
  refine zRn_call rfl ⟨_, z1_take_19⟩ rfl ?_
  refine zRn_n 7 z1_take_20 ?_
  refine zRn_call rfl ⟨_, z1_take_21⟩ rfl ?_
  refine zRn_n 1403 z1_take_22 ?_
  exact zRn_ret rfl
set_option maxRecDepth 100000 in
theorem z1_readM_0 : zsts zP zFT zCD none 83 1 (0, [some (.ref 124), none, none, none], [], zσ_readX, 0, 0) = some (1, [some (.ref 124), none, none, none], [.ref 124], zσ_readX, 0, 0) := zeqs_eq (by decide +kernel)
set_option maxRecDepth 100000 in
theorem z1_readM_1 : zrun zP zFT zCD 60000 none 65 (0, zent [.ref 124] 4, [], zσ_readX, 0, 0) = some (some (.int (-1)), zσ_readX, 0, 0) := zeqo_eq (by decide +kernel)
set_option maxRecDepth 100000 in
theorem z1_readM_2 : zsts zP zFT zCD none 83 1225 (4, [some (.ref 124), none, none, none], [.int (-1)], zσ_readX, 0, 0) = some (45, [some (.ref 124), some (.int (-1)), some (.int 121), none], [.ref 124], zσ_readX, 0, 0) := zeqs_eq (by decide +kernel)
set_option maxRecDepth 100000 in
theorem z1_readM_3 : zrun zP zFT zCD 60000 none 66 (0, zent [.ref 124] 2, [], zσ_readX, 0, 0) = some (none, zσ_readX, 0, 0) := zeqo_eq (by decide +kernel)
set_option maxRecDepth 100000 in
theorem z1_readM_4 : zsts zP zFT zCD none 83 16 (48, [some (.ref 124), some (.int (-1)), some (.int 121), none], [], zσ_readX, 0, 0) = some (107, [some (.ref 124), some (.int (-1)), some (.int 1), some (.int 0)], [.ref 124], zσ_readX, 0, 0) := zeqs_eq (by decide +kernel)
def zσ_readM0 : List zC := [.inl (0, [.ref 2, .ref 4, .ref 5, .ref 8, .ref 14, .ref 42, .ref 44, .ref 110, .ref 96]),
  .inl (1, [.ref 3, .int 0]),
  .inr (.inl (.char, List.replicate 100 0)),
  .inl (2, [.int 0, .int 0, .int 0]),
  .inl (3, [.ref 6, .ref 7, .int 1, .int 32]),
  .inr (.inl (.int, List.replicate 7 0)),
  .inr (.inl (.int, List.replicate 7 0)),
  .inl (5, [.ref 9, .ref 10, .ref 11, .ref 12, .ref 13, .int 0, .int 0]),
  .inr (.inl (.int, List.replicate 9 0)),
  .inr (.inl (.int, List.replicate 9 0)),
  .inr (.inl (.int, List.replicate 9 0)),
  .inr (.inl (.int, List.replicate 9 0)),
  .inr (.inl (.int, List.replicate 9 0)),
  .inl (6, [.ref 15, .ref 28, .ref 41, .int 0]),
  .inl (7, [.ref 16, .ref 27, .int 0]),
  .inr (.inr (.inr (.long, [17, 18, 19, 20, 21, 22, 23, 24, 25, 26]))),
  .inr (.inr (.inl (List.replicate 7 0))),
  .inr (.inr (.inl (List.replicate 7 0))),
  .inr (.inr (.inl (List.replicate 7 0))),
  .inr (.inr (.inl (List.replicate 7 0))),
  .inr (.inr (.inl (List.replicate 7 0))),
  .inr (.inr (.inl (List.replicate 7 0))),
  .inr (.inr (.inl (List.replicate 7 0))),
  .inr (.inr (.inl (List.replicate 7 0))),
  .inr (.inr (.inl (List.replicate 7 0))),
  .inr (.inr (.inl (List.replicate 7 0))),
  .inr (.inl (.int, List.replicate 7 (-1))),
  .inl (7, [.ref 29, .ref 40, .int 0]),
  .inr (.inr (.inr (.long, [30, 31, 32, 33, 34, 35, 36, 37, 38, 39]))),
  .inr (.inr (.inl (List.replicate 7 0))),
  .inr (.inr (.inl (List.replicate 7 0))),
  .inr (.inr (.inl (List.replicate 7 0))),
  .inr (.inr (.inl (List.replicate 7 0))),
  .inr (.inr (.inl (List.replicate 7 0))),
  .inr (.inr (.inl (List.replicate 7 0))),
  .inr (.inr (.inl (List.replicate 7 0))),
  .inr (.inr (.inl (List.replicate 7 0))),
  .inr (.inr (.inl (List.replicate 7 0))),
  .inr (.inr (.inl (List.replicate 7 0))),
  .inr (.inl (.int, List.replicate 7 0)),
  .inr (.inl (.int, List.replicate 9 0)),
  .inl (8, [.ref 43, .int 0]),
  .inr (.inl (.int, List.replicate 35 0)),
  .inl (9, [.ref 45, .ref 47, .ref 83]),
  .inl (8, [.ref 46, .int 0]),
  .inr (.inl (.int, List.replicate 35 0)),
  .inr (.inr (.inr (.int, [48, 49, 50, 51, 52, 53, 54, 55, 56, 57, 58, 59, 60, 61, 62, 63, 64, 65, 66, 67, 68, 69, 70, 71, 72, 73, 74, 75, 76, 77, 78, 79, 80, 81, 82]))),
  .inr (.inl (.int, List.replicate 7 0)),
  .inr (.inl (.int, List.replicate 7 0)),
  .inr (.inl (.int, List.replicate 7 0)),
  .inr (.inl (.int, List.replicate 7 0)),
  .inr (.inl (.int, List.replicate 7 0)),
  .inr (.inl (.int, List.replicate 7 0)),
  .inr (.inl (.int, List.replicate 7 0)),
  .inr (.inl (.int, List.replicate 7 0)),
  .inr (.inl (.int, List.replicate 7 0)),
  .inr (.inl (.int, List.replicate 7 0)),
  .inr (.inl (.int, List.replicate 7 0)),
  .inr (.inl (.int, List.replicate 7 0)),
  .inr (.inl (.int, List.replicate 7 0)),
  .inr (.inl (.int, List.replicate 7 0)),
  .inr (.inl (.int, List.replicate 7 0)),
  .inr (.inl (.int, List.replicate 7 0)),
  .inr (.inl (.int, List.replicate 7 0)),
  .inr (.inl (.int, List.replicate 7 0)),
  .inr (.inl (.int, List.replicate 7 0)),
  .inr (.inl (.int, List.replicate 7 0)),
  .inr (.inl (.int, List.replicate 7 0)),
  .inr (.inl (.int, List.replicate 7 0)),
  .inr (.inl (.int, List.replicate 7 0)),
  .inr (.inl (.int, List.replicate 7 0)),
  .inr (.inl (.int, List.replicate 7 0)),
  .inr (.inl (.int, List.replicate 7 0)),
  .inr (.inl (.int, List.replicate 7 0)),
  .inr (.inl (.int, List.replicate 7 0)),
  .inr (.inl (.int, List.replicate 7 0)),
  .inr (.inl (.int, List.replicate 7 0)),
  .inr (.inl (.int, List.replicate 7 0)),
  .inr (.inl (.int, List.replicate 7 0)),
  .inr (.inl (.int, List.replicate 7 0)),
  .inr (.inl (.int, List.replicate 7 0)),
  .inr (.inl (.int, List.replicate 7 0)),
  .inl (7, [.ref 84, .ref 95, .int 0]),
  .inr (.inr (.inr (.long, [85, 86, 87, 88, 89, 90, 91, 92, 93, 94]))),
  .inr (.inr (.inl (List.replicate 7 0))),
  .inr (.inr (.inl (List.replicate 7 0))),
  .inr (.inr (.inl (List.replicate 7 0))),
  .inr (.inr (.inl (List.replicate 7 0))),
  .inr (.inr (.inl (List.replicate 7 0))),
  .inr (.inr (.inl (List.replicate 7 0))),
  .inr (.inr (.inl (List.replicate 7 0))),
  .inr (.inr (.inl (List.replicate 7 0))),
  .inr (.inr (.inl (List.replicate 7 0))),
  .inr (.inr (.inl (List.replicate 7 0))),
  .inr (.inl (.int, List.replicate 7 0)),
  .inl (4, [.ref 97, .ref 107, .ref 108, .ref 109, .int 0, .int 0]),
  .inr (.inr (.inr (.int, [98, 99, 100, 101, 102, 103, 104, 105, 106]))),
  .inr (.inl (.int, List.replicate 7 0)),
  .inr (.inl (.int, List.replicate 7 0)),
  .inr (.inl (.int, List.replicate 7 0)),
  .inr (.inl (.int, List.replicate 7 0)),
  .inr (.inl (.int, List.replicate 7 0)),
  .inr (.inl (.int, List.replicate 7 0)),
  .inr (.inl (.int, List.replicate 7 0)),
  .inr (.inl (.int, List.replicate 7 0)),
  .inr (.inl (.int, List.replicate 7 0)),
  .inr (.inl (.int, List.replicate 9 0)),
  .inr (.inl (.int, List.replicate 10 0)),
  .inr (.inl (.int, List.replicate 10 0)),
  .inl (4, [.ref 111, .ref 121, .ref 122, .ref 123, .int 0, .int 0]),
  .inr (.inr (.inr (.int, [112, 113, 114, 115, 116, 117, 118, 119, 120]))),
  .inr (.inl (.int, List.replicate 7 0)),
  .inr (.inl (.int, List.replicate 7 0)),
  .inr (.inl (.int, List.replicate 7 0)),
  .inr (.inl (.int, List.replicate 7 0)),
  .inr (.inl (.int, List.replicate 7 0)),
  .inr (.inl (.int, List.replicate 7 0)),
  .inr (.inl (.int, List.replicate 7 0)),
  .inr (.inl (.int, List.replicate 7 0)),
  .inr (.inl (.int, List.replicate 7 0)),
  .inr (.inl (.int, List.replicate 9 0)),
  .inr (.inl (.int, List.replicate 10 0)),
  .inr (.inl (.int, List.replicate 10 0)),
  .inl (10, [.ref 125, .int 0, .int 0, .ref 126, .ref 127, .int 0, .ref 128, .ref 129, .int 0, .int 0, .ref 130, .ref 131, .ref 132, .ref 133, .int 0, .ref 134, .int 0, .ref 135, .ref 136, .int 0, .ref 137, .ref 138]),
  .inr (.inl (.char, List.replicate 100 0)),
  .inr (.inl (.int, List.replicate 77 0)),
  .inr (.inl (.boolean, List.replicate 121 0)),
  .inr (.inl (.int, List.replicate 7 0)),
  .inr (.inl (.int, List.replicate 7 0)),
  .inr (.inl (.int, List.replicate 63 0)),
  .inr (.inl (.boolean, List.replicate 81 0)),
  .inr (.inl (.boolean, [1, 0, 0, 0, 0, 0, 0, 0, 0, 0, 1, 0, 0, 0, 0, 0, 0, 0, 0, 0, 1, 0, 0, 0, 0, 0, 0, 0, 0, 0, 1, 0, 0, 0, 0, 0, 0, 0, 0, 0, 1, 0, 0, 0, 0, 0, 0, 0, 0, 0, 1, 0, 0, 0, 0, 0, 0, 0, 0, 0, 1, 0, 0, 0, 0, 0, 0, 0, 0, 0, 1, 0, 0, 0, 0, 0, 0, 0, 0, 0, 1])),
  .inr (.inl (.int, [0, 1, 2, 3, 4, 5, 6, 7, 8])),
  .inr (.inl (.int, List.replicate 35 0)),
  .inr (.inl (.int, List.replicate 35 0)),
  .inr (.inl (.int, List.replicate 245 0)),
  .inr (.inr (.inl (List.replicate 70 0))),
  .inr (.inl (.int, List.replicate 7 0))]
set_option maxRecDepth 100000 in
theorem z1_readM_6 : zsts zP zFT zCD none 83 2 (110, [some (.ref 124), some (.int (-1)), some (.int 1), some (.int 0)], [], zσ_readM0, 0, 0) = some (114, [some (.ref 124), some (.int (-1)), some (.int 1), some (.int 0)], [.int 0], zσ_readM0, 0, 0) := zeqs_eq (by decide +kernel)
set_option maxRecDepth 100000 in
theorem z1_readM : zR none 83 (0, zent [.ref 124] 4, [], zσ_readX, 0, 0) (some (.int 0), zσ_readM0, 0, 0) := by
  refine zRn_n 1 z1_readM_0 ?_
  refine zRn_call rfl ⟨_, z1_readM_1⟩ rfl ?_
  refine zRn_n 1225 z1_readM_2 ?_
  refine zRn_call rfl ⟨_, z1_readM_3⟩ rfl ?_
  refine zRn_n 16 z1_readM_4 ?_
  refine zRn_call rfl z1_take rfl ?_
  refine zRn_n 2 z1_readM_6 ?_
  exact zRn_ret rfl
set_option maxRecDepth 100000 in
theorem z1_reacX : zrun zP zFT zCD 60000 none 84 (0, zent [.ref 1] 1, [], zσ0, 0, 0) = some (some (.int 0), zσ0, 0, 0) := zeqo_eq (by decide +kernel)
set_option maxRecDepth 100000 in
theorem z1_reacM : zrun zP zFT zCD 60000 none 85 (0, zent [.ref 124] 1, [], zσ0, 0, 0) = some (some (.int 0), zσ0, 0, 0) := zeqo_eq (by decide +kernel)
set_option maxRecDepth 100000 in
theorem z1_complX : zrun zP zFT zCD 60000 none 86 (0, zent [.ref 1] 1, [], zσ0, 0, 0) = some (some (.int 0), zσ0, 0, 0) := zeqo_eq (by decide +kernel)
set_option maxRecDepth 100000 in
theorem z1_complM : zrun zP zFT zCD 60000 none 87 (0, zent [.ref 124] 1, [], zσ0, 0, 0) = some (some (.int 0), zσ0, 0, 0) := zeqo_eq (by decide +kernel)
set_option maxRecDepth 100000 in
theorem z1_occX : zrun zP zFT zCD 60000 none 92 (0, zent [.ref 1] 1, [], zσ0, 0, 0) = some (some (.int 0), zσ0, 0, 0) := zeqo_eq (by decide +kernel)
set_option maxRecDepth 100000 in
theorem z1_occM : zrun zP zFT zCD 60000 none 73 (0, zent [.ref 124] 3, [], zσ0, 0, 0) = some (some (.int 0), zσ0, 0, 0) := zeqo_eq (by decide +kernel)
set_option maxRecDepth 100000 in
theorem z1_linkX : zrun zP zFT zCD 60000 none 93 (0, zent [.ref 1] 1, [], zσ0, 0, 0) = some (some (.int 0), zσ0, 0, 0) := zeqo_eq (by decide +kernel)
set_option maxRecDepth 100000 in
theorem z1_linkM : zrun zP zFT zCD 60000 none 94 (0, zent [.ref 124] 3, [], zσ0, 0, 0) = some (some (.int 0), zσ0, 0, 0) := zeqo_eq (by decide +kernel)
set_option maxRecDepth 100000 in
theorem z1_strongX : zrun zP zFT zCD 60000 none 97 (0, zent [.ref 1] 1, [], zσ0, 0, 0) = some (some (.int 0), zσ0, 0, 0) := zeqo_eq (by decide +kernel)
set_option maxRecDepth 100000 in
theorem z1_strongM : zrun zP zFT zCD 60000 none 99 (0, zent [.ref 124] 3, [], zσ0, 0, 0) = some (some (.int 0), zσ0, 0, 0) := zeqo_eq (by decide +kernel)
set_option maxRecDepth 100000 in
theorem z1_rankX : zrun zP zFT zCD 60000 none 102 (0, zent [.ref 1] 1, [], zσ0, 0, 0) = some (some (.int 0), zσ0, 0, 0) := zeqo_eq (by decide +kernel)
set_option maxRecDepth 100000 in
theorem z1_rankM : zrun zP zFT zCD 60000 none 103 (0, zent [.ref 124] 1, [], zσ0, 0, 0) = some (some (.int 0), zσ0, 0, 0) := zeqo_eq (by decide +kernel)
set_option maxRecDepth 100000 in
theorem z1_nsiphX : zrun zP zFT zCD 60000 none 106 (0, zent [.ref 1] 1, [], zσ0, 0, 0) = some (some (.int 0), zσ0, 0, 0) := zeqo_eq (by decide +kernel)
set_option maxRecDepth 100000 in
theorem z1_nsiphM : zrun zP zFT zCD 60000 none 107 (0, zent [.ref 124] 1, [], zσ0, 0, 0) = some (some (.int 0), zσ0, 0, 0) := zeqo_eq (by decide +kernel)
set_option maxRecDepth 100000 in
theorem z1_sumsX : zrun zP zFT zCD 60000 none 114 (0, zent [.ref 1] 1, [], zσ0, 0, 0) = some (some (.int 0), zσ0, 0, 0) := zeqo_eq (by decide +kernel)
set_option maxRecDepth 100000 in
theorem z1_sumsM : zrun zP zFT zCD 60000 none 115 (0, zent [.ref 124] 1, [], zσ0, 0, 0) = some (some (.int 0), zσ0, 0, 0) := zeqo_eq (by decide +kernel)
set_option maxRecDepth 100000 in
theorem z1_flagsX : zrun zP zFT zCD 60000 none 125 (0, zent [.ref 1] 2, [], zσ0, 0, 0) = some (some (.int 31), zσ0, 0, 0) := zeqo_eq (by decide +kernel)
set_option maxRecDepth 100000 in
theorem z1_flagsM : zrun zP zFT zCD 60000 none 127 (0, zent [.ref 124] 6, [], zσ0, 0, 0) = some (some (.int 31), zσ0, 0, 0) := zeqo_eq (by decide +kernel)
theorem z1_defX (x : Int32) (h : x = -1) : zR none 104 (0, zent [.ref 1, .int x] 2, [], zσ0, 0, 0) (some (.int 0), zσ0, 0, 0) := by
  subst h
  exact zRn_n 14 rfl (zRn_ret rfl)
theorem z1_defX2 (x : Int32) (h : ¬ x = -1) : zR none 104 (0, zent [.ref 1, .int x] 2, [], zσ0, 0, 0) (some (.int (-1)), zσ0, 0, 0) := by
  refine zRn_n 3 rfl ?_
  refine zR_ne (fun h2 => absurd h2 h) (fun _ => ?_)
  refine zRn_n 2 rfl ?_
  refine zR_lt (fun h => zRn_n 1 rfl (zRn_ret rfl)) (fun h => ?_)
  refine zRn_n 5 rfl ?_
  exact zR_lt (fun h2 => absurd h2 h) (fun h2 => zRn_n 1 rfl (zRn_ret rfl))
theorem z1_defM (x : Int32) (h : x = -1) : zR none 105 (0, zent [.ref 124, .int x] 5, [], zσ0, 0, 0) (some (.int 0), zσ0, 0, 0) := by
  subst h
  refine zRn_n 6 rfl ?_
  refine zRn_call rfl ⟨_, z1_linkM⟩ rfl ?_
  refine zRn_n 2 rfl ?_
  refine zRn_call rfl ⟨_, z1_rankM⟩ rfl ?_
  exact zRn_n 1 rfl (zRn_ret rfl)
theorem z1_defM2 (x : Int32) (h : ¬ x = -1) : zR none 105 (0, zent [.ref 124, .int x] 5, [], zσ0, 0, 0) (some (.int (-1)), zσ0, 0, 0) := by
  refine zRn_n 3 rfl ?_
  refine zR_ne (fun h2 => absurd h2 h) (fun _ => ?_)
  exact zRn_n 14 rfl (zRn_ret rfl)
def zσT (x : Int32) : List zC := (zσ0.set 2 (.inr (.inl (.char, (List.replicate 100 0).set 0 (vp_nar .char x))))).set 1 (.inl (1, [.ref 3, .int (0 + Int32.ofInt 1)]))
def zσU (x : Int32) : List zC := ((zσT x).set 124 (.inr (.inl (.char, (List.replicate 100 0).set 0 (vp_nar .char x))))).set 123 (.inl (10, [.ref 125, .int (0 + Int32.ofInt 1), .int 0, .ref 126, .ref 127, .int 0, .ref 128, .ref 129, .int 0, .int 0, .ref 130, .ref 131, .ref 132, .ref 133, .int 0, .ref 134, .int 0, .ref 135, .ref 136, .int 0, .ref 137, .ref 138]))
theorem z1_appN (x : Int32) (h : x < 32 ∨ 126 < x) : zR none 11 (0, zent [.ref 2, .int x] 2, [], zσ0, 0, 0) (some (.int 0), zσ0, 0, 0) := by
  refine zRn_n 3 rfl ?_
  refine zR_lt (fun _ => zRn_n 1 rfl (zRn_ret rfl)) (fun h1 => ?_)
  refine zRn_n 3 rfl ?_
  exact zR_gt (fun _ => zRn_n 1 rfl (zRn_ret rfl)) (fun h2 => absurd h (fun q => q.elim h1 h2))
theorem z1_appY (x : Int32) (h1 : ¬ x < 32) (h2 : ¬ 126 < x) : zR none 11 (0, zent [.ref 2, .int x] 2, [], zσ0, 0, 0) (some (.int 1), zσT x, 0, 0) := by
  refine zRn_n 3 rfl ?_
  refine zR_lt (fun h => absurd h h1) (fun _ => ?_)
  refine zRn_n 3 rfl ?_
  refine zR_gt (fun h => absurd h h2) (fun _ => ?_)
  exact zRn_n 17 rfl (zRn_ret rfl)
theorem z1_typeXN (x : Int32) (h : x < 32 ∨ 126 < x) : zR none 12 (0, zent [.ref 1, .int x] 2, [], zσ0, 0, 0) (some (.int 0), zσ0, 0, 0) := by
  exact zRn_n 3 rfl (zRn_call rfl (z1_appN x h) rfl (zRn_ret rfl))
theorem z1_typeXY (x : Int32) (h1 : ¬ x < 32) (h2 : ¬ 126 < x) : zR none 12 (0, zent [.ref 1, .int x] 2, [], zσ0, 0, 0) (some (.int 1), zσT x, 0, 0) := zRn_n 3 rfl (zRn_call rfl (z1_appY x h1 h2) rfl (zRn_ret rfl))
theorem z1_typeMN (x : Int32) (h : x < 32 ∨ 126 < x) : zR none 13 (0, zent [.ref 124, .int x] 2, [], zσ0, 0, 0) (some (.int 0), zσ0, 0, 0) := by
  refine zRn_n 3 rfl ?_
  refine zR_lt (fun _ => zRn_n 1 rfl (zRn_ret rfl)) (fun h1 => ?_)
  refine zRn_n 3 rfl ?_
  exact zR_gt (fun _ => zRn_n 1 rfl (zRn_ret rfl)) (fun h2 => absurd h (fun q => q.elim h1 h2))
theorem z1_typeMY (x : Int32) (h1 : ¬ x < 32) (h2 : ¬ 126 < x) : zR none 13 (0, zent [.ref 124, .int x] 2, [], (zσT x), 0, 0) (some (.int 1), zσU x, 0, 0) := by
  refine zRn_n 3 rfl ?_
  refine zR_lt (fun h => absurd h h1) (fun _ => ?_)
  refine zRn_n 3 rfl ?_
  refine zR_gt (fun h => absurd h h2) (fun _ => ?_)
  exact zRn_n 17 rfl (zRn_ret rfl)
end
section
/-! The law on a script of at most three ints. -/
theorem z2_c1 : (Int32.ofNat 3 - Int32.ofInt 3) < ((0 : Int32) + Int32.ofInt 3) := by decide +kernel
theorem z2_c2 : ¬ (Int32.ofNat 3 - Int32.ofInt 3) < (0 : Int32) := by decide +kernel
theorem z2_end (a b c : Int32) (σ : List zC) : zR (some [a, b, c]) 128 (498, [some (.ref 0), some (.ref 1), some (.ref 124), some (.int 0)], [], σ, 138, 1998) (some (.int 1), σ, 138, 1998) := by
  refine zRn_n 8 rfl ?_
  exact zR_gt (fun _ => zRn_n 1 rfl (zRn_ret rfl)) (fun h => absurd z2_c1 h)
theorem z2_0 (a b c : Int32) : ∃ σ' : List zC, zR (some [a, b, c]) 128 (128, [some (.ref 0), some (.ref 1), some (.ref 124), some (.int 0)], [], zσ0, 138, 1998) (some (.int 1), σ', 138, 1998) := by
  by_cases h : (b.toUInt32 % 65536).toInt32 < 32 ∨ 126 < (b.toUInt32 % 65536).toInt32
  · exact ⟨_, zRn_n 7 rfl (zRn_call rfl (z1_typeXN _ h) rfl (zRn_n 7 rfl (zRn_call rfl (z1_typeMN _ h) rfl (zRn_n 1 rfl (z2_end a b c _)))))⟩
  · exact ⟨_, zRn_n 7 rfl (zRn_call rfl (z1_typeXY _ (fun q => h (Or.inl q)) (fun q => h (Or.inr q))) rfl (zRn_n 7 rfl (zRn_call rfl (z1_typeMY _ (fun q => h (Or.inl q)) (fun q => h (Or.inr q))) rfl (zRn_n 1 rfl (z2_end a b c _)))))⟩
theorem z2_1 (a b c : Int32) : ∃ σ' : List zC, zR (some [a, b, c]) 128 (153, [some (.ref 0), some (.ref 1), some (.ref 124), some (.int 0)], [], zσ0, 138, 1998) (some (.int 1), σ', 138, 1998) := ⟨_, zRn_n 1 rfl (zRn_call rfl ⟨_, z1_clearX⟩ rfl (zRn_n 1 rfl (zRn_call rfl ⟨_, z1_clearM⟩ rfl (zRn_n 1 rfl (z2_end a b c _)))))⟩
theorem z2_2 (a b c : Int32) : ∃ σ' : List zC, zR (some [a, b, c]) 128 (164, [some (.ref 0), some (.ref 1), some (.ref 124), some (.int 0)], [], zσ0, 138, 1998) (some (.int 1), σ', 138, 1998) := ⟨_, zRn_n 1 rfl (zRn_call rfl ⟨_, z1_readX⟩ rfl (zRn_n 1 rfl (zRn_call rfl z1_readM rfl (zRn_n 1 rfl (z2_end a b c _)))))⟩
theorem z2_3 (a b c : Int32) : ∃ σ' : List zC, zR (some [a, b, c]) 128 (177, [some (.ref 0), some (.ref 1), some (.ref 124), some (.int 0)], [], zσ0, 138, 1998) (some (.int 1), σ', 138, 1998) := ⟨_, zRn_n 1 rfl (zRn_call rfl ⟨_, z1_reacX⟩ rfl (zRn_n 1 rfl (zRn_call rfl ⟨_, z1_reacM⟩ rfl (zRn_n 1 rfl (z2_end a b c _)))))⟩
theorem z2_4 (a b c : Int32) : ∃ σ' : List zC, zR (some [a, b, c]) 128 (190, [some (.ref 0), some (.ref 1), some (.ref 124), some (.int 0)], [], zσ0, 138, 1998) (some (.int 1), σ', 138, 1998) := ⟨_, zRn_n 1 rfl (zRn_call rfl ⟨_, z1_complX⟩ rfl (zRn_n 1 rfl (zRn_call rfl ⟨_, z1_complM⟩ rfl (zRn_n 1 rfl (z2_end a b c _)))))⟩
theorem z2_5 (a b c : Int32) : ∃ σ' : List zC, zR (some [a, b, c]) 128 (203, [some (.ref 0), some (.ref 1), some (.ref 124), some (.int 0)], [], zσ0, 138, 1998) (some (.int 1), σ', 138, 1998) := ⟨_, zRn_n 11 rfl (zRn_call rfl (z1_coefX b c) rfl (zRn_n 11 rfl (zRn_call rfl (z1_coefM b c) rfl (zRn_n 1 rfl (z2_end a b c _)))))⟩
theorem z2_6 (a b c : Int32) : ∃ σ' : List zC, zR (some [a, b, c]) 128 (236, [some (.ref 0), some (.ref 1), some (.ref 124), some (.int 0)], [], zσ0, 138, 1998) (some (.int 1), σ', 138, 1998) := ⟨_, zRn_n 1 rfl (zRn_call rfl ⟨_, z1_occX⟩ rfl (zRn_n 1 rfl (zRn_call rfl ⟨_, z1_occM⟩ rfl (zRn_n 1 rfl (z2_end a b c _)))))⟩
theorem z2_7 (a b c : Int32) : ∃ σ' : List zC, zR (some [a, b, c]) 128 (249, [some (.ref 0), some (.ref 1), some (.ref 124), some (.int 0)], [], zσ0, 138, 1998) (some (.int 1), σ', 138, 1998) := ⟨_, zRn_n 1 rfl (zRn_call rfl ⟨_, z1_linkX⟩ rfl (zRn_n 1 rfl (zRn_call rfl ⟨_, z1_linkM⟩ rfl (zRn_n 1 rfl (z2_end a b c _)))))⟩
theorem z2_8 (a b c : Int32) : ∃ σ' : List zC, zR (some [a, b, c]) 128 (262, [some (.ref 0), some (.ref 1), some (.ref 124), some (.int 0)], [], zσ0, 138, 1998) (some (.int 1), σ', 138, 1998) := ⟨_, zRn_n 6 rfl (zRn_call rfl (z1_classX b) rfl (zRn_n 6 rfl (zRn_call rfl (z1_classM b) rfl (zRn_n 1 rfl (z2_end a b c _)))))⟩
theorem z2_9 (a b c : Int32) : ∃ σ' : List zC, zR (some [a, b, c]) 128 (285, [some (.ref 0), some (.ref 1), some (.ref 124), some (.int 0)], [], zσ0, 138, 1998) (some (.int 1), σ', 138, 1998) := ⟨_, zRn_n 1 rfl (zRn_call rfl ⟨_, z1_strongX⟩ rfl (zRn_n 1 rfl (zRn_call rfl ⟨_, z1_strongM⟩ rfl (zRn_n 1 rfl (z2_end a b c _)))))⟩
theorem z2_10 (a b c : Int32) : ∃ σ' : List zC, zR (some [a, b, c]) 128 (298, [some (.ref 0), some (.ref 1), some (.ref 124), some (.int 0)], [], zσ0, 138, 1998) (some (.int 1), σ', 138, 1998) := ⟨_, zRn_n 6 rfl (zRn_call rfl (z1_termX b) rfl (zRn_n 6 rfl (zRn_call rfl (z1_termM b) rfl (zRn_n 1 rfl (z2_end a b c _)))))⟩
theorem z2_11 (a b c : Int32) : ∃ σ' : List zC, zR (some [a, b, c]) 128 (321, [some (.ref 0), some (.ref 1), some (.ref 124), some (.int 0)], [], zσ0, 138, 1998) (some (.int 1), σ', 138, 1998) := ⟨_, zRn_n 1 rfl (zRn_call rfl ⟨_, z1_rankX⟩ rfl (zRn_n 1 rfl (zRn_call rfl ⟨_, z1_rankM⟩ rfl (zRn_n 1 rfl (z2_end a b c _)))))⟩
theorem z2_12 (a b c : Int32) : ∃ σ' : List zC, zR (some [a, b, c]) 128 (334, [some (.ref 0), some (.ref 1), some (.ref 124), some (.int 0)], [], zσ0, 138, 1998) (some (.int 1), σ', 138, 1998) := by
  by_cases h : b = -1
  · exact ⟨_, zRn_n 6 rfl (zRn_call rfl (z1_defX b h) rfl (zRn_n 6 rfl (zRn_call rfl (z1_defM b h) rfl (zRn_n 1 rfl (z2_end a b c _)))))⟩
  · exact ⟨_, zRn_n 6 rfl (zRn_call rfl (z1_defX2 b h) rfl (zRn_n 6 rfl (zRn_call rfl (z1_defM2 b h) rfl (zRn_n 1 rfl (z2_end a b c _)))))⟩
theorem z2_13 (a b c : Int32) : ∃ σ' : List zC, zR (some [a, b, c]) 128 (357, [some (.ref 0), some (.ref 1), some (.ref 124), some (.int 0)], [], zσ0, 138, 1998) (some (.int 1), σ', 138, 1998) := ⟨_, zRn_n 1 rfl (zRn_call rfl ⟨_, z1_nsiphX⟩ rfl (zRn_n 1 rfl (zRn_call rfl ⟨_, z1_nsiphM⟩ rfl (zRn_n 1 rfl (z2_end a b c _)))))⟩
theorem z2_14 (a b c : Int32) : ∃ σ' : List zC, zR (some [a, b, c]) 128 (370, [some (.ref 0), some (.ref 1), some (.ref 124), some (.int 0)], [], zσ0, 138, 1998) (some (.int 1), σ', 138, 1998) := ⟨_, zRn_n 6 rfl (zRn_call rfl (z1_siphX b) rfl (zRn_n 6 rfl (zRn_call rfl (z1_siphM b) rfl (zRn_n 1 rfl (z2_end a b c _)))))⟩
theorem z2_15 (a b c : Int32) : ∃ σ' : List zC, zR (some [a, b, c]) 128 (393, [some (.ref 0), some (.ref 1), some (.ref 124), some (.int 0)], [], zσ0, 138, 1998) (some (.int 1), σ', 138, 1998) := ⟨_, zRn_n 6 rfl (zRn_call rfl (z1_consX b) rfl (zRn_n 6 rfl (zRn_call rfl (z1_consM b) rfl (zRn_n 1 rfl (z2_end a b c _)))))⟩
theorem z2_16 (a b c : Int32) : ∃ σ' : List zC, zR (some [a, b, c]) 128 (416, [some (.ref 0), some (.ref 1), some (.ref 124), some (.int 0)], [], zσ0, 138, 1998) (some (.int 1), σ', 138, 1998) := ⟨_, zRn_n 1 rfl (zRn_call rfl ⟨_, z1_sumsX⟩ rfl (zRn_n 1 rfl (zRn_call rfl ⟨_, z1_sumsM⟩ rfl (zRn_n 1 rfl (z2_end a b c _)))))⟩
theorem z2_17 (a b c : Int32) : ∃ σ' : List zC, zR (some [a, b, c]) 128 (429, [some (.ref 0), some (.ref 1), some (.ref 124), some (.int 0)], [], zσ0, 138, 1998) (some (.int 1), σ', 138, 1998) := ⟨_, zRn_n 6 rfl (zRn_call rfl (z1_suppX b) rfl (zRn_n 6 rfl (zRn_call rfl (z1_suppM b) rfl (zRn_n 1 rfl (z2_end a b c _)))))⟩
theorem z2_18 (a b c : Int32) : ∃ σ' : List zC, zR (some [a, b, c]) 128 (452, [some (.ref 0), some (.ref 1), some (.ref 124), some (.int 0)], [], zσ0, 138, 1998) (some (.int 1), σ', 138, 1998) := ⟨_, zRn_n 11 rfl (zRn_call rfl (z1_weigX b c) rfl (zRn_n 11 rfl (zRn_call rfl (z1_weigM b c) rfl (zRn_n 1 rfl (z2_end a b c _)))))⟩
theorem z2_19 (a b c : Int32) : ∃ σ' : List zC, zR (some [a, b, c]) 128 (485, [some (.ref 0), some (.ref 1), some (.ref 124), some (.int 0)], [], zσ0, 138, 1998) (some (.int 1), σ', 138, 1998) := ⟨_, zRn_n 1 rfl (zRn_call rfl ⟨_, z1_flagsX⟩ rfl (zRn_n 1 rfl (zRn_call rfl ⟨_, z1_flagsM⟩ rfl (zRn_n 1 rfl (z2_end a b c _)))))⟩
theorem z2_off (a b c : Int32) : ∃ σ' : List zC, zR (some [a, b, c]) 128 (498, [some (.ref 0), some (.ref 1), some (.ref 124), some (.int 0)], [], zσ0, 138, 1998) (some (.int 1), σ', 138, 1998) := ⟨_, z2_end a b c _⟩
theorem z2_sw (a b c : Int32) (j : Nat) (hj : j < 32) (t : Nat) (h : zsw (nI j).toInt 0 19 466 #[96, 121, 132, 145, 158, 171, 204, 217, 230, 253, 266, 289, 302, 325, 338, 361, 384, 397, 420, 453] = some (t : Int)) (x : Int32) (hx : x = nI j) (k : ∃ σ' : List zC, zR (some [a, b, c]) 128 (32 + t, [some (.ref 0), some (.ref 1), some (.ref 124), some (.int 0)], [], zσ0, 138, 1998) (some (.int 1), σ', 138, 1998)) : ∃ σ' : List zC, zR (some [a, b, c]) 128 (32, [some (.ref 0), some (.ref 1), some (.ref 124), some (.int 0)], [.int x], zσ0, 138, 1998) (some (.int 1), σ', 138, 1998) := by
  subst hx
  obtain ⟨σ', k⟩ := k
  refine ⟨σ', zRn_1 ?_ k⟩
  show (zsw (nI j).toInt 0 19 466 #[96, 121, 132, 145, 158, 171, 204, 217, 230, 253, 266, 289, 302, 325, 338, 361, 384, 397, 420, 453]).bind (fun off => (zjmp 32 off).bind fun t => some ((t, [some (.ref 0), some (.ref 1), some (.ref 124), some (.int 0)], [], zσ0, 138, 1998) : zS)) = some (32 + t, [some (.ref 0), some (.ref 1), some (.ref 124), some (.int 0)], [], zσ0, 138, 1998)
  rw [h]
  rfl
theorem z2_31 : (Int8.ofInt 31).toInt32 = 31 := by decide +kernel
theorem z2_three (a b c : Int32) : ∃ σ' : List zC, zR (some [a, b, c]) 128 (18, [some (.ref 0), some (.ref 1), some (.ref 124), some (.int 0)], [], zσ0, 138, 1998) (some (.int 1), σ', 138, 1998) := by
  obtain ⟨j, hj, hx⟩ := pk_andE a (m := 31) 5 (by decide +kernel)
  have key : ∃ σ' : List zC, zR (some [a, b, c]) 128 (32, [some (.ref 0), some (.ref 1), some (.ref 124), some (.int 0)], [.int (a &&& 31)], zσ0, 138, 1998) (some (.int 1), σ', 138, 1998) := by
    match j, hj, hx with
    | 0, hj, hx => exact z2_sw a b c 0 hj 96 (by decide +kernel) _ hx (z2_0 a b c)
    | 1, hj, hx => exact z2_sw a b c 1 hj 121 (by decide +kernel) _ hx (z2_1 a b c)
    | 2, hj, hx => exact z2_sw a b c 2 hj 132 (by decide +kernel) _ hx (z2_2 a b c)
    | 3, hj, hx => exact z2_sw a b c 3 hj 145 (by decide +kernel) _ hx (z2_3 a b c)
    | 4, hj, hx => exact z2_sw a b c 4 hj 158 (by decide +kernel) _ hx (z2_4 a b c)
    | 5, hj, hx => exact z2_sw a b c 5 hj 171 (by decide +kernel) _ hx (z2_5 a b c)
    | 6, hj, hx => exact z2_sw a b c 6 hj 204 (by decide +kernel) _ hx (z2_6 a b c)
    | 7, hj, hx => exact z2_sw a b c 7 hj 217 (by decide +kernel) _ hx (z2_7 a b c)
    | 8, hj, hx => exact z2_sw a b c 8 hj 230 (by decide +kernel) _ hx (z2_8 a b c)
    | 9, hj, hx => exact z2_sw a b c 9 hj 253 (by decide +kernel) _ hx (z2_9 a b c)
    | 10, hj, hx => exact z2_sw a b c 10 hj 266 (by decide +kernel) _ hx (z2_10 a b c)
    | 11, hj, hx => exact z2_sw a b c 11 hj 289 (by decide +kernel) _ hx (z2_11 a b c)
    | 12, hj, hx => exact z2_sw a b c 12 hj 302 (by decide +kernel) _ hx (z2_12 a b c)
    | 13, hj, hx => exact z2_sw a b c 13 hj 325 (by decide +kernel) _ hx (z2_13 a b c)
    | 14, hj, hx => exact z2_sw a b c 14 hj 338 (by decide +kernel) _ hx (z2_14 a b c)
    | 15, hj, hx => exact z2_sw a b c 15 hj 361 (by decide +kernel) _ hx (z2_15 a b c)
    | 16, hj, hx => exact z2_sw a b c 16 hj 384 (by decide +kernel) _ hx (z2_16 a b c)
    | 17, hj, hx => exact z2_sw a b c 17 hj 397 (by decide +kernel) _ hx (z2_17 a b c)
    | 18, hj, hx => exact z2_sw a b c 18 hj 420 (by decide +kernel) _ hx (z2_18 a b c)
    | 19, hj, hx => exact z2_sw a b c 19 hj 453 (by decide +kernel) _ hx (z2_19 a b c)
    | 20, hj, hx => exact z2_sw a b c 20 hj 466 (by decide +kernel) _ hx (z2_off a b c)
    | 21, hj, hx => exact z2_sw a b c 21 hj 466 (by decide +kernel) _ hx (z2_off a b c)
    | 22, hj, hx => exact z2_sw a b c 22 hj 466 (by decide +kernel) _ hx (z2_off a b c)
    | 23, hj, hx => exact z2_sw a b c 23 hj 466 (by decide +kernel) _ hx (z2_off a b c)
    | 24, hj, hx => exact z2_sw a b c 24 hj 466 (by decide +kernel) _ hx (z2_off a b c)
    | 25, hj, hx => exact z2_sw a b c 25 hj 466 (by decide +kernel) _ hx (z2_off a b c)
    | 26, hj, hx => exact z2_sw a b c 26 hj 466 (by decide +kernel) _ hx (z2_off a b c)
    | 27, hj, hx => exact z2_sw a b c 27 hj 466 (by decide +kernel) _ hx (z2_off a b c)
    | 28, hj, hx => exact z2_sw a b c 28 hj 466 (by decide +kernel) _ hx (z2_off a b c)
    | 29, hj, hx => exact z2_sw a b c 29 hj 466 (by decide +kernel) _ hx (z2_off a b c)
    | 30, hj, hx => exact z2_sw a b c 30 hj 466 (by decide +kernel) _ hx (z2_off a b c)
    | 31, hj, hx => exact z2_sw a b c 31 hj 466 (by decide +kernel) _ hx (z2_off a b c)
    | j + 32, hj, hx => exact absurd hj (by omega)
  obtain ⟨σ', k⟩ := key
  refine ⟨σ', ?_⟩
  refine zRn_n 6 rfl ?_
  refine zR_gt (fun h => absurd h z2_c2) (fun _ => ?_)
  refine zRn_n 5 (a' := (32, [some (.ref 0), some (.ref 1), some (.ref 124), some (.int 0)], [.int (a &&& (Int8.ofInt 31).toInt32)], zσ0, 138, 1998)) rfl ?_
  rw [z2_31]
  exact k
theorem z_law (xs : List Int32) (h : xs.length ≤ 3) : ∃ (σ' : List zC) (nc ns : Nat), nc ≤ 600000 ∧ ns ≤ 7302250 ∧ zR (some xs) 128 (0, zent [.ref 0] 4, [], [], 0, 0) (some (.int 1), σ', nc, ns) := by
  have out : ∀ ys : List Int32, zR (some ys) 128 (18, [some (.ref 0), some (.ref 1), some (.ref 124), some (.int 0)], [], zσ0, 138, 1998) (some (.int 1), zσ0, 138, 1998) → ∃ (σ' : List zC) (nc ns : Nat), nc ≤ 600000 ∧ ns ≤ 7302250 ∧ zR (some ys) 128 (0, zent [.ref 0] 4, [], [], 0, 0) (some (.int 1), σ', nc, ns) := fun ys k => ⟨_, _, _, by decide, by decide, z0_start (some ys) k⟩
  match xs, h with
  | [], _ => exact out [] (zRn_n 7 rfl (zRn_ret rfl))
  | [a], _ => exact out [a] (zRn_n 7 rfl (zRn_ret rfl))
  | [a, b], _ => exact out [a, b] (zRn_n 7 rfl (zRn_ret rfl))
  | [a, b, c], _ =>
    obtain ⟨σ', k⟩ := z2_three a b c
    exact ⟨σ', _, _, by decide, by decide, z0_start _ k⟩
  | _ :: _ :: _ :: _ :: _, h => exact absurd h (by simp only [List.length_cons]; omega)
end
section
/-! THE CLAIM OUT OF ONE WALK OF THE LAW'S BODY. Your part is whole_start (and what it stands on); all else here is the same for every law, but numbers. -/
def R_law : String := "SiphonReportLaw"
def lw_P (b : Addr) (xs : List Int32) (args : Array Value) (s : State) : Prop := args = #[.ref b] ∧ s.IntsAt b xs ∧ xs.length ≤ 3 ∧ (Jvm.Cond.and given_1 narrow_1).before args s = true
def lw_Q (_ : Array Value) (s : State) (o : Outcome) (t : State) : Prop := o = .returned (some (.int 1)) ∧ Framed s o t [] 600000 7302250
def lw_Z (below : List Frame) (a : Array Value) (s : State) : State → Prop := fun t => ∃ o, t.status = .running ∧ Ended t below o ∧ lw_Q a s o t
/-- the law's own end, with 1 on the stack, nothing written that was there before, its room as the claim has it -/
theorem lw_ret {p : Program} {l : Launch} {e : Env} {s : State} {m : MethodId} {below : List Frame} {meth : Method} {c : Code} {b : Nat} (hx : p.tables.exec = Jvm.exec) (hb : c.code = code) (hr : meth.sig.returnType = ret) (hlocks : meth.locks = false) {pc : Nat} {H : Heap} {ls : Array Slot} (hdg : decode code pc = .ok (.ireturn, 1)) : W p l e room_1 s m #[Value.ref b] below meth c H [] 600000 7302250 (lw_Z below #[Value.ref b] s) (F0 m pc ls [.int 1]) := by
  intro T hT X
  obtain ⟨fs, hret, hrun, hended, hW, hframe⟩ := X.leave (v := some (.int 1)) (hlocks := hlocks) (fun h => by rw [hr] at h; cases h)
  have hmeth' : T.vm.method? m = some meth := X.method'
  refine ⟨T.setFrames fs, ?_, .returned (some (.int 1)), hrun, hended, rfl, ⟨_, rfl⟩, hW, hframe⟩
  jvm_step X.here [X.here.top, hx, hb, hdg, hmeth', hr, ret, narrow_b1]
  (try refine ⟨rfl, ?_⟩); (try refine ⟨rfl, ?_⟩)
  first | (intro acts; rw [hret _ acts rfl rfl rfl]) | rw [hret _ _ rfl rfl rfl]
  exact Steps.refl _
/-- what holds at the law's entry: the machine, the code, the tables' words (any of lw_tbl by 'hts w (by decide +kernel)'), the script of L ints xs at the cell b, what the Statement gives of the start (any of its parts by flat_of_before) -/
def lw_At (p : Program) (s : State) (m : MethodId) (meth : Method) (c : Code) (b L : Nat) (xs : Nat → Int32) : Prop :=
  p.tables.exec = Jvm.exec ∧ c.code = code ∧ meth.sig.returnType = ret ∧ c.maxLocals = 4 ∧ s.vm.findClass R_law = some m.cls ∧ (∀ w ∈ lw_tbl, w.before #[Value.ref b] s = true) ∧ va_X b L xs s s.heap ∧ b < s.heap.size ∧ meth.locks = false ∧ (Jvm.Cond.and given_1 narrow_1).before #[Value.ref b] s = true
-- ===== YOUR PART BEGINS =====
set_option maxRecDepth 100000 in
theorem z_start {p : Program} {e : Env} {s : State} {m : MethodId} {below : List Frame} {meth : Method} {c : Code} (l : Launch) {b L : Nat} {xs : Nat → Int32} (C0 : lw_At p s m meth c b L xs) (h : ∃ (σ' : List zC) (nc ns : Nat), nc ≤ 600000 ∧ ns ≤ 7302250 ∧ zR (some ((List.range L).map xs)) 128 (0, zent [.ref 0] 4, [], [], 0, 0) (some (.int 1), σ', nc, ns)) : W p l e room_1 s m #[Value.ref b] below meth c s.heap [] 0 0 (lw_Z below #[Value.ref b] s) (entryFrame m ([Value.ref b] : List Value).toArray 4) := by
  obtain ⟨hx, hb, hr, hml, hown, hts, hX, hbl, hlocks, hgv⟩ := C0
  obtain ⟨σ', nc, ns, hnc, hns, f, hrun⟩ := h
  have hts2 : ∀ w ∈ zTs, w.before #[Value.ref b] s = true := fun w hw => hts w (zTs_in w hw)
  obtain ⟨D, cT, hK⟩ := z_known (cl := zCL) hts2 (fun ci q hq => ⟨(zcl_ok ci q hq).1, zci_ok ci q hq⟩) (hts2 _ (List.mem_of_getElem? (i := 97) rfl)) (hts2 _ (List.mem_of_getElem? (i := 134) rfl)) (hts2 _ (List.mem_of_getElem? (i := 72) rfl)) (hts2 _ (List.mem_of_getElem? (i := 530) rfl)) (hts _ (List.mem_of_getElem? (i := 222) rfl)) (hts _ (List.mem_of_getElem? (i := 167) rfl))
  have hNs : ∀ w ∈ zNs, va_Nw w s := fun w hw => va_Nw.of (znest_tab (zNs_nest w hw)) (hts w (zNs_in w hw))
  have X : zctx p s m #[Value.ref b] meth c code 4 x.cls x.name zTs zNs D zCL cT (fun q => s.heap.size ≤ q) s.heap := ⟨hx, hb, hml, hown, hts2, hNs, hK, fun q h => h, fun h => absurd h (by decide)⟩
  have hscr : zscr (some ((List.range L).map xs)) s s.heap (fun q => s.heap.size ≤ q) (fun _ => b) := by
    intro ys hy
    cases hy
    obtain ⟨scr, h1, h2, h3, h4, h5⟩ := hX
    refine ⟨⟨scr, h1, h2, h3, by rw [h4, List.length_map, List.length_range], fun j hj => ?_⟩, hbl, Nat.not_le.mpr hbl⟩
    rw [List.length_map, List.length_range] at hj
    rw [h5 j hj]
    show some (Value.int (xs j)) = some (Value.int (((List.range L).map xs).getD j 0))
    rw [List.getD_eq_getElem?_getD, List.getElem?_map, List.getElem?_range hj]
    rfl
  obtain ⟨ls, he, h1, h2, h3, h4⟩ := z_entry (m := m) (ad := fun _ => b) (maxL := 4) [.ref 0] (by decide)
  have he' : entryFrame m ([Value.ref b] : List Value).toArray 4 = F0 m 0 ls [] := he
  rw [he']
  refine z_main (l := l) (D := D) (cT := cT) zcl_ok zP_ok zTs_good zNs_nest f (some ((List.range L).map xs)) 128 x code 4 ret 7 179 3 1 _ (0, zent [.ref 0] 4, [], [], 0, 0) (some (.int 1), σ', nc, ns) rfl hrun p e room_1 s m #[Value.ref b] below meth c (lw_Z below #[Value.ref b] s) (fun q => s.heap.size ≤ q) s.heap (fun _ => b) 0 X hscr ⟨by decide, by decide⟩ ⟨hnc, hns⟩ ?_ (fun _ => b) s.heap [] ls ⟨⟨h1, h2, h3, h4⟩, ⟨fun k q h => (by cases h), ⟨fun i j p q hi => (by cases hi), fun k q h => (by cases h)⟩, va_S.rf⟩, fun _ => rfl, fun _ _ => rfl, Nat.zero_le _⟩
  intro pc ins len L9 ad H locs ls9 hd hr9 rel
  obtain ⟨-, hcase⟩ := zret_eq hr9
  rcases hcase with ⟨rfl, v, ty, e1, e2, e3⟩ | ⟨rfl, v, e1, e2⟩ | ⟨rfl, e1, e2⟩
  · exact va_forget (fun q hq => rel.2.1.2.2.2.2 q hq) (W.widen hnc hns (lw_ret hx hb hr hlocks hd))
  · cases e1
  · cases e1
/-- YOUR PART: from the entry, for every script of at most 3 ints, the law comes to its end with true -/
theorem whole_start {p : Program} {e : Env} {s : State} {m : MethodId} {below : List Frame} {meth : Method} {c : Code} (l : Launch) {b L : Nat} {xs : Nat → Int32} (hL : L ≤ 3) (C0 : lw_At p s m meth c b L xs) : W p l e room_1 s m #[Value.ref b] below meth c s.heap [] 0 0 (lw_Z below #[Value.ref b] s) (entryFrame m ([Value.ref b] : List Value).toArray 4) := by
  exact z_start l C0 (z_law _ (by rw [List.length_map, List.length_range]; exact hL))
-- ===== YOUR PART ENDS =====
set_option maxHeartbeats 4000000 in
theorem lw_walk (l : Launch) (b : Addr) (xs : List Int32) : MetFree l x (headSpec (Jvm.Cond.code x code maxLocals ret :: tables_1) room_1) (lw_P b xs) (fun _ _ _ _ _ => True) lw_Q := by
  refine MetFree.of_bodyS (code := code) (maxLocals := maxLocals) (ret := ret) (by decide) ?_ ?_
  · intro args s m h hn
    obtain ⟨meth, c, h1, h2, h3, h4, h5, h6, -, -⟩ := Cond.code_spec hn (atoms_spec (ws := Jvm.Cond.code x code maxLocals ret :: tables_1) h _ List.mem_cons_self)
    exact ⟨meth, c, h1, h2, h3, h4, h5, h6⟩
  · intro p e s m args below meth c s₁ B hml0 hP _
    obtain ⟨rfl, hx, hbd, hgv⟩ := hP
    obtain ⟨scr, harrAt, hlist, hof, hsmall⟩ := hx
    obtain ⟨hcb, hkn, -, -⟩ := State.arrayAt?_spec harrAt
    have hown : s.vm.findClass R_law = some m.cls := findClass_of_methodNamed B.named
    have hts0 : ∀ c ∈ (Jvm.Cond.code x code maxLocals ret :: tables_1), c.before #[Value.ref b] s = true := atoms_spec (ws := Jvm.Cond.code x code maxLocals ret :: tables_1) B.pre
    have hts : ∀ w ∈ lw_tbl, w.before #[Value.ref b] s = true := k2_hts_sels lw_privs (fun w hw => hts0 w (List.mem_cons_of_mem _ hw)) lw_privs_ok
    have hml : c.maxLocals = 4 := B.maxLocals_eq (hts0 _ List.mem_cons_self)
    have X₀ : Stand p l e room_1 s m #[Value.ref b] below meth c s₁ [] 0 0 := Stand.of_body B
    have hh0 : s₁.heap = s.heap := by rw [B.state]; rfl
    have hsz : scr.slots.size = xs.length := by rw [← Array.length_toList, hlist, List.length_map]
    have hval : ∀ j : Nat, j < xs.length → scr.slots[j]? = some (.int (xs.getD j 0)) := fun j hj => by
      rw [← Array.getElem?_toList, hlist]
      simp [hj]
    have hbl : b < s.heap.size := (Array.getElem?_eq_some_iff.mp hcb).1
    have hX : va_X b xs.length (fun j => xs.getD j 0) s s.heap := ⟨scr, hcb, hof, hkn, hsz, hval⟩
    have K : W p l e room_1 s m #[Value.ref b] below meth c s₁.heap [] 0 0 (lw_Z below #[Value.ref b] s) (entryFrame m ([Value.ref b] : List Value).toArray 4) := by
      rw [hh0]
      exact whole_start l hbd ⟨B.exec, B.bytes, B.returns, hml, hown, hts, hX, hbl, B.notSynchronized, hgv⟩
    obtain ⟨t, a1, o, b1, b2, b3⟩ := K s₁ rfl X₀
    exact ⟨t, o, a1, b1, b2, b3⟩
theorem lw_pre_spec {args : Array Value} {s : State} (h : (Jvm.Cond.and given_1 narrow_1).before args s = true) (hr : rest_1_c.before args s = true) : ∃ (b : Addr) (xs : List Int32), lw_P b xs args s := by
  have hs := flat_of_before _ h
  have hq := flat_of_before _ hr
  have hc : (Cond.count 1).before args s = true := hs _ (by decide +kernel)
  have harr : (Cond.arrayOf (.arg 0) .int).before args s = true := hs _ (by decide +kernel)
  have hle : (Cond.le (.length (.arg 0)) (.int 3)).before args s = true := hs _ (by decide +kernel)
  have hlen : (Cond.isInt (.length (.arg 0))).before args s = true := hq _ (by decide +kernel)
  have hall : (Cond.all (.arg 0) (.isInt (.elem (.arg 0) (.index 0)))).before args s = true := hq _ (by decide +kernel)
  obtain ⟨b, xs, hb, hx⟩ := State.ints_of_pre rfl harr hlen hall
  have hsm : xs.length < 2 ^ 31 := hx.choose_spec.2.2.2
  have hev : (Term.length (.arg 0)).eval args s none [] s = some (.int xs.length.toInt32) := hx.length_eval hb
  have hv := Cond.le_ints hev (show (Term.int 3).eval args s none [] s = some (.int 3) from rfl)
  have hd : xs.length.toInt32 ≤ 3 := by
    simpa [Cond.before, Cond.holds, hv] using hle
  have hN : xs.length ≤ 3 := (Int32.ofNat_le_ofNat hsm (by decide)).mp (show Int32.ofNat xs.length ≤ Int32.ofNat 3 from hd)
  exact ⟨b, xs, Cond.one_arg hc (show args[0]? = some (.ref b) from hb), hx, hN, h⟩
theorem lw_comes (l : Launch) : Comes l x (Jvm.Cond.code x code maxLocals ret :: tables_1) room_1 (fun tb e args s => Calls_1 tb e args s ∧ rest_1 tb e args s ∧ Pre_1 tb e args s)
    (fun _ _ args s o t => lw_Q args s o t) := by
  intro p e ha hc hk s m args below hf hfit hheap happ hpre
  obtain ⟨b, xs, hP⟩ := lw_pre_spec hpre.2.2 hpre.2.1
  obtain ⟨k, o, h1, h2, h3, hQ⟩ := lw_walk l b xs p e ha hc hk s m args below hf ((Spec.applies_iff_loose hf).mp happ).1 hP trivial
  exact ⟨k, o, h1, h2, h3, hQ⟩
theorem lw_frame {s t : State} {o : Outcome} {args : Array Value} (h : Framed s o t [] 600000 7302250) :
    Framed s o t (fieldLocs frame_1_writes args s ++ arrayLocs frame_1_arrays args s ++ staticLocs frame_1_statics s) 600000 7302250 := h
theorem lw_limb (L : Cond) (hL : ∀ (args : Array Value) (s t : State), L.after args s (.returned (some (.int 1))) t = true) :
    ArmFor flags0 classFile x code maxLocals ret World_1 tables_1 room_1 Calls_1 rest_1 Pre_1
      (fun tb e a s o t => postC L tb e a s o t ∧ Framed s o t (fieldLocs frame_1_writes a s ++ arrayLocs frame_1_arrays a s ++ staticLocs frame_1_statics s) 600000 7302250) := by
  intro l _ _ _ p e ha hc hk s m args below hf hfit hheap happ hpre
  obtain ⟨k, o, h1, h2, h3, rfl, hF⟩ := lw_comes l p e ha hc hk s m args below hf hfit hheap happ hpre
  exact ⟨k, _, h1, h2, h3, hL args s _, lw_frame hF⟩
theorem i_vc : Claimed_1_1 ∧ Claimed_1_2 := ⟨lw_limb limb_1_1 (fun args s t => by simp [limb_1_1, Cond.after, Cond.holds, Cond.value]), lw_limb limb_1_2 (fun args s t => Cond.after_iff.mpr (by
  first | (rw [show limb_1_2 = Cond.eq .result (.int 1) from rfl, Cond.eq_ints (x := 1) (y := 1) rfl rfl]; simp; done) | (simp [limb_1_2, Cond.value, Term.eval]; done)))⟩
end

/-! Runs, by steps: zRn y a o: from the frame a of the method y it comes to the answer o. -/
section ZMX
variable {P : List zM} {fty : Nat → Nat → FieldType} {cd : List (List Value)}
theorem zone_case {ih : Option (List Int32) → Nat → zS → Option zO} {y : Nat} {scr : Option (List Int32)} {pc : Nat} {L : List (Option Value)} {st : List Value} {σ : List zC} {nc ns : Nat} {o : zO} (h : zone P fty cd ih scr y (pc, L, st, σ, nc, ns) = some o) :
    ∃ (z : MethodName) (code : ByteArray) (mx : Nat) (ret : Option FieldType) (fr lo kd na : Nat) (rows : List (Nat × zI)) (ins : Jvm.ClassFile.Instr) (len x1 x2 x3 : Nat), P[y]? = some (z, code, mx, ret, fr, lo, kd, na, rows) ∧ zlook rows pc = some (ins, len, x1, x2, x3) ∧
      ((∃ a', zstep scr fty cd ins x1 x2 x3 pc L st σ nc ns = some a' ∧ ih scr y a' = some o) ∨
       (∃ r, zstep scr fty cd ins x1 x2 x3 pc L st σ nc ns = none ∧ zret ret ins st = some r ∧ o = (r, σ, nc, ns)) ∨
       (∃ vs rest mz o1 a', zstep scr fty cd ins x1 x2 x3 pc L st σ nc ns = none ∧ zret ret ins st = none ∧ zprep P ins x1 x2 x3 st σ = some (vs, rest, mz) ∧ ih none x1 (0, zent vs mz, [], σ, 0, 0) = some o1 ∧ zback rest pc L σ nc ns o1 = some a' ∧ ih scr y a' = some o)) := by
  unfold zone at h
  split at h
  · rename_i z code mx ret fr lo kd na rows pc1 L1 st1 σ1 nc1 ns1 hM hcase
    cases hcase
    split at h
    · rename_i ins len x1 x2 x3 hl
      refine ⟨z, code, mx, ret, fr, lo, kd, na, rows, ins, len, x1, x2, x3, hM, hl, ?_⟩
      split at h
      · rename_i a' ha
        exact Or.inl ⟨a', ha, h⟩
      · rename_i hs
        split at h
        · rename_i r hr
          exact Or.inr (Or.inl ⟨r, hs, hr, (Option.some.inj h).symm⟩)
        · rename_i hr
          split at h
          · rename_i vs rest mz hp
            split at h
            · rename_i o1 ho1
              split at h
              · rename_i a' ha
                exact Or.inr (Or.inr ⟨vs, rest, mz, o1, a', hs, hr, hp, ho1, ha, h⟩)
              · cases h
            · cases h
          · cases h
    · cases h
  · cases h
theorem zone_up {ih ih' : Option (List Int32) → Nat → zS → Option zO} (hi : ∀ scr y a o, ih scr y a = some o → ih' scr y a = some o) {y : Nat} {scr : Option (List Int32)} {a : zS} {o : zO} (h : zone P fty cd ih scr y a = some o) : zone P fty cd ih' scr y a = some o := by
  obtain ⟨pc, L, st, σ, nc, ns⟩ := a
  obtain ⟨z, code, mx, ret, fr, lo, kd, na, rows, ins, len, x1, x2, x3, hM, hl, hc⟩ := zone_case h
  rcases hc with ⟨a', h1, h2⟩ | ⟨r, h1, h2, rfl⟩ | ⟨vs, rest, mz, o1, a', h1, h2, h3, h4, h5, h6⟩
  · simp only [zone, hM, hl, h1]
    exact hi _ _ _ _ h2
  · simp only [zone, hM, hl, h1, h2]
  · simp only [zone, hM, hl, h1, h2, h3, hi _ _ _ _ h4, h5]
    exact hi _ _ _ _ h6
theorem zrun_up1 : ∀ (f : Nat) (scr : Option (List Int32)) (y : Nat) (a : zS) (o : zO), zrun P fty cd f scr y a = some o → zrun P fty cd (f + 1) scr y a = some o
  | 0, _, _, _, _, h => by cases h
  | f + 1, scr, y, a, o, h => by
    rw [zrun_s] at h ⊢
    exact zone_up (fun scr y a o => zrun_up1 f scr y a o) h
theorem zrun_up {f g : Nat} (hg : f ≤ g) {scr : Option (List Int32)} {y : Nat} {a : zS} {o : zO} (h : zrun P fty cd f scr y a = some o) : zrun P fty cd g scr y a = some o := by
  induction hg with
  | refl => exact h
  | step _ ih => exact zrun_up1 _ _ _ _ _ ih
def zRn (P : List zM) (fty : Nat → Nat → FieldType) (cd : List (List Value)) (scr : Option (List Int32)) (y : Nat) (a : zS) (o : zO) : Prop := ∃ f, zrun P fty cd f scr y a = some o
/-- one step that is no call -/
def zst (P : List zM) (fty : Nat → Nat → FieldType) (cd : List (List Value)) (scr : Option (List Int32)) (y : Nat) (a : zS) : Option zS := match P[y]?, a with
  | some (_, _, _, _, _, _, _, _, rows), (pc, L, st, σ, nc, ns) => match zlook rows pc with
    | some (ins, _, x1, x2, x3) => zstep scr fty cd ins x1 x2 x3 pc L st σ nc ns
    | none => none
  | _, _ => none
def zsts (P : List zM) (fty : Nat → Nat → FieldType) (cd : List (List Value)) (scr : Option (List Int32)) (y : Nat) (n : Nat) : zS → Option zS :=
  Nat.rec (motive := fun _ => zS → Option zS) (fun a => some a) (fun _ ih a => (zst P fty cd scr y a).bind ih) n
theorem zRn_1 {scr : Option (List Int32)} {y : Nat} {a a' : zS} {o : zO} (h : zst P fty cd scr y a = some a') (k : zRn P fty cd scr y a' o) : zRn P fty cd scr y a o := by
  obtain ⟨f, hf⟩ := k
  refine ⟨f + 1, ?_⟩
  obtain ⟨pc, L, st, σ, nc, ns⟩ := a
  rw [zrun_s]
  unfold zst at h
  split at h
  · rename_i z code mx ret fr lo kd na rows pc1 L1 st1 σ1 nc1 ns1 hM hcase
    cases hcase
    split at h
    · rename_i ins len x1 x2 x3 hl
      simp only [zone, hM, hl, h]
      exact hf
    · cases h
  · cases h
theorem zRn_n {scr : Option (List Int32)} {y : Nat} {o : zO} : ∀ (n : Nat) {a a' : zS}, zsts P fty cd scr y n a = some a' → zRn P fty cd scr y a' o → zRn P fty cd scr y a o
  | 0, _, _, h, k => by cases Option.some.inj h; exact k
  | n + 1, a, a', h, k => by
    obtain ⟨b, h1, h2⟩ := Option.bind_eq_some_iff.mp (show (zst P fty cd scr y a).bind (zsts P fty cd scr y n) = some a' from h)
    exact zRn_1 h1 (zRn_n n h2 k)
/-- a return -/
def zend (P : List zM) (y : Nat) (a : zS) : Option zO := match P[y]?, a with
  | some (_, _, _, ret, _, _, _, _, rows), (pc, _, st, σ, nc, ns) => match zlook rows pc with
    | some (ins, _, _, _, _) => match zret ret ins st with
      | some r => some (r, σ, nc, ns)
      | none => none
    | none => none
  | _, _ => none
theorem zret_step {scr : Option (List Int32)} {ret : Option FieldType} {ins : Jvm.ClassFile.Instr} {x1 x2 x3 pc : Nat} {L : List (Option Value)} {st : List Value} {σ : List zC} {nc ns : Nat} {r : Option Value} (h : zret ret ins st = some r) : zstep scr fty cd ins x1 x2 x3 pc L st σ nc ns = none := by
  obtain ⟨-, hc⟩ := zret_eq h
  rcases hc with ⟨rfl, -⟩ | ⟨rfl, -⟩ | ⟨rfl, -⟩ <;> rfl
theorem zRn_ret {scr : Option (List Int32)} {y : Nat} {a : zS} {o : zO} (h : zend P y a = some o) : zRn P fty cd scr y a o := by
  refine ⟨1, ?_⟩
  obtain ⟨pc, L, st, σ, nc, ns⟩ := a
  rw [zrun_s]
  unfold zend at h
  split at h
  · rename_i z code mx ret fr lo kd na rows pc1 L1 st1 σ1 nc1 ns1 hM hcase
    cases hcase
    split at h
    · rename_i ins len x1 x2 x3 hl
      split at h
      · rename_i r hr
        cases Option.some.inj h
        simp only [zone, hM, hl, zret_step hr, hr]
      · cases h
    · cases h
  · cases h
/-- a call: the callee, its frame, and what is behind it -/
def zcallee (P : List zM) (y : Nat) (a : zS) : Option (Nat × zS × List Value) := match P[y]?, a with
  | some (_, _, _, _, _, _, _, _, rows), (pc, _, st, σ, _, _) => match zlook rows pc with
    | some (ins, _, x1, x2, x3) => match zprep P ins x1 x2 x3 st σ with
      | some (as, rest, mz) => some (x1, (0, zent as mz, [], σ, 0, 0), rest)
      | none => none
    | none => none
  | _, _ => none
theorem zprep_step {scr : Option (List Int32)} {ret : Option FieldType} {ins : Jvm.ClassFile.Instr} {x1 x2 x3 pc : Nat} {L : List (Option Value)} {st : List Value} {σ : List zC} {nc ns : Nat} {q : List Value × List Value × Nat} (h : zprep P ins x1 x2 x3 st σ = some q) : zstep scr fty cd ins x1 x2 x3 pc L st σ nc ns = none ∧ zret ret ins st = none := by
  obtain ⟨vs, rest, mz⟩ := q
  obtain ⟨z, code, r, fr, lo, kd, na, rows, -, -, -, hc⟩ := zprep_eq h
  rcases hc with ⟨i, rfl⟩ | ⟨i, k, as, rfl, -, hx⟩ | ⟨i, k, as, fs, rfl, -⟩
  · exact ⟨rfl, rfl⟩
  · refine ⟨?_, rfl⟩
    cases x3 with
    | zero => omega
    | succ x3 =>
      show (zp1r st).bind _ = none
      cases zp1r st with
      | none => rfl
      | some q => rfl
  · exact ⟨rfl, rfl⟩
theorem zRn_call {scr : Option (List Int32)} {y x1 : Nat} {pc : Nat} {L : List (Option Value)} {st rest : List Value} {σ : List zC} {nc ns : Nat} {b a' : zS} {o1 o : zO} (h : zcallee P y (pc, L, st, σ, nc, ns) = some (x1, b, rest)) (hc : zRn P fty cd none x1 b o1) (hb : zback rest pc L σ nc ns o1 = some a') (k : zRn P fty cd scr y a' o) : zRn P fty cd scr y (pc, L, st, σ, nc, ns) o := by
  obtain ⟨f, hf⟩ := hc
  obtain ⟨g, hg⟩ := k
  refine ⟨max f g + 1, ?_⟩
  rw [zrun_s]
  unfold zcallee at h
  split at h
  · rename_i z code mx ret fr lo kd na rows pc1 L1 st1 σ1 nc1 ns1 hM hcase
    cases hcase
    split at h
    · rename_i ins len y1 x2 x3 hl
      split at h
      · rename_i as rest1 mz hp
        cases Option.some.inj h
        have h0 := zprep_step (fty := fty) (cd := cd) (scr := scr) (ret := ret) (pc := pc) (L := L) (nc := nc) (ns := ns) hp
        simp only [zone, hM, hl, h0.1, h0.2, hp, zrun_up (Nat.le_max_left f g) hf, hb]
        exact zrun_up (Nat.le_max_right f g) hg
      · cases h
    · cases h
  · cases h
end ZMX
/-! The start: what the tables' words say of classes and array classes. -/
section ZMY
theorem z_over {args : Array Value} {s : State} {t : FieldType} (h : (Cond.arrayOver (.array t)).before args s = true) : ∃ comp c k, s.vm.findClass (FieldType.array t).toString = some comp ∧ s.vm.classes[c]? = some k ∧ k.kind = .array comp (.array t) ∧ s.vm.findClass ("[" ++ (FieldType.array t).toString) = some c := by
  unfold Cond.before at h
  simp only [Cond.holds, Cond.value, beq_iff_eq] at h
  cases hc : s.vm.findClass (FieldType.array t).toString with
  | none => simp [hc] at h
  | some comp =>
    simp only [hc, Option.bind_some, Option.bind_eq_some_iff, Option.map_eq_some_iff] at h
    obtain ⟨c, hi, k, hk, hb⟩ := h
    obtain ⟨hlt, hp, -⟩ := Array.findIdx?_eq_some_iff_getElem.mp hi
    have hkk : s.vm.classes[c] = k := (Array.getElem?_eq_some_iff.mp hk).2
    rw [hkk] at hp
    cases hkind : k.kind with
    | array component ty =>
      rw [hkind] at hb hp
      simp at hb hp
      exact ⟨comp, c, k, rfl, hk, by rw [hkind, hp, hb.1], hb.2⟩
    | _ => rw [hkind] at hb; simp at hb
theorem z_known {args : Array Value} {s : State} {Ts : List Cond} {cl : List vw_C} (hts : ∀ w ∈ Ts, w.before args s = true) (hcl : ∀ (ci : Nat) (q : vw_C), cl[ci]? = some q → (∀ w ∈ u_ws q.1 q.2.1 q.2.2, w ∈ Ts) ∧ Cond.instantiable q.1 q.2.2 ∈ Ts)
    (h1 : (Cond.arrayClass .int).before args s = true) (h2 : (Cond.arrayClass .long).before args s = true) (h3 : (Cond.arrayClass .char).before args s = true) (h4 : (Cond.arrayClass .boolean).before args s = true) (h5 : (Cond.arrayOver (.array .int)).before args s = true) (h6 : (Cond.arrayOver (.array .long)).before args s = true) : ∃ (D : va_G) (cT : FieldType → ClassId), zK D cl cT s := by
  have hk : ∀ c : Nat, ∃ (x : ClassId × (Nat → Nat)), ∀ q : vw_C, cl[c]? = some q → u_Kn s q.1 q.2.1 q.2.2 x.1 x.2 := by
    intro c
    cases hc : cl[c]? with
    | none => exact ⟨(0, fun _ => 0), fun q h => by cases h⟩
    | some q =>
      obtain ⟨a1, a2⟩ := hcl c q hc
      obtain ⟨cC, iS, hK⟩ := u_known hts a1 (hts _ a2)
      exact ⟨(cC, iS), fun q' h => by cases h; exact hK⟩
  obtain ⟨c1, k1, o1, f1, g1, d1⟩ := Cond.arrayClass_spec h1
  obtain ⟨c2, k2, o2, f2, g2, d2⟩ := Cond.arrayClass_spec h2
  obtain ⟨c3, k3, o3, f3, g3, d3⟩ := Cond.arrayClass_spec h3
  obtain ⟨c4, k4, o4, f4, g4, d4⟩ := Cond.arrayClass_spec h4
  obtain ⟨e5, c5, k5, i5, g5, d5, f5⟩ := z_over h5
  obtain ⟨e6, c6, k6, i6, g6, d6, f6⟩ := z_over h6
  have q5 : e5 = c1 := Option.some.inj (i5.symm.trans f1)
  have q6 : e6 = c2 := Option.some.inj (i6.symm.trans f2)
  subst q5
  subst q6
  refine ⟨(fun c => (Classical.choose (hk c)).1, fun c => (Classical.choose (hk c)).2), fun t => match t with | .int => e5 | .long => e6 | .char => c3 | .boolean => c4 | .array .int => c5 | .array .long => c6 | _ => 0, ⟨fun c q hq => Classical.choose_spec (hk c) q hq, fun k q hq => ?_⟩, ⟨k5, k1, o1, g5, d5, g1, d1⟩, ⟨k6, k2, o2, g6, d6, g2, d2⟩⟩
  have arr : ∀ {cA : ClassId} {kA : Class} {o : ClassId} {ty : FieldType}, s.vm.classes[cA]? = some kA → kA.kind = .array o ty → ArrOfT s cA ty := fun {cA kA o ty} a b n z => ⟨fun k h => (by cases h), kA, a, o, b⟩
  match k, hq with
  | 0, hq => cases hq; exact ⟨arr g1 d1, f1⟩
  | 1, hq => cases hq; exact ⟨arr g2 d2, f2⟩
  | 2, hq => cases hq; exact ⟨arr g3 d3, f3⟩
  | 3, hq => cases hq; exact ⟨arr g4 d4, f4⟩
  | 4, hq => cases hq; exact ⟨arr g5 d5, f5⟩
  | 5, hq => cases hq; exact ⟨arr g6 d6, f6⟩
  | k + 6, hq => cases hq
end ZMY
/-! What a row asks of the words, as lists: numbers are decided, words and names are compared as they stand. A link's row has length 4 where it is a nest mate's. -/
section ZMW
def zlw (host own : String) (idx : Nat) (T : u_T) (k len : Nat) : Bool × Cond := match Nat.beq len 4 with
  | true => (true, .fieldLinkNest own idx (T k).1 (T k).2.1 (T k).2.2.1 host)
  | false => (false, .fieldLink own idx (T k).1 (T k).2.1 (T k).2.2.1)
def zmw (host own : String) (idx : Nat) (z : MethodName) (len : Nat) : Bool × Cond := match Nat.beq len 4 with
  | true => (true, .methodLinkNest own idx z host)
  | false => (false, .methodLink own idx z)
def zrw (host own : String) (cl : List vw_C) (P : List zM) (ins : Jvm.ClassFile.Instr) (len x1 x2 x3 : Nat) : List (Bool × Cond) := match ins with
  | .getfield idx => match cl[x1]? with
    | some q => [zlw host own idx q.2.1 x2 len]
    | none => []
  | .putfield idx => match cl[x1]? with
    | some q => match (q.2.1 x2).2.2.2 with
      | true => [zlw host own idx q.2.1 x2 3]
      | false => [zlw host own idx q.2.1 x2 len]
    | none => []
  | .new idx => match cl[x1]? with
    | some q => [(false, .classLink own idx q.1), (false, .instantiable q.1 q.2.2), (false, .initialized q.1)]
    | none => []
  | .newarray t => [(false, .arrayClass (newarray.typeOf t))]
  | .ldc_w idx => [(false, .constant own idx (Int32.ofNat x1))]
  | .multianewarray idx _ => match x1 with
    | 0 => [(false, .classLink own idx "[[I")]
    | _ + 1 => [(false, .classLink own idx "[[J")]
  | .invokespecial idx => match x3 with
    | 0 => [(false, .methodLink own idx objectInit), (false, .instanceMethod objectInit), (false, .code objectInit ⟨#[0xb1]⟩ 1 none)]
    | _ + 1 => match P[x1]? with
      | some M => [zmw host own idx M.1 len]
      | none => []
  | .invokevirtual idx => match P[x1]? with
    | some M => [zmw host own idx M.1 len]
    | none => []
  | .invokestatic idx => match P[x1]? with
    | some M => [zmw host own idx M.1 len]
    | none => []
  | _ => []
def zrs (own nm : String) (cl : List vw_C) (P : List zM) (ins : Jvm.ClassFile.Instr) (x1 x2 x3 : Nat) : List (String × String) := match ins with
  | .putfield _ => match cl[x1]? with
    | some q => match (q.2.1 x2).2.2.2 with
      | true => [(nm, "<init>"), ((q.2.1 x2).1, own)]
      | false => []
    | none => []
  | .invokevirtual _ => match P[x1]?, cl[x3]? with
    | some M, some q => [(q.1, M.1.cls)]
    | _, _ => []
  | _ => []
def zcb (P : List zM) (fr lo x1 x2 kd d : Nat) : Bool := match P[x1]? with
  | some (_, _, mz, _, fz, lz, k, na, _) => Nat.beq k kd && (Nat.beq x2 (na + d) && (Nat.ble (fz + 1) fr && Nat.ble (8 + (mz + 11) + lz) lo))
  | none => false
def zrb (cl : List vw_C) (P : List zM) (code : ByteArray) (fr lo pc : Nat) (ins : Jvm.ClassFile.Instr) (len x1 x2 x3 : Nat) : Bool := decide (decode code pc = .ok (ins, zlen ins len)) && (match ins with
  | .getfield _ | .putfield _ => match cl[x1]? with
    | some q => Nat.blt x2 q.2.2
    | none => false
  | .new _ => (cl[x1]?).isSome
  | .invokespecial _ => match x3 with
    | 0 => Nat.ble 1 fr && Nat.ble 20 lo
    | _ + 1 => zcb P fr lo x1 x2 1 1
  | .invokevirtual _ => (cl[x3]?).isSome && zcb P fr lo x1 x2 2 1
  | .invokestatic _ => zcb P fr lo x1 x2 0 0
  | _ => true)
def zhold (Ts Ns : List Cond) (q : Bool × Cond) : Prop := match q.1 with
  | true => q.2 ∈ Ns
  | false => q.2 ∈ Ts
theorem zlw_fl {host own : String} {Ts Ns : List Cond} {idx : Nat} {T : u_T} {k len : Nat} (h : zhold Ts Ns (zlw host own idx T k len)) : zfl host own Ts Ns idx T k := by
  unfold zlw at h
  split at h
  · exact Or.inr h
  · exact Or.inl h
theorem zmw_ml {host own : String} {Ts Ns : List Cond} {idx len : Nat} {z : MethodName} (h : zhold Ts Ns (zmw host own idx z len)) : zml host own Ts Ns idx z := by
  unfold zmw at h
  split at h
  · exact Or.inr h
  · exact Or.inl h
theorem zcb_eq {P : List zM} {fr lo x1 x2 kd d : Nat} (h : zcb P fr lo x1 x2 kd d = true) {z : MethodName} {code : ByteArray} {mz : Nat} {ret : Option FieldType} {fz lz k na : Nat} {rows : List (Nat × zI)} (hZ : P[x1]? = some (z, code, mz, ret, fz, lz, k, na, rows)) : k = kd ∧ x2 = na + d ∧ fz + 1 ≤ fr ∧ 8 + (mz + 11) + lz ≤ lo := by
  simp only [zcb, hZ, Bool.and_eq_true] at h
  exact ⟨Nat.eq_of_beq_eq_true h.1, Nat.eq_of_beq_eq_true h.2.1, Nat.le_of_ble_eq_true h.2.2.1, Nat.le_of_ble_eq_true h.2.2.2⟩
theorem zrow_ok {host own nm : String} {Ts Ns : List Cond} {cl : List vw_C} {P : List zM} {code : ByteArray} {fr lo pc : Nat} {ins : Jvm.ClassFile.Instr} {len x1 x2 x3 : Nat} (hb : zrb cl P code fr lo pc ins len x1 x2 x3 = true) (hw : ∀ q ∈ zrw host own cl P ins len x1 x2 x3, zhold Ts Ns q) (hs : ∀ q ∈ zrs own nm cl P ins x1 x2 x3, q.1 = q.2) : decode code pc = .ok (ins, zlen ins len) ∧ zoki host own nm Ts Ns cl fr lo ins x1 x2 x3 ∧ zokc host own Ts Ns cl P fr lo ins x1 x2 x3 := by
  unfold zrb at hb
  rw [Bool.and_eq_true, decide_eq_true_eq] at hb
  refine ⟨hb.1, ?_⟩
  have hb := hb.2
  cases ins with
  | getfield idx =>
    simp only at hb
    split at hb
    · rename_i q hq
      simp only [zrw, hq] at hw
      exact ⟨⟨q, hq, Nat.le_of_ble_eq_true hb, zlw_fl (hw _ List.mem_cons_self)⟩, trivial⟩
    · cases hb
  | putfield idx =>
    simp only at hb
    split at hb
    · rename_i q hq
      simp only [zrw, hq] at hw
      simp only [zrs, hq] at hs
      refine ⟨⟨q, hq, Nat.le_of_ble_eq_true hb, ?_⟩, trivial⟩
      cases hf : (q.2.1 x2).2.2.2 with
      | true =>
        rw [hf] at hw hs
        exact Or.inl ⟨rfl, hs _ List.mem_cons_self, hs _ (List.mem_cons_of_mem _ List.mem_cons_self), hw _ List.mem_cons_self⟩
      | false =>
        rw [hf] at hw
        exact Or.inr ⟨rfl, zlw_fl (hw _ List.mem_cons_self)⟩
    · cases hb
  | new idx =>
    obtain ⟨q, hq⟩ := Option.isSome_iff_exists.mp hb
    simp only [zrw, hq] at hw
    exact ⟨⟨q, hq, hw _ List.mem_cons_self, hw _ (List.mem_cons_of_mem _ List.mem_cons_self), hw _ (List.mem_cons_of_mem _ (List.mem_cons_of_mem _ List.mem_cons_self))⟩, trivial⟩
  | newarray t => exact ⟨hw _ List.mem_cons_self, trivial⟩
  | ldc_w idx => exact ⟨hw _ List.mem_cons_self, trivial⟩
  | multianewarray idx d =>
    cases x1 with
    | zero => exact ⟨hw _ List.mem_cons_self, trivial⟩
    | succ x1 => exact ⟨hw _ List.mem_cons_self, trivial⟩
  | invokespecial idx =>
    cases x3 with
    | zero =>
      simp only [Bool.and_eq_true] at hb
      exact ⟨fun _ => ⟨hw _ List.mem_cons_self, hw _ (List.mem_cons_of_mem _ List.mem_cons_self), hw _ (List.mem_cons_of_mem _ (List.mem_cons_of_mem _ List.mem_cons_self)), Nat.le_of_ble_eq_true hb.1, Nat.le_of_ble_eq_true hb.2⟩, fun h => absurd h (by omega)⟩
    | succ x3 =>
      refine ⟨fun h => absurd h (by omega), fun _ z code mz ret fz lz k na rows hZ => ?_⟩
      simp only [zrw, hZ] at hw
      obtain ⟨e1, e2, e3, e4⟩ := zcb_eq hb hZ
      exact ⟨e1, e2, zmw_ml (hw _ List.mem_cons_self), e3, e4⟩
  | invokevirtual idx =>
    simp only [Bool.and_eq_true] at hb
    refine ⟨trivial, fun z code mz ret fz lz k na rows hZ => ?_⟩
    obtain ⟨q, hq⟩ := Option.isSome_iff_exists.mp hb.1
    simp only [zrw, hZ] at hw
    simp only [zrs, hZ, hq] at hs
    obtain ⟨e1, e2, e3, e4⟩ := zcb_eq hb.2 hZ
    exact ⟨⟨q, hq, hs _ List.mem_cons_self⟩, e1, e2, zmw_ml (hw _ List.mem_cons_self), e3, e4⟩
  | invokestatic idx =>
    refine ⟨trivial, fun z code mz ret fz lz k na rows hZ => ?_⟩
    simp only [zrw, hZ] at hw
    obtain ⟨e1, e2, e3, e4⟩ := zcb_eq hb hZ
    exact ⟨e1, e2, zmw_ml (hw _ List.mem_cons_self), e3, e4⟩
  | _ => exact ⟨trivial, trivial⟩
/-- a method's numbers, words, names -/
def zMb (cl : List vw_C) (P : List zM) (M : zM) : Bool := match M with
  | (_, code, _, _, fr, lo, _, _, rows) => rows.all (fun r => zrb cl P code fr lo r.1 r.2.1 r.2.2.1 r.2.2.2.1 r.2.2.2.2.1 r.2.2.2.2.2)
def zMw (host : String) (cl : List vw_C) (P : List zM) (M : zM) : List (Bool × Cond) := match M with
  | (z, _, _, _, _, _, _, _, rows) => rows.flatMap (fun r => zrw host z.cls cl P r.2.1 r.2.2.1 r.2.2.2.1 r.2.2.2.2.1 r.2.2.2.2.2)
def zMs (cl : List vw_C) (P : List zM) (M : zM) : List (String × String) := match M with
  | (z, _, _, _, _, _, _, _, rows) => rows.flatMap (fun r => zrs z.cls z.name cl P r.2.1 r.2.2.2.1 r.2.2.2.2.1 r.2.2.2.2.2)
/-- words by their places -/
def zpl (Ts Ns : List Cond) (q : Bool × Nat) : Option (Bool × Cond) := match q.1 with
  | true => (Ns[q.2]?).map (fun w => (true, w))
  | false => (Ts[q.2]?).map (fun w => (false, w))
theorem zpl_hold {Ts Ns : List Cond} {ws : List (Bool × Cond)} {is : List (Bool × Nat)} (h : ws.map some = is.map (zpl Ts Ns)) : ∀ q ∈ ws, zhold Ts Ns q := by
  intro q hq
  have h1 : some q ∈ is.map (zpl Ts Ns) := by rw [← h]; exact List.mem_map.mpr ⟨q, hq, rfl⟩
  obtain ⟨⟨b, i⟩, -, hi⟩ := List.mem_map.mp h1
  cases b with
  | true =>
    obtain ⟨w, hw, e⟩ := Option.map_eq_some_iff.mp hi
    rw [← e]
    exact List.mem_of_getElem? hw
  | false =>
    obtain ⟨w, hw, e⟩ := Option.map_eq_some_iff.mp hi
    rw [← e]
    exact List.mem_of_getElem? hw
theorem zM_rows {host : String} {Ts Ns : List Cond} {cl : List vw_C} {P : List zM} {M : zM} (hb : zMb cl P M = true) (hw : ∀ q ∈ zMw host cl P M, zhold Ts Ns q) (hs : (zMs cl P M).map Prod.fst = (zMs cl P M).map Prod.snd) : ∀ row ∈ M.2.2.2.2.2.2.2.2, zrowok host Ts Ns cl P M row := by
  obtain ⟨z, code, mx, ret, fr, lo, kd, na, rows⟩ := M
  intro row hr
  obtain ⟨pc, ins, len, x1, x2, x3⟩ := row
  have hs2 : ∀ q ∈ zMs cl P (z, code, mx, ret, fr, lo, kd, na, rows), q.1 = q.2 := by
    generalize zMs cl P (z, code, mx, ret, fr, lo, kd, na, rows) = l at hs
    induction l with
    | nil => intro q h; cases h
    | cons a t ih =>
      simp only [List.map_cons, List.cons.injEq] at hs
      intro q hq
      rcases List.mem_cons.mp hq with rfl | h9
      · exact hs.1
      · exact ih hs.2 q h9
  have hb1 : rows.all (fun r => zrb cl P code fr lo r.1 r.2.1 r.2.2.1 r.2.2.2.1 r.2.2.2.2.1 r.2.2.2.2.2) = true := hb
  have hb2 : zrb cl P code fr lo pc ins len x1 x2 x3 = true := List.all_eq_true.mp hb1 (pc, ins, len, x1, x2, x3) hr
  have hw1 : ∀ q ∈ rows.flatMap (fun r => zrw host z.cls cl P r.2.1 r.2.2.1 r.2.2.2.1 r.2.2.2.2.1 r.2.2.2.2.2), zhold Ts Ns q := hw
  have hw2 : ∀ q ∈ zrw host z.cls cl P ins len x1 x2 x3, zhold Ts Ns q := fun q hq => hw1 q (List.mem_flatMap.mpr ⟨(pc, ins, len, x1, x2, x3), hr, hq⟩)
  have hs1 : ∀ q ∈ rows.flatMap (fun r => zrs z.cls z.name cl P r.2.1 r.2.2.2.1 r.2.2.2.2.1 r.2.2.2.2.2), q.1 = q.2 := hs2
  have hs3 : ∀ q ∈ zrs z.cls z.name cl P ins x1 x2 x3, q.1 = q.2 := fun q hq => hs1 q (List.mem_flatMap.mpr ⟨(pc, ins, len, x1, x2, x3), hr, hq⟩)
  have key := zrow_ok (host := host) (own := z.cls) (nm := z.name) (Ts := Ts) (Ns := Ns) hb2 hw2 hs3
  unfold zrowok
  exact key
/-- a callee's own words -/
def zcw (M : zM) : List (Bool × Cond) := match M with
  | (z, code, mx, ret, _, _, kd, _, _) => (false, .code z code mx ret) :: (false, .initialized z.cls) :: (match kd with
    | 0 => [(false, .static z)]
    | 1 => [(false, .instanceMethod z)]
    | 2 => [(false, .instanceMethod z), (false, .selects z.cls z z)]
    | _ => [])
theorem zM_meth {Ts Ns : List Cond} {z : MethodName} {code : ByteArray} {mx : Nat} {ret : Option FieldType} {fr lo kd na : Nat} {rows : List (Nat × zI)} (hw : ∀ q ∈ zcw (z, code, mx, ret, fr, lo, kd, na, rows), zhold Ts Ns q) (h1 : z.cls ≠ "java/lang/invoke/MethodHandle" ∧ z.cls ≠ "java/lang/invoke/VarHandle") (h2 : (parseMethodDescriptor z.desc).map (fun d => d.parameters.length) = some na) (h3 : plainFor z = true) (h4 : kd = 1 → z.name = "<init>" ∧ ret = none) : zmeth Ts (z, code, mx, ret, fr, lo, kd, na, rows) := by
  refine ⟨hw _ List.mem_cons_self, hw _ (List.mem_cons_of_mem _ List.mem_cons_self), h1, h2, h3, fun e => ?_, fun e => ?_, fun e => ?_⟩
  · subst e
    exact hw _ (List.mem_cons_of_mem _ (List.mem_cons_of_mem _ List.mem_cons_self))
  · subst e
    exact ⟨(h4 rfl).1, hw _ (List.mem_cons_of_mem _ (List.mem_cons_of_mem _ List.mem_cons_self)), (h4 rfl).2⟩
  · subst e
    exact ⟨hw _ (List.mem_cons_of_mem _ (List.mem_cons_of_mem _ List.mem_cons_self)), hw _ (List.mem_cons_of_mem _ (List.mem_cons_of_mem _ (List.mem_cons_of_mem _ List.mem_cons_self)))⟩
/-- a list picked out of another, by gaps -/
def zpk (gs : List Nat) (l : List Cond) : List Cond := match gs with
  | [] => []
  | g :: gs => match l.drop g with
    | a :: t => a :: zpk gs t
    | [] => []
theorem zpk_in : ∀ (gs : List Nat) (l : List Cond) (w : Cond), w ∈ zpk gs l → w ∈ l
  | [], _, w, h => by cases h
  | g :: gs, l, w, h => by
    simp only [zpk] at h
    split at h
    · rename_i a t e
      have ht : ∀ x, x ∈ a :: t → x ∈ l := fun x hx => List.mem_of_mem_drop (i := g) (by rw [e]; exact hx)
      rcases List.mem_cons.mp h with rfl | h9
      · exact ht _ List.mem_cons_self
      · exact ht w (List.mem_cons_of_mem _ (zpk_in gs t w h9))
    · cases h
end ZMW

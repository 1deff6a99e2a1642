/-! An instruction of the small machine is the machine's. -/
section ZMI
theorem zp2i_eq {st : List Value} {x y : Int32} {r : List Value} (h : zp2i st = some (x, y, r)) : st = .int y :: .int x :: r := by
  unfold zp2i at h
  split at h
  · cases h
    rfl
  · cases h
theorem zp1i_eq {st : List Value} {x : Int32} {r : List Value} (h : zp1i st = some (x, r)) : st = .int x :: r := by
  unfold zp1i at h
  split at h
  · cases h
    rfl
  · cases h
theorem zp2l_eq {st : List Value} {x y : Int64} {r : List Value} (h : zp2l st = some (x, y, r)) : st = .long y :: .long x :: r := by
  unfold zp2l at h
  split at h
  · cases h
    rfl
  · cases h
theorem zp1l_eq {st : List Value} {x : Int64} {r : List Value} (h : zp1l st = some (x, r)) : st = .long x :: r := by
  unfold zp1l at h
  split at h
  · cases h
    rfl
  · cases h
theorem zp1r_eq {st : List Value} {x : Nat} {r : List Value} (h : zp1r st = some (x, r)) : st = .ref x :: r := by
  unfold zp1r at h
  split at h
  · cases h
    rfl
  · cases h
theorem zpir_eq {st : List Value} {i : Int32} {k : Nat} {r : List Value} (h : zpir st = some (i, k, r)) : st = .int i :: .ref k :: r := by
  unfold zpir at h
  split at h
  · cases h
    rfl
  · cases h
theorem zpiir_eq {st : List Value} {x i : Int32} {k : Nat} {r : List Value} (h : zpiir st = some (x, i, k, r)) : st = .int x :: .int i :: .ref k :: r := by
  unfold zpiir at h
  split at h
  · cases h
    rfl
  · cases h
theorem zplir_eq {st : List Value} {x : Int64} {i : Int32} {k : Nat} {r : List Value} (h : zplir st = some (x, i, k, r)) : st = .long x :: .int i :: .ref k :: r := by
  unfold zplir at h
  split at h
  · cases h
    rfl
  · cases h
theorem zprir_eq {st : List Value} {x : Nat} {i : Int32} {k : Nat} {r : List Value} (h : zprir st = some (x, i, k, r)) : st = .ref x :: .int i :: .ref k :: r := by
  unfold zprir at h
  split at h
  · cases h
    rfl
  · cases h
theorem zpvr_eq {st : List Value} {v : Value} {k : Nat} {r : List Value} (h : zpvr st = some (v, k, r)) : st = v :: .ref k :: r := by
  unfold zpvr at h
  split at h
  · cases h
    rfl
  · cases h
theorem zgi_eq {L : List (Option Value)} {i : Nat} {x : Int32} (h : zgi L i = some x) : L[i]? = some (some (.int x)) := by
  unfold zgi at h
  split at h
  · rename_i hq
    cases h
    exact hq
  · cases h
theorem zgl_eq {L : List (Option Value)} {i : Nat} {x : Int64} (h : zgl L i = some x) : L[i]? = some (some (.long x)) := by
  unfold zgl at h
  split at h
  · rename_i hq
    cases h
    exact hq
  · cases h
theorem zga_eq {L : List (Option Value)} {i : Nat} {x : Nat} (h : zga L i = some x) : L[i]? = some (some (.ref x)) := by
  unfold zga at h
  split at h
  · rename_i hq
    cases h
    exact hq
  · cases h
theorem zif_eq {b : Bool} {u : Unit} (h : zif b = some u) : b = true := by
  cases b with
  | true => rfl
  | false => cases h
theorem zcO_eq {σ : List zC} {k : Nat} {x : Nat × List Value} (h : zcO σ k = some x) : ∃ j, k = j + 1 ∧ σ[j]? = some (.inl x) := by
  unfold zcO at h
  split at h
  · rename_i hq
    cases h
    exact zcell_at hq
  · cases h
theorem zcI_eq {σ : List zC} {k : Nat} {x : List Int32} (h : zcI σ k = some x) : ∃ j, k = j + 1 ∧ σ[j]? = some (.inr (.inl (.int, x))) := by
  unfold zcI at h
  split at h
  · rename_i hq
    cases h
    exact zcell_at hq
  · cases h
theorem zcC_eq {σ : List zC} {k : Nat} {x : List Int32} (h : zcC σ k = some x) : ∃ j, k = j + 1 ∧ σ[j]? = some (.inr (.inl (.char, x))) := by
  unfold zcC at h
  split at h
  · rename_i hq
    cases h
    exact zcell_at hq
  · cases h
theorem zcZ_eq {σ : List zC} {k : Nat} {x : List Int32} (h : zcZ σ k = some x) : ∃ j, k = j + 1 ∧ σ[j]? = some (.inr (.inl (.boolean, x))) := by
  unfold zcZ at h
  split at h
  · rename_i hq
    cases h
    exact zcell_at hq
  · cases h
theorem zcJ_eq {σ : List zC} {k : Nat} {x : List Int64} (h : zcJ σ k = some x) : ∃ j, k = j + 1 ∧ σ[j]? = some (.inr (.inr (.inl x))) := by
  unfold zcJ at h
  split at h
  · rename_i hq
    cases h
    exact zcell_at hq
  · cases h
theorem zcR_eq {σ : List zC} {k : Nat} {b : Bool} {x : List Nat} (h : zcR σ k = some (b, x)) : ∃ j, k = j + 1 ∧ ((b = false ∧ σ[j]? = some (.inr (.inr (.inr (.int, x))))) ∨ (b = true ∧ σ[j]? = some (.inr (.inr (.inr (.long, x)))))) := by
  unfold zcR at h
  split at h
  · rename_i hq
    cases h
    obtain ⟨j, h1, h2⟩ := zcell_at hq
    exact ⟨j, h1, Or.inl ⟨rfl, h2⟩⟩
  · rename_i hq
    cases h
    obtain ⟨j, h1, h2⟩ := zcell_at hq
    exact ⟨j, h1, Or.inr ⟨rfl, h2⟩⟩
  · cases h
theorem zgetD {α : Type} {l : List α} {j : Nat} {x d : α} (h : l[j]? = some x) : x = l.getD j d := by
  rw [List.getD_eq_getElem?_getD, h]; rfl
theorem z_upd {l : List Int32} {j : Nat} {x : Int32} (h : j < l.length) : (fun q => (l.set j x).getD q 0) = upd (fun q => l.getD q 0) j x := by
  funext q
  simp only [upd, List.getD_eq_getElem?_getD]
  by_cases e : q = j
  · subst e
    rw [List.getElem?_set_self h, if_pos rfl]; rfl
  · rw [List.getElem?_set_ne (Ne.symm e), if_neg e]
theorem z_updL {l : List Int64} {j : Nat} {x : Int64} (h : j < l.length) : (fun q => (l.set j x).getD q 0) = vp_updL (fun q => l.getD q 0) j x := by
  funext q
  simp only [vp_updL, List.getD_eq_getElem?_getD]
  by_cases e : q = j
  · subst e
    rw [List.getElem?_set_self h, if_pos rfl]; rfl
  · rw [List.getElem?_set_ne (Ne.symm e), if_neg e]
theorem z_updR {l : List Nat} {j x : Nat} {ad : Nat → Nat} (h : j < l.length) : (fun q => ((l.set j x)[q]?).map ad) = va_up (fun q => (l[q]?).map ad) j (some (ad x)) := by
  funext q
  simp only [va_up]
  by_cases e : q = j
  · subst e
    rw [List.getElem?_set_self h, if_pos rfl]; rfl
  · rw [List.getElem?_set_ne (Ne.symm e), if_neg e]
theorem z_rep {N j : Nat} : (List.replicate N (0 : Int32)).getD j 0 = 0 := by
  rw [List.getD_eq_getElem?_getD, List.getElem?_replicate]; split <;> rfl
theorem z_repL {N j : Nat} : (List.replicate N (0 : Int64)).getD j 0 = 0 := by
  rw [List.getD_eq_getElem?_getD, List.getElem?_replicate]; split <;> rfl
/-- what a frame's method gives: the machine, its code, the tables' words, the nest's words -/
def zctx (p : Program) (s : State) (m : MethodId) (args : Array Value) (meth : Method) (c : Code) (cc : ByteArray) (maxL : Nat) (own nm : String) (Ts Ns : List Cond) (D : va_G) (cl : List vw_C) (cT : FieldType → ClassId) (A : Nat → Prop) (H0 : Heap) : Prop :=
  p.tables.exec = Jvm.exec ∧ c.code = cc ∧ c.maxLocals = maxL ∧ s.vm.findClass own = some m.cls ∧ (∀ w ∈ Ts, w.before args s = true) ∧ (∀ w ∈ Ns, va_Nw w s) ∧ zK D cl cT s ∧ (∀ q, H0.size ≤ q → A q) ∧ (nm = "<init>" → meth.name = "<init>")
def zcls (Ts : List Cond) (fty : Nat → Nat → FieldType) (cd : List (List Value)) (ci : Nat) (q : vw_C) : Prop :=
  (∀ w ∈ u_ws q.1 q.2.1 q.2.2, w ∈ Ts) ∧ (∀ k, k < q.2.2 → parseFieldDescriptor (q.2.1 k).2.2.1 = some (fty ci k)) ∧ (∀ a, a < q.2.2 → ∀ b, b < q.2.2 → a ≠ b → (q.2.1 a).2.1 ≠ (q.2.1 b).2.1) ∧
  ∀ fs, cd[ci]? = some fs → fs.length = q.2.2 ∧ fs.all znr = true ∧ ∀ j, j < q.2.2 → defaultValue (fty ci j) = vp_V fs j
def zcl (Ts : List Cond) (fty : Nat → Nat → FieldType) (cd : List (List Value)) (cl : List vw_C) : Prop := ∀ (ci : Nat) (q : vw_C), cl[ci]? = some q → zcls Ts fty cd ci q
def zscr (scr : Option (List Int32)) (s : State) (H0 : Heap) (A : Nat → Prop) (ad0 : Nat → Nat) : Prop := ∀ xs : List Int32, scr = some xs → va_X (ad0 0) xs.length (fun j => xs.getD j 0) s H0 ∧ ad0 0 < H0.size ∧ ¬ A (ad0 0)
def zfl (host own : String) (Ts Ns : List Cond) (idx : Nat) (T : u_T) (k : Nat) : Prop := Cond.fieldLink own idx (T k).1 (T k).2.1 (T k).2.2.1 ∈ Ts ∨ Cond.fieldLinkNest own idx (T k).1 (T k).2.1 (T k).2.2.1 host ∈ Ns
def zlen (ins : Jvm.ClassFile.Instr) (len : Nat) : Nat := match ins with
  | .iconst _ | .lconst _ | .iload_n _ | .lload_n _ | .aload_n _ | .istore_n _ | .lstore_n _ | .astore_n _ | .iadd | .isub | .imul | .iand | .ior | .ixor | .ishl | .ishr | .iushr | .ineg | .lmul | .lsub | .lneg | .ldiv | .lrem | .lcmp | .i2l | .l2i | .i2c | .dup | .dup2 | .iaload | .caload | .baload | .laload | .aaload | .iastore | .castore | .bastore | .lastore | .aastore | .arraylength | .ireturn | .lreturn | .return_ => 1
  | .bipush _ | .iload _ | .lload _ | .aload _ | .istore _ | .lstore _ | .astore _ | .newarray _ => 2
  | .sipush _ | .ldc_w _ | .iinc _ _ | .ifCond _ _ | .if_icmp _ _ | .goto _ | .getfield _ | .putfield _ | .new _ | .invokespecial _ | .invokevirtual _ | .invokestatic _ => 3
  | .multianewarray _ _ => 4
  | _ => len
/-- what an instruction that links asks of the words -/
def zoki (host own nm : String) (Ts Ns : List Cond) (cl : List vw_C) (fr lo : Nat) (ins : Jvm.ClassFile.Instr) (x1 x2 x3 : Nat) : Prop := match ins with
  | .getfield idx => ∃ q, cl[x1]? = some q ∧ x2 < q.2.2 ∧ zfl host own Ts Ns idx q.2.1 x2
  | .putfield idx => ∃ q, cl[x1]? = some q ∧ x2 < q.2.2 ∧ (((q.2.1 x2).2.2.2 = true ∧ nm = "<init>" ∧ (q.2.1 x2).1 = own ∧ Cond.fieldLink own idx (q.2.1 x2).1 (q.2.1 x2).2.1 (q.2.1 x2).2.2.1 ∈ Ts) ∨ ((q.2.1 x2).2.2.2 = false ∧ zfl host own Ts Ns idx q.2.1 x2))
  | .new idx => ∃ q, cl[x1]? = some q ∧ Cond.classLink own idx q.1 ∈ Ts ∧ Cond.instantiable q.1 q.2.2 ∈ Ts ∧ Cond.initialized q.1 ∈ Ts
  | .newarray t => Cond.arrayClass (newarray.typeOf t) ∈ Ts
  | .ldc_w idx => Cond.constant own idx (Int32.ofNat x1) ∈ Ts
  | .multianewarray idx _ => Cond.classLink own idx ("[" ++ (FieldType.array (match x1 with | 0 => FieldType.int | _ + 1 => FieldType.long)).toString) ∈ Ts
  | .invokespecial idx => x3 = 0 → Cond.methodLink own idx objectInit ∈ Ts ∧ Cond.instanceMethod objectInit ∈ Ts ∧ Cond.code objectInit ⟨#[0xb1]⟩ 1 none ∈ Ts ∧ 1 ≤ fr ∧ 20 ≤ lo
  | _ => True
variable {p : Program} {l : Launch} {e : Env} {R : Room} {s : State} {m : MethodId} {args : Array Value} {below : List Frame} {meth : Method} {c : Code} {Q : State → Prop} {D : va_G} {cl : List vw_C} {cT : FieldType → ClassId} {A : Nat → Prop} {H0 : Heap} {maxL : Nat} {ad0 : Nat → Nat} {n0 : Nat}
variable {cc : ByteArray} {own nm : String} {Ts Ns : List Cond} {L : List (Option Value)} {σ : List zC} {pc nc ns : Nat} {st : List Value}
theorem z_icmp (hx : p.tables.exec = Jvm.exec) (hb : c.code = cc) (cnd : Jvm.ClassFile.Cond) {x y : Int32} {off : Int} {t : Nat} (hd : decode cc pc = .ok (.if_icmp cnd off, 3)) (ht : (pc : Int) + off = (t : Int)) (k : zW p l e R s m args below meth c Q D cl cT A H0 maxL ad0 n0 (zbr cnd x y t (pc + 3), L, st, σ, nc, ns)) : zW p l e R s m args below meth c Q D cl cT A H0 maxL ad0 n0 (pc, L, .int y :: .int x :: st, σ, nc, ns) := by
  intro ad H locs ls r
  have k' : W p l e R s m args below meth c H locs nc ns Q (F0 m (zbr cnd x y t (pc + 3)) ls (st.map (zv ad))) := k ad H locs ls r
  cases cnd
  · exact lv_icmp_eq hx hb hd ht (fun h => by rw [show zbr .eq x y t (pc + 3) = t from if_pos h] at k'; exact k') (fun h => by rw [show zbr .eq x y t (pc + 3) = pc + 3 from if_neg h] at k'; exact k')
  · exact lv_icmp_ne hx hb hd ht (fun h => by rw [show zbr .ne x y t (pc + 3) = t from if_neg h] at k'; exact k') (fun h => by rw [show zbr .ne x y t (pc + 3) = pc + 3 from if_pos h] at k'; exact k')
  · exact lv_icmp_lt hx hb hd ht (fun h => by rw [show zbr .lt x y t (pc + 3) = t from if_pos h] at k'; exact k') (fun h => by rw [show zbr .lt x y t (pc + 3) = pc + 3 from if_neg h] at k'; exact k')
  · exact lv_icmp_ge hx hb hd ht (fun h => by rw [show zbr .ge x y t (pc + 3) = t from if_pos h] at k'; exact k') (fun h => by rw [show zbr .ge x y t (pc + 3) = pc + 3 from if_neg h] at k'; exact k')
  · exact lv_icmp_gt hx hb hd ht (fun h => by rw [show zbr .gt x y t (pc + 3) = t from if_pos h] at k'; exact k') (fun h => by rw [show zbr .gt x y t (pc + 3) = pc + 3 from if_neg h] at k'; exact k')
  · exact lv_icmp_le hx hb hd ht (fun h => by rw [show zbr .le x y t (pc + 3) = t from if_pos h] at k'; exact k') (fun h => by rw [show zbr .le x y t (pc + 3) = pc + 3 from if_neg h] at k'; exact k')
theorem z_ifc (hx : p.tables.exec = Jvm.exec) (hb : c.code = cc) (cnd : Jvm.ClassFile.Cond) {x : Int32} {off : Int} {t : Nat} (hd : decode cc pc = .ok (.ifCond cnd off, 3)) (ht : (pc : Int) + off = (t : Int)) (k : zW p l e R s m args below meth c Q D cl cT A H0 maxL ad0 n0 (zbr cnd x 0 t (pc + 3), L, st, σ, nc, ns)) : zW p l e R s m args below meth c Q D cl cT A H0 maxL ad0 n0 (pc, L, .int x :: st, σ, nc, ns) := by
  intro ad H locs ls r
  have k' : W p l e R s m args below meth c H locs nc ns Q (F0 m (zbr cnd x 0 t (pc + 3)) ls (st.map (zv ad))) := k ad H locs ls r
  cases cnd
  · exact lv_if_eq hx hb hd ht (fun h => by rw [show zbr .eq x 0 t (pc + 3) = t from if_pos h] at k'; exact k') (fun h => by rw [show zbr .eq x 0 t (pc + 3) = pc + 3 from if_neg h] at k'; exact k')
  · exact lv_if_ne hx hb hd ht (fun h => by rw [show zbr .ne x 0 t (pc + 3) = t from if_neg h] at k'; exact k') (fun h => by rw [show zbr .ne x 0 t (pc + 3) = pc + 3 from if_pos h] at k'; exact k')
  · exact lv_if_lt hx hb hd ht (fun h => by rw [show zbr .lt x 0 t (pc + 3) = t from if_pos h] at k'; exact k') (fun h => by rw [show zbr .lt x 0 t (pc + 3) = pc + 3 from if_neg h] at k'; exact k')
  · exact lv_if_ge hx hb hd ht (fun h => by rw [show zbr .ge x 0 t (pc + 3) = t from if_pos h] at k'; exact k') (fun h => by rw [show zbr .ge x 0 t (pc + 3) = pc + 3 from if_neg h] at k'; exact k')
  · exact lv_if_gt hx hb hd ht (fun h => by rw [show zbr .gt x 0 t (pc + 3) = t from if_pos h] at k'; exact k') (fun h => by rw [show zbr .gt x 0 t (pc + 3) = pc + 3 from if_neg h] at k'; exact k')
  · exact lv_if_le hx hb hd ht (fun h => by rw [show zbr .le x 0 t (pc + 3) = t from if_pos h] at k'; exact k') (fun h => by rw [show zbr .le x 0 t (pc + 3) = pc + 3 from if_neg h] at k'; exact k')
theorem z_get (X : zctx p s m args meth c cc maxL own nm Ts Ns D cl cT A H0) {fty : Nat → Nat → FieldType} {cd : List (List Value)} (hCl : zcl Ts fty cd cl) {host : String} {idx ci x2 k : Nat} {q : vw_C} {fs : List Value} {v : Value} (hq : cl[ci]? = some q) (h2 : x2 < q.2.2) (hl : zfl host own Ts Ns idx q.2.1 x2) (hd : decode cc pc = .ok (.getfield idx, 3)) (hσ : σ[k]? = some (.inl (ci, fs))) (hv : fs[x2]? = some v) (kk : zW p l e R s m args below meth c Q D cl cT A H0 maxL ad0 n0 (pc + 3, L, v :: st, σ, nc, ns)) : zW p l e R s m args below meth c Q D cl cT A H0 maxL ad0 n0 (pc, L, .ref (k + 1) :: st, σ, nc, ns) := by
  obtain ⟨hx, hb, hml, hown, hts, hns, hK, hA, hnm⟩ := X
  intro ad H locs ls r
  obtain ⟨C, T, N⟩ := q
  have hv' : (fs.map (zv ad))[x2]? = some (zv ad v) := by rw [List.getElem?_map, hv]; rfl
  rcases hl with hl | hl
  · exact va_get (D := D) (cl := cl) (tys := zT cT) (ws := zws cT ad σ) hx hb hts (hCl ci _ hq).1 hown hK.1 r.2.1.1 k (zws_get hσ) hq x2 h2 (hts _ hl) (fun _ h => h) hv' hd (kk ad H locs ls r)
  · exact va_getN (D := D) (cl := cl) (tys := zT cT) (ws := zws cT ad σ) hx hb hts (hCl ci _ hq).1 hown hK.1 r.2.1.1 k (zws_get hσ) hq x2 h2 (va_Nw.use rfl (hns _ hl)) (fun _ h => h) hv' hd (kk ad H locs ls r)
theorem z_put (X : zctx p s m args meth c cc maxL own nm Ts Ns D cl cT A H0) {fty : Nat → Nat → FieldType} {cd : List (List Value)} (hCl : zcl Ts fty cd cl) {host : String} {fr lo idx ci x2 x3 k : Nat} {fs : List Value} {v : Value} (hok : zoki host own nm Ts Ns cl fr lo (.putfield idx) ci x2 x3) (hd : decode cc pc = .ok (.putfield idx, 3)) (hσ : σ[k]? = some (.inl (ci, fs))) (hv : x2 < fs.length) (hf : zfit (fty ci x2) v = true) (kk : zW p l e R s m args below meth c Q D cl cT A H0 maxL ad0 n0 (pc + 3, L, st, σ.set k (.inl (ci, fs.set x2 v)), nc, ns)) : zW p l e R s m args below meth c Q D cl cT A H0 maxL ad0 n0 (pc, L, v :: .ref (k + 1) :: st, σ, nc, ns) := by
  obtain ⟨hx, hb, hml, hown, hts, hns, hK, hA, hnm⟩ := X
  intro ad H locs ls r
  have hf2 := zfit_nar hf
  have hzv : zfit (fty ci x2) (zv ad v) = true := by
    cases v with
    | ref a => cases hty : fty ci x2 <;> rw [hty] at hf <;> first | rfl | cases hf
    | _ => exact hf
  have hf3 := zfit_nar hzv
  have hlen : x2 < (fs.map (zv ad)).length := by rw [List.length_map]; exact hv
  have e1 : zcz cT ad (.inl (ci, fs.set x2 v)) = .inr (ci, (fs.map (zv ad)).set x2 (zv ad v)) := by simp only [zcz, List.map_set]
  have fin : ∀ (H1 : Heap) (locs1 : List Loc), va_P D cl ((zws cT ad σ).set k (ad (k + 1), .inr (ci, (fs.map (zv ad)).set x2 (zv ad v)))) H1 → va_D A ((zws cT ad σ).set k (ad (k + 1), .inr (ci, (fs.map (zv ad)).set x2 (zv ad v)))) → va_S A H0 H1 locs1 → W p l e R s m args below meth c H1 locs1 nc ns Q (F0 m (pc + 3) ls (st.map (zv ad))) := fun H1 locs1 hP hD hS => kk ad H1 locs1 ls (r.put (by rw [e1]; exact hP) (by rw [e1]; exact hD) hS)
  obtain ⟨⟨C, T, N⟩, hq, h2, hl⟩ := hok
  obtain ⟨c1, c2, c3, -⟩ := hCl ci _ hq
  rcases hl with ⟨hfin, g1, g2, g3⟩ | ⟨hfin, hl⟩
  · exact va_putF (D := D) (cl := cl) (tys := zT cT) (ws := zws cT ad σ) hx hb hts c1 (fty ci) c2 c3 hown hK.1 r.2.1.1 r.2.1.2.1 r.2.1.2.2 k (zws_get hσ) hq x2 h2 (hts _ g3) (fun _ h => h) hfin (hnm g1) g2 (c2 x2 h2) hf3.1 hf3.2 hlen hd fin
  · rcases hl with hl | hl
    · exact va_put (D := D) (cl := cl) (tys := zT cT) (ws := zws cT ad σ) hx hb hts c1 (fty ci) c2 c3 hown hK.1 r.2.1.1 r.2.1.2.1 r.2.1.2.2 k (zws_get hσ) hq x2 h2 (hts _ hl) (fun _ h => h) hfin (c2 x2 h2) hf3.1 hf3.2 hlen hd fin
    · exact va_putN (D := D) (cl := cl) (tys := zT cT) (ws := zws cT ad σ) hx hb hts c1 (fty ci) c2 c3 hown hK.1 r.2.1.1 r.2.1.2.1 r.2.1.2.2 k (zws_get hσ) hq x2 h2 (va_Nw.use rfl (hns _ hl)) (fun _ h => h) hfin (c2 x2 h2) hf3.1 hf3.2 hlen hd fin
theorem z_new (X : zctx p s m args meth c cc maxL own nm Ts Ns D cl cT A H0) {fty : Nat → Nat → FieldType} {cd : List (List Value)} (hCl : zcl Ts fty cd cl) {host : String} {fr lo idx ci x2 x3 : Nat} {fs : List Value} (hok : zoki host own nm Ts Ns cl fr lo (.new idx) ci x2 x3) (hd : decode cc pc = .ok (.new idx, 3)) (hcd : cd[ci]? = some fs) (hc : zclosed σ.length L st σ = true) (hr : nc + 1 ≤ R.cells ∧ ns + fs.length ≤ R.slots) (kk : zW p l e R s m args below meth c Q D cl cT A H0 maxL ad0 n0 (pc + 3, L, .ref (σ.length + 1) :: st, σ ++ [.inl (ci, fs)], nc + 1, ns + fs.length)) : zW p l e R s m args below meth c Q D cl cT A H0 maxL ad0 n0 (pc, L, st, σ, nc, ns) := by
  obtain ⟨hx, hb, hml, hown, hts, hns, hK, hA, hnm⟩ := X
  intro ad H locs ls r
  obtain ⟨⟨C, T, N⟩, hq, hok⟩ := hok
  obtain ⟨c1, c2, c3, c4⟩ := hCl ci _ hq
  obtain ⟨d1, d2, d3⟩ := c4 fs hcd
  have d1 : fs.length = N := d1
  subst d1
  refine va_new (D := D) (cl := cl) (tys := zT cT) (ws := zws cT ad σ) hx hb hts c1 (fty ci) c2 hown (hts _ hok.1) (hts _ hok.2.1) (hts _ hok.2.2) hK.1 r.2.1.1 r.2.1.2.1 r.2.1.2.2 hA hq d3 hr.1 hr.2 hd fun q H1 hP hD hS => ?_
  have ha : ∀ k, k ≤ σ.length → (fun k => if k ≤ σ.length then ad k else q) k = ad k := fun k hk => if_pos hk
  have e0 : zws cT (fun k => if k ≤ σ.length then ad k else q) (σ ++ [.inl (ci, fs)]) = zws cT ad σ ++ [(q, .inr (ci, fs))] := by
    rw [zws_app1, zws_congr ha (by simp only [zclosed, Bool.and_eq_true] at hc; exact hc.2.2)]
    simp only [zcz, zmap_nr d2]
    rw [if_neg (Nat.not_succ_le_self _)]
  obtain ⟨r1, r2, -⟩ := r.push (τ := [.inl (ci, fs)]) (d := nc) hc ha (by rw [e0]; exact hP) (by rw [e0]; exact hD) hS
  have k' := kk _ H1 locs ls r1
  simp only [List.map_cons, zv] at k'
  rw [if_neg (Nat.not_succ_le_self _), r2] at k'
  exact k'
theorem z_newa (X : zctx p s m args meth c cc maxL own nm Ts Ns D cl cT A H0) {t : Jvm.ClassFile.ArrayType} {n : Int32} {N : Nat} {x : zC} (hT : Cond.arrayClass (newarray.typeOf t) ∈ Ts) (hd : decode cc pc = .ok (.newarray t, 2)) (hn : zix n = some N) (hN : N ≤ 1000) (hx9 : znew t N = some x) (hc : zclosed σ.length L st σ = true) (hr : nc + 1 ≤ R.cells ∧ ns + N ≤ R.slots) (kk : zW p l e R s m args below meth c Q D cl cT A H0 maxL ad0 n0 (pc + 2, L, .ref (σ.length + 1) :: st, σ ++ [x], nc + 1, ns + N)) : zW p l e R s m args below meth c Q D cl cT A H0 maxL ad0 n0 (pc, L, .int n :: st, σ, nc, ns) := by
  obtain ⟨hx, hb, hml, hown, hts, hns, hK, hA, hnm⟩ := X
  intro ad H locs ls r
  have hn0 : ¬ n < 0 ∧ n.toNatClampNeg = N := by
    unfold zix at hn
    split at hn
    · cases hn
    · rename_i h0
      exact ⟨h0, Option.some.inj hn⟩
  have main : ∀ (ty : FieldType) (t0 : Nat) (a0 : vp_A), newarray.typeOf t = ty → (zT cT)[t0]? = some (cT ty, ty) → (∀ ad' : Nat → Nat, zcz cT ad' x = .inl (cT ty, a0)) → (∀ cA : ClassId, vp_cell cA a0 = arrV cA N (fun _ => defaultValue ty)) → N * componentBytes ty ≤ 536870912 → (∀ (cA : ClassId), va_RA s cA ty → va_RA s (cT ty) ty → cA = cT ty) → W p l e R s m args below meth c H locs nc ns Q (F0 m pc ls (.int n :: st.map (zv ad))) := by
    intro ty t0 a0 h1 h2 h3 h4 h5 h6
    refine va_newa (D := D) (cl := cl) (tys := zT cT) (ws := zws cT ad σ) hx hb (hts _ hT) h1 hK.1 r.2.1.1 r.2.1.2.1 r.2.1.2.2 hA h4 hn0.1 hn0.2 h5 hr.1 hr.2 hd fun q cA H1 hK2 hP hD hS => ?_
    have hcA : cA = cT ty := h6 cA (hK2.2 (zT cT).length (cA, ty) (by rw [List.getElem?_append_right (Nat.le_refl _), Nat.sub_self]; rfl)).2 (hK.1.2 t0 _ h2).2
    subst hcA
    have ha : ∀ k, k ≤ σ.length → (fun k => if k ≤ σ.length then ad k else q) k = ad k := fun k hk => if_pos hk
    have e0 : zws cT (fun k => if k ≤ σ.length then ad k else q) (σ ++ [x]) = zws cT ad σ ++ [(q, .inl (cT ty, a0))] := by
      rw [zws_app1, zws_congr ha (by simp only [zclosed, Bool.and_eq_true] at hc; exact hc.2.2), h3]
      rw [if_neg (Nat.not_succ_le_self _)]
    obtain ⟨r1, r2, -⟩ := r.push (τ := [x]) (d := nc) hc ha (by rw [e0]; exact hP) (by rw [e0]; exact hD) hS
    have k' := kk _ H1 locs ls r1
    simp only [List.map_cons, zv] at k'
    rw [if_neg (Nat.not_succ_le_self _), r2] at k'
    exact k'
  cases t with
  | int =>
    cases Option.some.inj hx9
    exact main .int 0 ((List.replicate N (0 : Int32)).length, .inl (fun j => (List.replicate N (0 : Int32)).getD j 0)) rfl rfl (fun _ => rfl) (fun cA => by rw [vp_cell_i, List.length_replicate]; congr 1; funext j; rw [z_rep]; rfl) (by show N * 4 ≤ _; omega) (fun cA h h' => Option.some.inj (h.symm.trans h'))
  | char =>
    cases Option.some.inj hx9
    exact main .char 2 ((List.replicate N (0 : Int32)).length, .inl (fun j => (List.replicate N (0 : Int32)).getD j 0)) rfl rfl (fun _ => rfl) (fun cA => by rw [vp_cell_i, List.length_replicate]; congr 1; funext j; rw [z_rep]; rfl) (by show N * 2 ≤ _; omega) (fun cA h h' => Option.some.inj (h.symm.trans h'))
  | boolean =>
    cases Option.some.inj hx9
    exact main .boolean 3 ((List.replicate N (0 : Int32)).length, .inl (fun j => (List.replicate N (0 : Int32)).getD j 0)) rfl rfl (fun _ => rfl) (fun cA => by rw [vp_cell_i, List.length_replicate]; congr 1; funext j; rw [z_rep]; rfl) (by show N * 1 ≤ _; omega) (fun cA h h' => Option.some.inj (h.symm.trans h'))
  | long =>
    cases Option.some.inj hx9
    exact main .long 1 ((List.replicate N (0 : Int64)).length, .inr (.inl (fun j => (List.replicate N (0 : Int64)).getD j 0))) rfl rfl (fun _ => rfl) (fun cA => by rw [vp_cell_l, List.length_replicate]; congr 1; funext j; rw [z_repL]; rfl) (by show N * 8 ≤ _; omega) (fun cA h h' => Option.some.inj (h.symm.trans h'))
  | _ => cases hx9
theorem z_iald (X : zctx p s m args meth c cc maxL own nm Ts Ns D cl cT A H0) {i : Int32} {k j : Nat} {l1 : List Int32} {x : Int32} (hd : decode cc pc = .ok (.iaload, 1)) (hσ : σ[k]? = some (.inr (.inl (.int, l1)))) (hi : zix i = some j) (hj : l1[j]? = some x) (kk : zW p l e R s m args below meth c Q D cl cT A H0 maxL ad0 n0 (pc + 1, L, .int x :: st, σ, nc, ns)) : zW p l e R s m args below meth c Q D cl cT A H0 maxL ad0 n0 (pc, L, .int i :: .ref (k + 1) :: st, σ, nc, ns) := by
  obtain ⟨hx, hb, hml, hown, hts, hns, hK, hA, hnm⟩ := X
  intro ad H locs ls r
  obtain ⟨h1, h2⟩ := zix_in hi (List.getElem?_eq_some_iff.mp hj).1
  subst h2
  obtain rfl : x = l1.getD i.toNatClampNeg 0 := zgetD hj
  exact va_iald (D := D) (cl := cl) (tys := zT cT) (ws := zws cT ad σ) hx hb hK.1 r.2.1.1 k 0 (zws_get hσ) rfl h1 hd (kk ad H locs ls r)
theorem z_cald (X : zctx p s m args meth c cc maxL own nm Ts Ns D cl cT A H0) {i : Int32} {k j : Nat} {l1 : List Int32} {x : Int32} (hd : decode cc pc = .ok (.caload, 1)) (hσ : σ[k]? = some (.inr (.inl (.char, l1)))) (hi : zix i = some j) (hj : l1[j]? = some x) (kk : zW p l e R s m args below meth c Q D cl cT A H0 maxL ad0 n0 (pc + 1, L, .int x :: st, σ, nc, ns)) : zW p l e R s m args below meth c Q D cl cT A H0 maxL ad0 n0 (pc, L, .int i :: .ref (k + 1) :: st, σ, nc, ns) := by
  obtain ⟨hx, hb, hml, hown, hts, hns, hK, hA, hnm⟩ := X
  intro ad H locs ls r
  obtain ⟨h1, h2⟩ := zix_in hi (List.getElem?_eq_some_iff.mp hj).1
  subst h2
  obtain rfl : x = l1.getD i.toNatClampNeg 0 := zgetD hj
  exact va_cald (D := D) (cl := cl) (tys := zT cT) (ws := zws cT ad σ) hx hb hK.1 r.2.1.1 k 2 (zws_get hσ) rfl h1 hd (kk ad H locs ls r)
theorem z_zald (X : zctx p s m args meth c cc maxL own nm Ts Ns D cl cT A H0) {i : Int32} {k j : Nat} {l1 : List Int32} {x : Int32} (hd : decode cc pc = .ok (.baload, 1)) (hσ : σ[k]? = some (.inr (.inl (.boolean, l1)))) (hi : zix i = some j) (hj : l1[j]? = some x) (kk : zW p l e R s m args below meth c Q D cl cT A H0 maxL ad0 n0 (pc + 1, L, .int x :: st, σ, nc, ns)) : zW p l e R s m args below meth c Q D cl cT A H0 maxL ad0 n0 (pc, L, .int i :: .ref (k + 1) :: st, σ, nc, ns) := by
  obtain ⟨hx, hb, hml, hown, hts, hns, hK, hA, hnm⟩ := X
  intro ad H locs ls r
  obtain ⟨h1, h2⟩ := zix_in hi (List.getElem?_eq_some_iff.mp hj).1
  subst h2
  obtain rfl : x = l1.getD i.toNatClampNeg 0 := zgetD hj
  exact va_zald (D := D) (cl := cl) (tys := zT cT) (ws := zws cT ad σ) hx hb hK.1 r.2.1.1 k 3 (zws_get hσ) rfl h1 hd (kk ad H locs ls r)
theorem z_lald (X : zctx p s m args meth c cc maxL own nm Ts Ns D cl cT A H0) {i : Int32} {k j : Nat} {l1 : List Int64} {x : Int64} (hd : decode cc pc = .ok (.laload, 1)) (hσ : σ[k]? = some (.inr (.inr (.inl l1)))) (hi : zix i = some j) (hj : l1[j]? = some x) (kk : zW p l e R s m args below meth c Q D cl cT A H0 maxL ad0 n0 (pc + 1, L, .long x :: st, σ, nc, ns)) : zW p l e R s m args below meth c Q D cl cT A H0 maxL ad0 n0 (pc, L, .int i :: .ref (k + 1) :: st, σ, nc, ns) := by
  obtain ⟨hx, hb, hml, hown, hts, hns, hK, hA, hnm⟩ := X
  intro ad H locs ls r
  obtain ⟨h1, h2⟩ := zix_in hi (List.getElem?_eq_some_iff.mp hj).1
  subst h2
  obtain rfl : x = l1.getD i.toNatClampNeg 0 := zgetD hj
  exact va_lald (D := D) (cl := cl) (tys := zT cT) (ws := zws cT ad σ) hx hb hK.1 r.2.1.1 k 1 (zws_get hσ) rfl h1 hd (kk ad H locs ls r)
theorem z_iast (X : zctx p s m args meth c cc maxL own nm Ts Ns D cl cT A H0) {i : Int32} {k j : Nat} {l1 : List Int32} {x : Int32} (hd : decode cc pc = .ok (.iastore, 1)) (hσ : σ[k]? = some (.inr (.inl (.int, l1)))) (hi : zix i = some j) (hj : j < l1.length) (kk : zW p l e R s m args below meth c Q D cl cT A H0 maxL ad0 n0 (pc + 1, L, st, σ.set k (.inr (.inl (.int, l1.set j x))), nc, ns)) : zW p l e R s m args below meth c Q D cl cT A H0 maxL ad0 n0 (pc, L, .int x :: .int i :: .ref (k + 1) :: st, σ, nc, ns) := by
  obtain ⟨hx, hb, hml, hown, hts, hns, hK, hA, hnm⟩ := X
  intro ad H locs ls r
  obtain ⟨h1, h2⟩ := zix_in hi hj
  subst h2
  have e1 : zcz cT ad (.inr (.inl (.int, l1.set i.toNatClampNeg x))) = .inl (cT .int, l1.length, .inl (upd (fun q => l1.getD q 0) i.toNatClampNeg x)) := by
    simp only [zcz, List.length_set]
    rw [z_upd hj]
  exact va_iast (D := D) (cl := cl) (tys := zT cT) (ws := zws cT ad σ) hx hb hK.1 r.2.1.1 r.2.1.2.1 r.2.1.2.2 k 0 (zws_get hσ) rfl h1 hd fun H1 locs1 hP hD hS => kk ad H1 locs1 ls (r.put (by rw [e1]; exact hP) (by rw [e1]; exact hD) hS)
theorem z_cast (X : zctx p s m args meth c cc maxL own nm Ts Ns D cl cT A H0) {i : Int32} {k j : Nat} {l1 : List Int32} {x : Int32} (hd : decode cc pc = .ok (.castore, 1)) (hσ : σ[k]? = some (.inr (.inl (.char, l1)))) (hi : zix i = some j) (hj : j < l1.length) (kk : zW p l e R s m args below meth c Q D cl cT A H0 maxL ad0 n0 (pc + 1, L, st, σ.set k (.inr (.inl (.char, l1.set j (vp_nar .char x)))), nc, ns)) : zW p l e R s m args below meth c Q D cl cT A H0 maxL ad0 n0 (pc, L, .int x :: .int i :: .ref (k + 1) :: st, σ, nc, ns) := by
  obtain ⟨hx, hb, hml, hown, hts, hns, hK, hA, hnm⟩ := X
  intro ad H locs ls r
  obtain ⟨h1, h2⟩ := zix_in hi hj
  subst h2
  have e1 : zcz cT ad (.inr (.inl (.char, l1.set i.toNatClampNeg (vp_nar .char x)))) = .inl (cT .char, l1.length, .inl (upd (fun q => l1.getD q 0) i.toNatClampNeg (vp_nar .char x))) := by
    simp only [zcz, List.length_set]
    rw [z_upd hj]
  exact va_cast (D := D) (cl := cl) (tys := zT cT) (ws := zws cT ad σ) hx hb hK.1 r.2.1.1 r.2.1.2.1 r.2.1.2.2 k 2 (zws_get hσ) rfl h1 hd fun H1 locs1 hP hD hS => kk ad H1 locs1 ls (r.put (by rw [e1]; exact hP) (by rw [e1]; exact hD) hS)
theorem z_zast (X : zctx p s m args meth c cc maxL own nm Ts Ns D cl cT A H0) {i : Int32} {k j : Nat} {l1 : List Int32} {x : Int32} (hd : decode cc pc = .ok (.bastore, 1)) (hσ : σ[k]? = some (.inr (.inl (.boolean, l1)))) (hi : zix i = some j) (hj : j < l1.length) (kk : zW p l e R s m args below meth c Q D cl cT A H0 maxL ad0 n0 (pc + 1, L, st, σ.set k (.inr (.inl (.boolean, l1.set j (vp_nar .boolean x)))), nc, ns)) : zW p l e R s m args below meth c Q D cl cT A H0 maxL ad0 n0 (pc, L, .int x :: .int i :: .ref (k + 1) :: st, σ, nc, ns) := by
  obtain ⟨hx, hb, hml, hown, hts, hns, hK, hA, hnm⟩ := X
  intro ad H locs ls r
  obtain ⟨h1, h2⟩ := zix_in hi hj
  subst h2
  have e1 : zcz cT ad (.inr (.inl (.boolean, l1.set i.toNatClampNeg (vp_nar .boolean x)))) = .inl (cT .boolean, l1.length, .inl (upd (fun q => l1.getD q 0) i.toNatClampNeg (vp_nar .boolean x))) := by
    simp only [zcz, List.length_set]
    rw [z_upd hj]
  exact va_zast (D := D) (cl := cl) (tys := zT cT) (ws := zws cT ad σ) hx hb hK.1 r.2.1.1 r.2.1.2.1 r.2.1.2.2 k 3 (zws_get hσ) rfl h1 hd fun H1 locs1 hP hD hS => kk ad H1 locs1 ls (r.put (by rw [e1]; exact hP) (by rw [e1]; exact hD) hS)
theorem z_last (X : zctx p s m args meth c cc maxL own nm Ts Ns D cl cT A H0) {i : Int32} {k j : Nat} {l1 : List Int64} {x : Int64} (hd : decode cc pc = .ok (.lastore, 1)) (hσ : σ[k]? = some (.inr (.inr (.inl l1)))) (hi : zix i = some j) (hj : j < l1.length) (kk : zW p l e R s m args below meth c Q D cl cT A H0 maxL ad0 n0 (pc + 1, L, st, σ.set k (.inr (.inr (.inl (l1.set j x)))), nc, ns)) : zW p l e R s m args below meth c Q D cl cT A H0 maxL ad0 n0 (pc, L, .long x :: .int i :: .ref (k + 1) :: st, σ, nc, ns) := by
  obtain ⟨hx, hb, hml, hown, hts, hns, hK, hA, hnm⟩ := X
  intro ad H locs ls r
  obtain ⟨h1, h2⟩ := zix_in hi hj
  subst h2
  have e1 : zcz cT ad (.inr (.inr (.inl (l1.set i.toNatClampNeg x)))) = .inl (cT .long, l1.length, .inr (.inl (vp_updL (fun q => l1.getD q 0) i.toNatClampNeg x))) := by
    simp only [zcz, List.length_set]
    rw [z_updL hj]
  exact va_last (D := D) (cl := cl) (tys := zT cT) (ws := zws cT ad σ) hx hb hK.1 r.2.1.1 r.2.1.2.1 r.2.1.2.2 k 1 (zws_get hσ) rfl h1 hd fun H1 locs1 hP hD hS => kk ad H1 locs1 ls (r.put (by rw [e1]; exact hP) (by rw [e1]; exact hD) hS)
theorem z_aald (X : zctx p s m args meth c cc maxL own nm Ts Ns D cl cT A H0) {t : FieldType} {t0 : Nat} (ht : (zT cT)[t0]? = some (cT (.array t), .array t)) {i : Int32} {k j x : Nat} {l1 : List Nat} (hd : decode cc pc = .ok (.aaload, 1)) (hσ : σ[k]? = some (.inr (.inr (.inr (t, l1))))) (hi : zix i = some j) (hj : l1[j]? = some x) (kk : zW p l e R s m args below meth c Q D cl cT A H0 maxL ad0 n0 (pc + 1, L, .ref x :: st, σ, nc, ns)) : zW p l e R s m args below meth c Q D cl cT A H0 maxL ad0 n0 (pc, L, .int i :: .ref (k + 1) :: st, σ, nc, ns) := by
  obtain ⟨hx, hb, hml, hown, hts, hns, hK, hA, hnm⟩ := X
  intro ad H locs ls r
  obtain ⟨h1, h2⟩ := zix_in hi (List.getElem?_eq_some_iff.mp hj).1
  subst h2
  have hlt : i.toNatClampNeg < l1.length := (List.getElem?_eq_some_iff.mp hj).1
  exact W.aald (v := .ref (ad x)) (ty := .array t) hx hb (r.2.1.1 k _ (zws_get hσ)) ((hK.1.2 t0 _ ht).1 l1.length (fun q => va_rf ((l1[q]?).map ad))) rfl (fun q => by cases q) (by show ¬ (i < 0 ∨ (arrV _ _ _).slots.size ≤ _); rw [arrV_size]; exact h1) (by show (arrV _ _ _).slots[_]? = _; rw [arrV_read _ _ hlt]; show some (va_rf ((l1[i.toNatClampNeg]?).map ad)) = _; rw [hj]; rfl) rfl rfl hd (kk ad H locs ls r)
theorem z_aast (X : zctx p s m args meth c cc maxL own nm Ts Ns D cl cT A H0) {i : Int32} {k j x : Nat} {l1 : List Nat} {l2 : List Int64} (hd : decode cc pc = .ok (.aastore, 1)) (hσ : σ[k]? = some (.inr (.inr (.inr (.long, l1))))) (hσ2 : σ[x]? = some (.inr (.inr (.inl l2)))) (hi : zix i = some j) (hj : j < l1.length) (kk : zW p l e R s m args below meth c Q D cl cT A H0 maxL ad0 n0 (pc + 1, L, st, σ.set k (.inr (.inr (.inr (.long, l1.set j (x + 1))))), nc, ns)) : zW p l e R s m args below meth c Q D cl cT A H0 maxL ad0 n0 (pc, L, .ref (x + 1) :: .int i :: .ref (k + 1) :: st, σ, nc, ns) := by
  obtain ⟨hx, hb, hml, hown, hts, hns, hK, hA, hnm⟩ := X
  intro ad H locs ls r
  obtain ⟨h1, h2⟩ := zix_in hi hj
  subst h2
  have h0 : ¬ i < 0 := fun q => h1 (Or.inl q)
  obtain ⟨kA, kc, co, g1, g2, g3, g4⟩ := hK.2.2
  have e1 : zcz cT ad (.inr (.inr (.inr (.long, l1.set i.toNatClampNeg (x + 1))))) = .inl (cT (.array .long), l1.length, .inr (.inr (.inr (.inr (va_up (fun q => (l1[q]?).map ad) i.toNatClampNeg (some (ad (x + 1)))))))) := by
    simp only [zcz, List.length_set]
    rw [z_updR hj]
  refine W.aast (v := ad (x + 1)) (t := .array .long) hx hb (r.2.1.1 k _ (zws_get hσ)) (fun q h => by cases h) (fun h => by cases h) g1 g2 rfl g3 ⟨h0, by show _ < (arrV _ _ _).slots.size; rw [arrV_size]; exact hj⟩ (r.2.1.1 x _ (zws_get hσ2)) (fun q h => by cases h) g3 (by show Vm.assignableAux s.vm (255 + 1) (cT .long) (cT .long) = true; rw [Vm.assignableAux, beq_self_eq_true, Bool.true_or]) rfl rfl hd fun H1 ee z oq => ?_
  refine kk ad H1 _ ls (r.put (x := .inr (.inr (.inr (.long, l1.set i.toNatClampNeg (x + 1))))) ?_ ?_ (r.2.1.2.2.put z oq (r.2.1.2.1.2 k _ (zws_get hσ))))
  · rw [e1]
    refine r.2.1.1.set r.2.1.2.1 (zws_get hσ) ?_ oq
    show H1[ad (k + 1)]? = some (vp_cell _ _)
    rw [ee]
    show some ((vp_cell (cT (.array .long)) (l1.length, .inr (.inr (.inr (.inr (fun q => (l1[q]?).map ad)))))).setSlot _ _) = _
    rw [vp_cell_q, vp_cell_q, arrV_store]
    congr 2
    funext q
    by_cases hq : q = i.toNatClampNeg
    · subst hq
      simp [updV, va_up, va_rf]
    · simp [updV, va_up, hq]
  · rw [e1]
    exact r.2.1.2.1.set (zws_get hσ)
end ZMI
/-! multianewarray of two dimensions. -/
section ZMM
def zoc (cA : ClassId) (N h i : Nat) : Cell := arrV cA N (fun j => if j < i then .ref (h + 1 + j) else .null)
def zic (co : ClassId) (K : Nat) (dv : Value) : Cell := arrV co K (fun _ => dv)
def zmk (T : State) (cA co : ClassId) (N K : Nat) (dv : Value) : Nat → State
  | 0 => T.pushCell (zoc cA N T.heap.size 0)
  | i + 1 => ((zmk T cA co N K dv i).pushCell (zic co K dv)).setCell T.heap.size (zoc cA N T.heap.size (i + 1))
theorem zoc_set (cA : ClassId) (N h i : Nat) : (zoc cA N h i).setSlot i (.ref (h + 1 + i)) = zoc cA N h (i + 1) := by
  unfold zoc
  rw [arrV_store]
  congr 1
  funext j
  simp only [updV]
  by_cases e : j = i
  · subst e
    rw [if_pos rfl, if_pos (Nat.lt_succ_self _)]
  · rw [if_neg e]
    by_cases h2 : j < i
    · rw [if_pos h2, if_pos (by omega)]
    · rw [if_neg h2, if_neg (by omega)]
theorem zoc_0 (cA : ClassId) (N h : Nat) : ({ cls := cA, slots := Array.replicate N .null, vm := .none } : Cell) = zoc cA N h 0 := by
  rw [arrV_new]
  unfold zoc
  congr 1
theorem zmk_at (T : State) (cA co : ClassId) (N K : Nat) (dv : Value) : ∀ i, (zmk T cA co N K dv i).heap.size = T.heap.size + 1 + i ∧ (zmk T cA co N K dv i).heap[T.heap.size]? = some (zoc cA N T.heap.size i) ∧ (zmk T cA co N K dv i).vm = T.vm ∧ (zmk T cA co N K dv i).slotsUsed = T.slotsUsed + N + i * K
  | 0 => ⟨by simp [zmk], by simp [zmk], rfl, by simp [zmk, zoc, arrV]⟩
  | i + 1 => by
    obtain ⟨a, b, d, u⟩ := zmk_at T cA co N K dv i
    have hlt : T.heap.size < (zmk T cA co N K dv i).heap.size := by omega
    have hb : ((zmk T cA co N K dv i).pushCell (zic co K dv)).heap[T.heap.size]? = some (zoc cA N T.heap.size i) := by
      rw [State.heap_pushCell_of_lt (h := hlt)]; exact b
    refine ⟨?_, ?_, by simp [zmk, d], ?_⟩
    · simp [zmk, State.setCell, a]; omega
    · exact State.heap_setCell_self hb
    · simp [zmk, u, zic, arrV, Nat.succ_mul]; omega
theorem zmk_old (T : State) (cA co : ClassId) (N K : Nat) (dv : Value) {a : Addr} (ha : a < T.heap.size) : ∀ i, (zmk T cA co N K dv i).heap[a]? = T.heap[a]?
  | 0 => State.heap_pushCell_of_lt _ _ ha
  | i + 1 => by
    have f1 := (zmk_at T cA co N K dv i).1
    have hlt : a < (zmk T cA co N K dv i).heap.size := Nat.lt_of_lt_of_le ha (by rw [f1]; omega)
    show (((zmk T cA co N K dv i).pushCell (zic co K dv)).setCell T.heap.size _).heap[a]? = _
    rw [State.heap_setCell_other (Nat.ne_of_gt ha), State.heap_pushCell_of_lt (h := hlt)]
    exact zmk_old T cA co N K dv ha i
theorem zmk_in (T : State) (cA co : ClassId) (N K : Nat) (dv : Value) : ∀ i j, j < i → (zmk T cA co N K dv i).heap[T.heap.size + 1 + j]? = some (zic co K dv)
  | 0, _, h => absurd h (Nat.not_lt_zero _)
  | i + 1, j, h => by
    have f1 := (zmk_at T cA co N K dv i).1
    show (((zmk T cA co N K dv i).pushCell (zic co K dv)).setCell T.heap.size _).heap[T.heap.size + 1 + j]? = _
    rw [State.heap_setCell_other (show T.heap.size ≠ T.heap.size + 1 + j by omega)]
    rcases Nat.lt_or_ge j i with hj | hj
    · have hl9 : T.heap.size + 1 + j < (zmk T cA co N K dv i).heap.size := by rw [f1]; omega
      rw [State.heap_pushCell_of_lt (h := hl9)]
      exact zmk_in T cA co N K dv i j hj
    · have e : j = i := by omega
      subst e
      rw [← f1]
      exact State.heap_pushCell_size _ _
theorem zmk_top (T : State) (f : JFrame) (cA co : ClassId) (N K : Nat) (dv : Value) : ∀ i, zmk (T.setTop f) cA co N K dv i = (zmk T cA co N K dv i).setTop f
  | 0 => rfl
  | i + 1 => by simp only [zmk, zmk_top T f cA co N K dv i, State.heap_setTop, State.pushCell_setTop, State.setCell_setTop]
section
variable {E : CtlPost} {e : Env} {d : Bool} {acts : List Action} {s : State}
theorem zwp_new {c0 co : ClassId} {k : Class} {ty : FieldType} {len : Nat} {v : Value} (hk : s.vm.classes[c0]? = some k) (hkind : k.kind = .array co ty) (h3 : ¬ len > e.platform.arrayLengthLimit) (h4 : ¬ len * componentBytes ty > e.platform.maxHeapBytes) (hf : fits ty v = true) (hv : v.isDefault = true) {Q9 : Addr → Pre} (h1 : s.heap.size < e.platform.maxCells) (h2 : s.slotsUsed + len ≤ e.platform.maxSlots) (hq : Q9 s.heap.size d acts (s.pushCell (arrV c0 len (fun _ => v)))) : wp (Jvm.newArray c0 len v) Q9 E e d acts s := by
  have hfs : ∀ i w, (Array.replicate len v)[i]? = some w → s.fitsSlot c0 .none i w = true := by
    intro i w hw
    rw [Array.getElem?_replicate] at hw
    split at hw
    · cases hw
      simp [State.fitsSlot, State.slotType?, hk, hkind, hf]
    · cases hw
  have ha : allocActs (Array.replicate len v) s.heap.size acts = acts := by
    have h9 : ((Array.replicate len v).all (·.isDefault)) = true := by
      rw [Array.all_replicate]
      split <;> simp [hv]
    unfold allocActs
    rw [if_pos h9]
  rw [← arrV_new] at hq
  simp only [Jvm.newArray, Jvm.arrayFits, wp_bind', W.ask, W.ite, h3, if_false, wp_pure', W.theClass, hk, hkind, h4, W.alloc, W.stop, Option.some.injEq, exists_eq_left', Array.size_replicate, ha]
  rw [if_neg (by omega)]
  exact ⟨h1, h2, hfs, hq⟩
theorem zwp_row {co cx : ClassId} {kc : Class} {t : FieldType} {k9 : Int32} (hkc : s.vm.classes[co]? = some kc) (hkc2 : kc.kind = .array cx t) (hk : ¬ k9 < 0) (h3 : ¬ k9.toNatClampNeg > e.platform.arrayLengthLimit) (h4 : ¬ k9.toNatClampNeg * componentBytes t > e.platform.maxHeapBytes) (hf : fits t (defaultValue t) = true) (hv : (defaultValue t).isDefault = true) (h1 : s.heap.size < e.platform.maxCells) (h2 : s.slotsUsed + k9.toNatClampNeg ≤ e.platform.maxSlots) {Q9 : Addr → Pre} (hq : Q9 s.heap.size d acts (s.pushCell (zic co k9.toNatClampNeg (defaultValue t)))) : wp (Op.multianewarray.make co [k9]) Q9 E e d acts s := by
  rw [Op.multianewarray.make]
  simp only [wp_bind', W.ite, hk, if_false, wp_pure', W.theClass, hkc, hkc2, Option.some.injEq, exists_eq_left']
  exact zwp_new hkc hkc2 h3 h4 hf hv h1 h2 hq
theorem zref_fits {t : FieldType} (v : Value) (hv : v = .null ∨ ∃ a, v = .ref a) : fits (.array t) v = true := by
  rcases hv with rfl | ⟨a, rfl⟩ <;> rfl
theorem zwp_grid {cA co cx : ClassId} {kA kc : Class} {t : FieldType} {n k9 : Int32} (hkA : s.vm.classes[cA]? = some kA) (hkA2 : kA.kind = .array co (.array t)) (hkc : s.vm.classes[co]? = some kc) (hkc2 : kc.kind = .array cx t) (hn : ¬ n < 0) (hk : ¬ k9 < 0) (h3 : ¬ n.toNatClampNeg > e.platform.arrayLengthLimit) (h4 : ¬ n.toNatClampNeg * componentBytes (.array t) > e.platform.maxHeapBytes) (h5 : ¬ k9.toNatClampNeg > e.platform.arrayLengthLimit) (h6 : ¬ k9.toNatClampNeg * componentBytes t > e.platform.maxHeapBytes) (hf : fits t (defaultValue t) = true) (hv : (defaultValue t).isDefault = true) (hc : s.heap.size + 1 + n.toNatClampNeg ≤ e.platform.maxCells) (hs : s.slotsUsed + n.toNatClampNeg + n.toNatClampNeg * k9.toNatClampNeg ≤ e.platform.maxSlots) {Q9 : Addr → Pre} (hq : ∀ d' acts', Q9 s.heap.size d' acts' (zmk s cA co n.toNatClampNeg k9.toNatClampNeg (defaultValue t) n.toNatClampNeg)) : wp (Op.multianewarray.make cA [n, k9]) Q9 E e d acts s := by
  have hfind : ([k9].find? (· < 0)) = none := by simp [hk]
  rw [Op.multianewarray.make]
  simp only [wp_bind', W.ite, hn, if_false, wp_pure', W.theClass, hkA, hkA2, Option.some.injEq, exists_eq_left']
  refine zwp_new hkA hkA2 h3 h4 (zref_fits _ (Or.inl rfl)) rfl (by omega) (by have := Nat.zero_le (n.toNatClampNeg * k9.toNatClampNeg); omega) ?_
  simp only [hfind]
  rw [ite_self, wp_bind', Std.Legacy.Range.forIn_eq_forIn_range']
  have hsz : ([:n.toNatClampNeg] : Std.Legacy.Range).size = n.toNatClampNeg := by simp [Std.Legacy.Range.size]
  rw [hsz]
  show wp (forIn (List.range' 0 n.toNatClampNeg 1) PUnit.unit _) _ E e d acts _
  refine wp_forIn_inv (fun rest s' => ∃ i, i ≤ n.toNatClampNeg ∧ rest = List.range' i (n.toNatClampNeg - i) ∧ s' = zmk s cA co n.toNatClampNeg k9.toNatClampNeg (defaultValue t) i) _ _ ⟨0, Nat.zero_le _, rfl, rfl⟩ ?_ ?_
  · rintro x rest s' d' acts' Q' ⟨i, hi, hl, rfl⟩ hnext
    have hlt : i < n.toNatClampNeg := by
      rcases Nat.lt_or_ge i n.toNatClampNeg with h | h
      · exact h
      · rw [show n.toNatClampNeg - i = 0 by omega] at hl
        simp at hl
    rw [show n.toNatClampNeg - i = (n.toNatClampNeg - (i + 1)) + 1 by omega, List.range'_succ] at hl
    obtain ⟨rfl, hrest⟩ := List.cons.inj hl
    obtain ⟨f1, f2, f3, f4⟩ := zmk_at s cA co n.toNatClampNeg k9.toNatClampNeg (defaultValue t) x
    have hmul : x * k9.toNatClampNeg + k9.toNatClampNeg ≤ n.toNatClampNeg * k9.toNatClampNeg := by
      have h9 := Nat.mul_le_mul_right k9.toNatClampNeg (show x + 1 ≤ n.toNatClampNeg from hlt)
      rw [Nat.succ_mul] at h9
      exact h9
    simp only [wp_bind']
    refine zwp_row (by rw [f3]; exact hkc) hkc2 hk h5 h6 hf hv (by rw [f1]; omega) (by rw [f4]; omega) ?_
    have hlt0 : s.heap.size < (zmk s cA co n.toNatClampNeg k9.toNatClampNeg (defaultValue t) x).heap.size := by rw [f1]; omega
    simp only [wp_bind', W.writeLoc, wp_pure']
    refine ⟨zoc cA n.toNatClampNeg s.heap.size x, by rw [State.heap_pushCell_of_lt (h := hlt0)]; exact f2, by simp [zoc, arrV], by rw [zoc, arrV_size]; exact hlt, ?_, hnext _ _ _ ⟨x + 1, hlt, hrest, ?_⟩⟩
    · show State.fitsSlot _ cA .none _ _ = true
      simp [State.fitsSlot, State.slotType?, f3, hkA, hkA2, zref_fits _ (Or.inr ⟨_, rfl⟩)]
    · rw [f1, zoc_set]; rfl
  · rintro s' d' acts' ⟨i, hi, hl, rfl⟩
    have hiN : i = n.toNatClampNeg := by
      rcases Nat.lt_or_ge i n.toNatClampNeg with h | h
      · rw [show n.toNatClampNeg - i = (n.toNatClampNeg - (i + 1)) + 1 by omega, List.range'_succ] at hl
        cases hl
      · omega
    subst hiN
    simp only [wp_pure']
    exact hq _ _
end
section
variable {p : Program} {l : Launch} {e : Env} {R : Room} {s : State} {m : MethodId} {args : Array Value} {below : List Frame} {meth : Method} {c : Code} {T : State} {locs : List Loc} {cells slots : Nat}
theorem zst_grid (X : Stand p l e R s m args below meth c T locs cells slots) (cA co : ClassId) (N K : Nat) (dv : Value) : ∀ i, Stand p l e R s m args below meth c (zmk T cA co N K dv i) (locs ++ (List.range i).map fun j => ⟨T.heap.size, j⟩) (cells + 1 + i) (slots + N + i * K)
  | 0 => by
    have h := X.pushed (zoc cA N T.heap.size 0)
    rw [zoc, arrV_size] at h
    simpa [zmk, zoc] using h
  | i + 1 => by
    have Xi := zst_grid X cA co N K dv i
    obtain ⟨f1, f2, f3, f4⟩ := zmk_at T cA co N K dv i
    have hlt0 : T.heap.size < (zmk T cA co N K dv i).heap.size := by rw [f1]; omega
    have hcell : ((zmk T cA co N K dv i).pushCell (zic co K dv)).heap[T.heap.size]? = some (zoc cA N T.heap.size i) := by
      rw [State.heap_pushCell_of_lt (h := hlt0)]; exact f2
    have h := (Xi.pushed (zic co K dv)).stored hcell i (.ref (T.heap.size + 1 + i))
    rw [zoc_set, show (zic co K dv).slots.size = K from arrV_size _ _ _] at h
    have e2 : (locs ++ (List.range (i + 1)).map fun j => (⟨T.heap.size, j⟩ : Loc)) = (locs ++ (List.range i).map fun j => (⟨T.heap.size, j⟩ : Loc)) ++ [⟨T.heap.size, i⟩] := by simp [List.range_succ, List.append_assoc]
    have e3 : slots + N + (i + 1) * K = slots + N + i * K + K := by rw [Nat.succ_mul]; omega
    rw [e2, e3]
    exact h
theorem zW_grid {H : Heap} {Q : State → Prop} {cc : ByteArray} {pc : Nat} {ls : Array Slot} {rest : List Value} (hexec : p.tables.exec = Jvm.exec) (hb : c.code = cc) {own : String} {index : Nat} {t : FieldType} {cA co cx : ClassId} {kA kc : Class} (hown : s.vm.findClass own = some m.cls) (hlink : (Cond.classLink own index ("[" ++ (FieldType.array t).toString)).before args s = true) (hfA : s.vm.findClass ("[" ++ (FieldType.array t).toString) = some cA) (hkA : s.vm.classes[cA]? = some kA) (hkA2 : kA.kind = .array co (.array t)) (hkc : s.vm.classes[co]? = some kc) (hkc2 : kc.kind = .array cx t) {n k9 : Int32} {N K : Nat} (hn : ¬ n < 0) (hk : ¬ k9 < 0) (hN : n.toNatClampNeg = N) (hK : k9.toNatClampNeg = K) (hb1 : N * 4 ≤ 536870912) (hb2 : K * componentBytes t ≤ 536870912) (hb3 : K ≤ 536870912) (hf : fits t (defaultValue t) = true) (hv : (defaultValue t).isDefault = true) (hcells : cells + (1 + N) ≤ R.cells) (hslots : slots + (N + N * K) ≤ R.slots) (hd : decode cc pc = .ok (.multianewarray index 2, 4))
    (kk : ∀ H1 : Heap, H1.size = H.size + 1 + N → (∀ q, q < H.size → H1[q]? = H[q]?) → H1[H.size]? = some (zoc cA N H.size N) → (∀ j, j < N → H1[H.size + 1 + j]? = some (zic co K (defaultValue t))) → W p l e R s m args below meth c H1 (locs ++ (List.range N).map fun j => ⟨H.size, j⟩) (cells + 1 + N) (slots + N + N * K) Q (F0 m (pc + 4) ls (.ref H.size :: rest))) : W p l e R s m args below meth c H locs cells slots Q (F0 m pc ls (.int k9 :: .int n :: rest)) := by
  subst hN
  subst hK
  intro T hT X
  subst hT
  subst hb
  have hpl : e.platform.magicAccessors = ({} : Platform).magicAccessors := by rw [X.admits.platform]
  obtain ⟨c0, hfc0, hcl⟩ := Cond.classLink_spec hown hlink e.platform hpl
  cases hfA.symm.trans hfc0
  obtain ⟨hg₁, hwarm₁, hready₁⟩ := State.classEntry (e := e) X.warmed hcl
  generalize T.vm.noted m.cls index (.cls cA) = vm₁ at hg₁ hwarm₁ hready₁
  have hal : s.vm.Alike vm₁ := hwarm₁.alike
  obtain ⟨kA₁, hkA₁, heA⟩ := hal.2.2 _ _ hkA
  obtain ⟨kc₁, hkc₁, hec⟩ := hal.2.2 _ _ hkc
  have hA2 : kA₁.kind = .array co (.array t) := by rw [heA]; exact hkA2
  have hc2 : kc₁.kind = .array cx t := by rw [hec]; exact hkc2
  have X₁ := X.noted hwarm₁
  obtain ⟨hr1, hr2⟩ := X.roomAbove hcells hslots
  obtain ⟨f1, f2, f3, f4⟩ := zmk_at (T.setVm vm₁) cA co n.toNatClampNeg k9.toNatClampNeg (defaultValue t) n.toNatClampNeg
  have XF := zst_grid X₁ cA co n.toNatClampNeg k9.toNatClampNeg (defaultValue t) n.toNatClampNeg
  obtain ⟨tt, a1, b1⟩ := kk _ f1 (fun q hq => zmk_old (T.setVm vm₁) cA co _ _ _ hq _) f2 (fun j hj => zmk_in (T.setVm vm₁) cA co _ _ _ _ j hj) _ rfl XF
  refine ⟨tt, ?_, b1⟩
  have hl1 : ¬ n.toNatClampNeg > e.platform.arrayLengthLimit := by rw [Launch.admits_arrayLengthLimit X.admits]; omega
  have hh1 : ¬ n.toNatClampNeg * componentBytes (.array t) > e.platform.maxHeapBytes := by
    rw [Launch.admits_maxHeapBytes X.admits]; show ¬ n.toNatClampNeg * 4 > 536870912; omega
  have hl2 : ¬ k9.toNatClampNeg > e.platform.arrayLengthLimit := by rw [Launch.admits_arrayLengthLimit X.admits]; omega
  have hh2 : ¬ k9.toNatClampNeg * componentBytes t > e.platform.maxHeapBytes := by rw [Launch.admits_maxHeapBytes X.admits]; omega
  jvm_step X.here [hexec, hd]
  simp only [Op.multianewarray.sem, wp_bind', W.resolveClassAt_links (State.method?_setTop (F0 m pc ls (.int k9 :: .int n :: rest)) X.here.top) hg₁]
  rw [W.popN, if_neg (by decide)]
  refine ⟨F0 m pc ls (.int k9 :: .int n :: rest), State.topJava?_setTop' (s := T.setVm vm₁) _ X.here.top, [.int n, .int k9], rest, rfl, rfl, ?_⟩
  simp only [List.mapM_cons, List.mapM_nil, wp_bind', wp_pure']
  refine zwp_grid (kA := kA₁) (kc := kc₁) (co := co) (cx := cx) (t := t) hkA₁ hA2 hkc₁ hc2 hn hk hl1 hh1 hl2 hh2 hf hv (by show T.heap.size + 1 + _ ≤ _; omega) (by show T.slotsUsed + _ + _ ≤ _; omega) (fun d' acts' => ?_)
  have eS : ((T.setTop (F0 m pc ls (.int k9 :: .int n :: rest))).setVm vm₁).setTop { F0 m pc ls (.int k9 :: .int n :: rest) with stack := rest } = (T.setVm vm₁).setTop { F0 m pc ls (.int k9 :: .int n :: rest) with stack := rest } := by
    show ((T.setVm vm₁).setTop _).setTop _ = _
    rw [State.setTop_setTop]
  rw [eS, zmk_top]
  simp only [wp_bind', W.mark, W.pushRef, State.topJava?_setTop' _ XF.here.top, Option.some.injEq, exists_eq_left', State.setTop_setTop, State.heap_setTop]
  intro acts
  simp [jvm, XF.here.top]
  exact a1
end
end ZMM
section ZMN
variable {p : Program} {l : Launch} {e : Env} {R : Room} {s : State} {m : MethodId} {args : Array Value} {below : List Frame} {meth : Method} {c : Code} {Q : State → Prop} {D : va_G} {cl : List vw_C} {cT : FieldType → ClassId} {A : Nat → Prop} {H0 : Heap} {maxL : Nat} {ad0 : Nat → Nat} {n0 : Nat}
variable {cc : ByteArray} {own nm : String} {Ts Ns : List Cond} {L : List (Option Value)} {σ : List zC} {pc nc ns : Nat} {st : List Value}
theorem z_multiT (X : zctx p s m args meth c cc maxL own nm Ts Ns D cl cT A H0) {K : Nat} {t : FieldType} {t0 : Nat} (ht : (zT cT)[t0]? = some (cT (.array t), .array t)) (hG : zG cT t s) {y : zC} (hy : ∀ ad' : Nat → Nat, ∃ a0 : vp_A, zcz cT ad' y = .inl (cT t, a0) ∧ vp_cell (cT t) a0 = zic (cT t) K (defaultValue t)) (hf : fits t (defaultValue t) = true) (hv : (defaultValue t).isDefault = true) (hb2 : K * componentBytes t ≤ 536870912) {idx N : Nat} {n k9 : Int32} (hT : Cond.classLink own idx ("[" ++ (FieldType.array t).toString) ∈ Ts) (hd : decode cc pc = .ok (.multianewarray idx 2, 4)) (hn : zix n = some N) (hk : zix k9 = some K) (hN : N ≤ 1000) (hK9 : K ≤ 1000) (hc : zclosed σ.length L st σ = true) (hr : nc + N + 1 ≤ R.cells ∧ ns + (N + N * K) ≤ R.slots) (kk : zW p l e R s m args below meth c Q D cl cT A H0 maxL ad0 n0 (pc + 4, L, .ref (σ.length + 1) :: st, σ ++ (.inr (.inr (.inr (t, (List.range N).map (fun j => σ.length + 2 + j)))) :: List.replicate N y), nc + N + 1, ns + (N + N * K))) : zW p l e R s m args below meth c Q D cl cT A H0 maxL ad0 n0 (pc, L, .int k9 :: .int n :: st, σ, nc, ns) := by
  obtain ⟨hx, hb, hml, hown, hts, hns, hK, hA, hnm⟩ := X
  intro ad H locs ls r
  have hn0 : ¬ n < 0 ∧ n.toNatClampNeg = N := by
    unfold zix at hn
    split at hn
    · cases hn
    · rename_i h0
      exact ⟨h0, Option.some.inj hn⟩
  have hk0 : ¬ k9 < 0 ∧ k9.toNatClampNeg = K := by
    unfold zix at hk
    split at hk
    · cases hk
    · rename_i h0
      exact ⟨h0, Option.some.inj hk⟩
  obtain ⟨kA, kc, co, g1, g2, g3, g4⟩ := hG
  have hfA : s.vm.findClass ("[" ++ (FieldType.array t).toString) = some (cT (.array t)) := (hK.1.2 t0 _ ht).2
  obtain ⟨hP, hD, hS⟩ := id r.2.1
  refine zW_grid hx hb hown (hts _ hT) hfA g1 g2 g3 g4 hn0.1 hk0.1 hn0.2 hk0.2 (by omega) hb2 (by omega) hf hv (by show nc + (1 + N) ≤ R.cells; omega) hr.2 hd fun H1 z1 o1 e1 i1 => ?_
  let ad' : Nat → Nat := fun k => if k ≤ σ.length then ad k else H.size + (k - (σ.length + 1))
  have ha : ∀ k, k ≤ σ.length → ad' k = ad k := fun k hk => if_pos hk
  have hb9 : ∀ j, ad' (σ.length + 1 + j) = H.size + j := fun j => by
    show (if _ then _ else _) = _
    rw [if_neg (by omega)]
    omega
  have hcl3 : σ.all (zcok σ.length) = true := by simp only [zclosed, Bool.and_eq_true] at hc; exact hc.2.2
  have hτ : ∀ (k : Nat) (x : zC), (σ ++ (.inr (.inr (.inr (t, (List.range N).map (fun j => σ.length + 2 + j)))) :: List.replicate N y))[k]? = some x → (k < σ.length ∧ σ[k]? = some x) ∨ (k = σ.length ∧ x = .inr (.inr (.inr (t, (List.range N).map (fun j => σ.length + 2 + j))))) ∨ ∃ j, j < N ∧ k = σ.length + 1 + j ∧ x = y := by
    intro k x hx9
    rcases Nat.lt_or_ge k σ.length with h9 | h9
    · rw [List.getElem?_append_left h9] at hx9
      exact Or.inl ⟨h9, hx9⟩
    · rw [List.getElem?_append_right h9] at hx9
      obtain ⟨j, rfl⟩ : ∃ j, k = σ.length + j := ⟨k - σ.length, by omega⟩
      rw [Nat.add_sub_cancel_left] at hx9
      cases j with
      | zero =>
        rw [List.getElem?_cons_zero] at hx9
        exact Or.inr (Or.inl ⟨rfl, (Option.some.inj hx9).symm⟩)
      | succ j =>
        rw [List.getElem?_cons_succ, List.getElem?_replicate] at hx9
        split at hx9
        · rename_i hj
          exact Or.inr (Or.inr ⟨j, hj, by omega, (Option.some.inj hx9).symm⟩)
        · cases hx9
  have hPn : va_P D cl (zws cT ad' (σ ++ (.inr (.inr (.inr (t, (List.range N).map (fun j => σ.length + 2 + j)))) :: List.replicate N y))) H1 := by
    intro k q hq
    simp only [zws, List.getElem?_mapIdx, Option.map_eq_some_iff] at hq
    obtain ⟨x, hx1, rfl⟩ := hq
    rcases hτ k x hx1 with ⟨h1, h2⟩ | ⟨rfl, rfl⟩ | ⟨j, hj, rfl, rfl⟩
    · have h3 := hP k _ (zws_get h2)
      rw [ha (k + 1) h1, zcz_congr ha (List.all_eq_true.mp hcl3 x (List.mem_of_getElem? h2))]
      exact h3.kept (o1 _ h3.lt)
    · show H1[ad' (σ.length + 1)]? = some (vp_cell _ _)
      rw [show ad' (σ.length + 1) = H.size from hb9 0, e1, vp_cell_q]
      simp only [List.length_map, List.length_range]
      unfold zoc
      congr 2
      funext j
      by_cases hj : j < N
      · rw [if_pos hj, List.getElem?_map, List.getElem?_range hj]
        show Value.ref _ = Value.ref (ad' (σ.length + 2 + j))
        rw [show σ.length + 2 + j = σ.length + 1 + (1 + j) by omega, hb9]
        exact congrArg Value.ref (Nat.add_assoc _ _ _)
      · rw [if_neg hj, List.getElem?_map, List.getElem?_eq_none (by simp; omega)]
        rfl
    · obtain ⟨a0, y1, y2⟩ := hy ad'
      rw [y1]
      show H1[ad' (σ.length + 1 + j + 1)]? = some (vp_cell _ _)
      rw [y2, show σ.length + 1 + j + 1 = σ.length + 1 + (1 + j) by omega, hb9, show H.size + (1 + j) = H.size + 1 + j by omega]
      exact i1 j hj
  have hDn : va_D A (zws cT ad' (σ ++ (.inr (.inr (.inr (t, (List.range N).map (fun j => σ.length + 2 + j)))) :: List.replicate N y))) := by
    have addr : ∀ (k : Nat) (q : Nat × va_E), (zws cT ad' (σ ++ (.inr (.inr (.inr (t, (List.range N).map (fun j => σ.length + 2 + j)))) :: List.replicate N y)))[k]? = some q → (k < σ.length ∧ (∃ x, σ[k]? = some x) ∧ q.1 = ad (k + 1) ∧ q.1 < H.size ∧ A q.1) ∨ (σ.length ≤ k ∧ q.1 = H.size + (k - σ.length)) := by
      intro k q hq
      simp only [zws, List.getElem?_mapIdx, Option.map_eq_some_iff] at hq
      obtain ⟨x, hx1, rfl⟩ := hq
      rcases hτ k x hx1 with ⟨h1, h2⟩ | ⟨rfl, rfl⟩ | ⟨j, hj, rfl, rfl⟩
      · exact Or.inl ⟨h1, ⟨x, h2⟩, ha (k + 1) h1, by rw [ha (k + 1) h1]; exact (hP k _ (zws_get h2)).lt, by rw [ha (k + 1) h1]; exact hD.2 k (ad (k + 1), zcz cT ad x) (zws_get h2)⟩
      · exact Or.inr ⟨Nat.le_refl _, by show ad' (σ.length + 1) = _; rw [show ad' (σ.length + 1) = H.size from hb9 0, Nat.sub_self]; rfl⟩
      · exact Or.inr ⟨by omega, by show ad' (σ.length + 1 + j + 1) = _; rw [show σ.length + 1 + j + 1 = σ.length + 1 + (1 + j) by omega, hb9]; omega⟩
    refine ⟨fun i j x1 x2 hi hj hxy => ?_, fun k q hq => ?_⟩
    · rcases addr i x1 hi with ⟨a1, ⟨w1, a2⟩, a3, a4, -⟩ | ⟨a1, a2⟩ <;> rcases addr j x2 hj with ⟨b1, ⟨w2, b2⟩, b3, b4, -⟩ | ⟨b1, b2⟩
      · exact hD.1 i j _ _ (zws_get a2) (zws_get b2) (by show ad (i + 1) = ad (j + 1); rw [← a3, ← b3]; exact hxy)
      · omega
      · omega
      · omega
    · rcases addr k q hq with ⟨-, -, -, -, h9⟩ | ⟨h9, h8⟩
      · exact h9
      · rw [h8]
        exact hA _ (Nat.le_trans hS.1 (Nat.le_add_right _ _))
  have hSn : va_S A H0 H1 (locs ++ (List.range N).map fun j => ⟨H.size, j⟩) := by
    refine ⟨Nat.le_trans hS.1 (by omega), fun q h1 h2 => (o1 q (Nat.lt_of_lt_of_le h1 hS.1)).trans (hS.2.1 q h1 h2), fun q hq => ?_⟩
    rcases List.mem_append.mp hq with h9 | h9
    · exact hS.2.2 q h9
    · obtain ⟨j, -, rfl⟩ := List.mem_map.mp h9
      exact hA _ hS.1
  obtain ⟨r1, r2, -⟩ := r.push (d := nc + N) hc ha hPn hDn hSn
  have k' := kk ad' H1 _ ls r1
  simp only [List.map_cons, zv] at k'
  rw [r2, show ad' (σ.length + 1) = H.size from hb9 0] at k'
  have e5 : nc + N + 1 = nc + 1 + N := by omega
  have e6 : ns + (N + N * K) = ns + N + N * K := by omega
  rw [e5, e6] at k'
  exact k'
theorem z_multi (X : zctx p s m args meth c cc maxL own nm Ts Ns D cl cT A H0) {idx x1 N K : Nat} {n k9 : Int32} (hT : Cond.classLink own idx ("[" ++ (FieldType.array (match x1 with | 0 => FieldType.int | _ + 1 => FieldType.long)).toString) ∈ Ts) (hd : decode cc pc = .ok (.multianewarray idx 2, 4)) (hn : zix n = some N) (hk : zix k9 = some K) (hN : N ≤ 1000) (hK9 : K ≤ 1000) (hc : zclosed σ.length L st σ = true) (hr : nc + N + 1 ≤ R.cells ∧ ns + (N + N * K) ≤ R.slots) (kk : zW p l e R s m args below meth c Q D cl cT A H0 maxL ad0 n0 (pc + 4, L, .ref (σ.length + 1) :: st, σ ++ zgrid x1 σ.length N K, nc + N + 1, ns + (N + N * K))) : zW p l e R s m args below meth c Q D cl cT A H0 maxL ad0 n0 (pc, L, .int k9 :: .int n :: st, σ, nc, ns) := by
  cases x1 with
  | zero =>
    exact z_multiT (t := .int) (t0 := 4) (y := .inr (.inl (.int, List.replicate K 0))) (K := K) X rfl X.2.2.2.2.2.2.1.2.1 (fun ad' => ⟨_, rfl, by rw [vp_cell_i, List.length_replicate]; unfold zic; congr 1; funext j; rw [z_rep]; rfl⟩) rfl rfl (by show K * 4 ≤ _; omega) hT hd hn hk hN hK9 hc hr kk
  | succ x1 =>
    exact z_multiT (t := .long) (t0 := 5) (y := .inr (.inr (.inl (List.replicate K 0)))) (K := K) X rfl X.2.2.2.2.2.2.1.2.2 (fun ad' => ⟨_, rfl, by rw [vp_cell_l, List.length_replicate]; unfold zic; congr 1; funext j; rw [z_repL]; rfl⟩) rfl rfl (by show K * 8 ≤ _; omega) hT hd hn hk hN hK9 hc hr kk
end ZMN
section ZMJ
variable {p : Program} {l : Launch} {e : Env} {R : Room} {s : State} {m : MethodId} {args : Array Value} {below : List Frame} {meth : Method} {c : Code} {Q : State → Prop} {D : va_G} {cl : List vw_C} {cT : FieldType → ClassId} {A : Nat → Prop} {H0 : Heap} {maxL : Nat} {ad0 : Nat → Nat} {n0 : Nat}
variable {cc : ByteArray} {own nm : String} {Ts Ns : List Cond} {L : List (Option Value)} {σ : List zC} {pc nc ns : Nat} {st : List Value}
set_option maxHeartbeats 4000000 in
theorem z_mono {fty : Nat → Nat → FieldType} {cd : List (List Value)} {x1 x2 x3 : Nat} {scr : Option (List Int32)} {ins : Jvm.ClassFile.Instr} {a' : zS} (h : zstep scr fty cd ins x1 x2 x3 pc L st σ nc ns = some a') : nc ≤ a'.2.2.2.2.1 ∧ ns ≤ a'.2.2.2.2.2 := by
  cases ins with
  | iconst n =>
    cases Option.some.inj h
    exact ⟨Nat.le_refl _, Nat.le_refl _⟩
  | bipush n =>
    cases Option.some.inj h
    exact ⟨Nat.le_refl _, Nat.le_refl _⟩
  | sipush n =>
    cases Option.some.inj h
    exact ⟨Nat.le_refl _, Nat.le_refl _⟩
  | ldc_w idx =>
    cases Option.some.inj h
    exact ⟨Nat.le_refl _, Nat.le_refl _⟩
  | lconst n =>
    cases Option.some.inj h
    exact ⟨Nat.le_refl _, Nat.le_refl _⟩
  | iload i =>
    obtain ⟨x, h1, h⟩ := Option.bind_eq_some_iff.mp h
    cases Option.some.inj h
    exact ⟨Nat.le_refl _, Nat.le_refl _⟩
  | iload_n i =>
    obtain ⟨x, h1, h⟩ := Option.bind_eq_some_iff.mp h
    cases Option.some.inj h
    exact ⟨Nat.le_refl _, Nat.le_refl _⟩
  | lload i =>
    obtain ⟨x, h1, h⟩ := Option.bind_eq_some_iff.mp h
    cases Option.some.inj h
    exact ⟨Nat.le_refl _, Nat.le_refl _⟩
  | lload_n i =>
    obtain ⟨x, h1, h⟩ := Option.bind_eq_some_iff.mp h
    cases Option.some.inj h
    exact ⟨Nat.le_refl _, Nat.le_refl _⟩
  | aload i =>
    obtain ⟨x, h1, h⟩ := Option.bind_eq_some_iff.mp h
    cases Option.some.inj h
    exact ⟨Nat.le_refl _, Nat.le_refl _⟩
  | aload_n i =>
    obtain ⟨x, h1, h⟩ := Option.bind_eq_some_iff.mp h
    cases Option.some.inj h
    exact ⟨Nat.le_refl _, Nat.le_refl _⟩
  | istore i =>
    obtain ⟨⟨x, r⟩, h1, h⟩ := Option.bind_eq_some_iff.mp h
    cases zp1i_eq h1
    obtain ⟨_, h2, h⟩ := Option.bind_eq_some_iff.mp h
    cases Option.some.inj h
    exact ⟨Nat.le_refl _, Nat.le_refl _⟩
  | istore_n i =>
    obtain ⟨⟨x, r⟩, h1, h⟩ := Option.bind_eq_some_iff.mp h
    cases zp1i_eq h1
    obtain ⟨_, h2, h⟩ := Option.bind_eq_some_iff.mp h
    cases Option.some.inj h
    exact ⟨Nat.le_refl _, Nat.le_refl _⟩
  | astore i =>
    obtain ⟨⟨x, r⟩, h1, h⟩ := Option.bind_eq_some_iff.mp h
    cases zp1r_eq h1
    obtain ⟨_, h2, h⟩ := Option.bind_eq_some_iff.mp h
    cases Option.some.inj h
    exact ⟨Nat.le_refl _, Nat.le_refl _⟩
  | astore_n i =>
    obtain ⟨⟨x, r⟩, h1, h⟩ := Option.bind_eq_some_iff.mp h
    cases zp1r_eq h1
    obtain ⟨_, h2, h⟩ := Option.bind_eq_some_iff.mp h
    cases Option.some.inj h
    exact ⟨Nat.le_refl _, Nat.le_refl _⟩
  | lstore i =>
    obtain ⟨⟨x, r⟩, h1, h⟩ := Option.bind_eq_some_iff.mp h
    cases zp1l_eq h1
    obtain ⟨_, h2, h⟩ := Option.bind_eq_some_iff.mp h
    cases Option.some.inj h
    exact ⟨Nat.le_refl _, Nat.le_refl _⟩
  | lstore_n i =>
    obtain ⟨⟨x, r⟩, h1, h⟩ := Option.bind_eq_some_iff.mp h
    cases zp1l_eq h1
    obtain ⟨_, h2, h⟩ := Option.bind_eq_some_iff.mp h
    cases Option.some.inj h
    exact ⟨Nat.le_refl _, Nat.le_refl _⟩
  | iinc i n =>
    obtain ⟨x, h1, h⟩ := Option.bind_eq_some_iff.mp h
    cases Option.some.inj h
    exact ⟨Nat.le_refl _, Nat.le_refl _⟩
  | iadd =>
    obtain ⟨⟨x, y, r⟩, h1, h⟩ := Option.bind_eq_some_iff.mp h
    cases zp2i_eq h1
    cases Option.some.inj h
    exact ⟨Nat.le_refl _, Nat.le_refl _⟩
  | isub =>
    obtain ⟨⟨x, y, r⟩, h1, h⟩ := Option.bind_eq_some_iff.mp h
    cases zp2i_eq h1
    cases Option.some.inj h
    exact ⟨Nat.le_refl _, Nat.le_refl _⟩
  | imul =>
    obtain ⟨⟨x, y, r⟩, h1, h⟩ := Option.bind_eq_some_iff.mp h
    cases zp2i_eq h1
    cases Option.some.inj h
    exact ⟨Nat.le_refl _, Nat.le_refl _⟩
  | iand =>
    obtain ⟨⟨x, y, r⟩, h1, h⟩ := Option.bind_eq_some_iff.mp h
    cases zp2i_eq h1
    cases Option.some.inj h
    exact ⟨Nat.le_refl _, Nat.le_refl _⟩
  | ior =>
    obtain ⟨⟨x, y, r⟩, h1, h⟩ := Option.bind_eq_some_iff.mp h
    cases zp2i_eq h1
    cases Option.some.inj h
    exact ⟨Nat.le_refl _, Nat.le_refl _⟩
  | ixor =>
    obtain ⟨⟨x, y, r⟩, h1, h⟩ := Option.bind_eq_some_iff.mp h
    cases zp2i_eq h1
    cases Option.some.inj h
    exact ⟨Nat.le_refl _, Nat.le_refl _⟩
  | ishl =>
    obtain ⟨⟨x, y, r⟩, h1, h⟩ := Option.bind_eq_some_iff.mp h
    cases zp2i_eq h1
    cases Option.some.inj h
    exact ⟨Nat.le_refl _, Nat.le_refl _⟩
  | ishr =>
    obtain ⟨⟨x, y, r⟩, h1, h⟩ := Option.bind_eq_some_iff.mp h
    cases zp2i_eq h1
    cases Option.some.inj h
    exact ⟨Nat.le_refl _, Nat.le_refl _⟩
  | iushr =>
    obtain ⟨⟨x, y, r⟩, h1, h⟩ := Option.bind_eq_some_iff.mp h
    cases zp2i_eq h1
    cases Option.some.inj h
    exact ⟨Nat.le_refl _, Nat.le_refl _⟩
  | ineg =>
    obtain ⟨⟨x, r⟩, h1, h⟩ := Option.bind_eq_some_iff.mp h
    cases zp1i_eq h1
    cases Option.some.inj h
    exact ⟨Nat.le_refl _, Nat.le_refl _⟩
  | lmul =>
    obtain ⟨⟨x, y, r⟩, h1, h⟩ := Option.bind_eq_some_iff.mp h
    cases zp2l_eq h1
    cases Option.some.inj h
    exact ⟨Nat.le_refl _, Nat.le_refl _⟩
  | lsub =>
    obtain ⟨⟨x, y, r⟩, h1, h⟩ := Option.bind_eq_some_iff.mp h
    cases zp2l_eq h1
    cases Option.some.inj h
    exact ⟨Nat.le_refl _, Nat.le_refl _⟩
  | lneg =>
    obtain ⟨⟨x, r⟩, h1, h⟩ := Option.bind_eq_some_iff.mp h
    cases zp1l_eq h1
    cases Option.some.inj h
    exact ⟨Nat.le_refl _, Nat.le_refl _⟩
  | ldiv =>
    obtain ⟨⟨x, y, r⟩, h1, h⟩ := Option.bind_eq_some_iff.mp h
    cases zp2l_eq h1
    have h : (if y = 0 then none else some (pc + 1, L, .long (x / y) :: r, σ, nc, ns)) = some a' := h
    by_cases h0 : y = 0
    · rw [if_pos h0] at h; cases h
    · rw [if_neg h0] at h
      cases Option.some.inj h
      exact ⟨Nat.le_refl _, Nat.le_refl _⟩
  | lrem =>
    obtain ⟨⟨x, y, r⟩, h1, h⟩ := Option.bind_eq_some_iff.mp h
    cases zp2l_eq h1
    have h : (if y = 0 then none else some (pc + 1, L, .long (x - x / y * y) :: r, σ, nc, ns)) = some a' := h
    by_cases h0 : y = 0
    · rw [if_pos h0] at h; cases h
    · rw [if_neg h0] at h
      cases Option.some.inj h
      exact ⟨Nat.le_refl _, Nat.le_refl _⟩
  | lcmp =>
    obtain ⟨⟨x, y, r⟩, h1, h⟩ := Option.bind_eq_some_iff.mp h
    cases zp2l_eq h1
    cases Option.some.inj h
    exact ⟨Nat.le_refl _, Nat.le_refl _⟩
  | i2l =>
    obtain ⟨⟨x, r⟩, h1, h⟩ := Option.bind_eq_some_iff.mp h
    cases zp1i_eq h1
    cases Option.some.inj h
    exact ⟨Nat.le_refl _, Nat.le_refl _⟩
  | l2i =>
    obtain ⟨⟨x, r⟩, h1, h⟩ := Option.bind_eq_some_iff.mp h
    cases zp1l_eq h1
    cases Option.some.inj h
    exact ⟨Nat.le_refl _, Nat.le_refl _⟩
  | i2c =>
    obtain ⟨⟨x, r⟩, h1, h⟩ := Option.bind_eq_some_iff.mp h
    cases zp1i_eq h1
    cases Option.some.inj h
    exact ⟨Nat.le_refl _, Nat.le_refl _⟩
  | dup =>
    simp only [zstep] at h
    split at h
    · cases Option.some.inj h; exact ⟨Nat.le_refl _, Nat.le_refl _⟩
    · cases Option.some.inj h; exact ⟨Nat.le_refl _, Nat.le_refl _⟩
    · cases h
  | dup2 =>
    obtain ⟨⟨i, k9, r⟩, h1, h⟩ := Option.bind_eq_some_iff.mp h
    cases zpir_eq h1
    cases Option.some.inj h
    exact ⟨Nat.le_refl _, Nat.le_refl _⟩
  | ifCond cnd off =>
    obtain ⟨⟨x, r⟩, h1, h⟩ := Option.bind_eq_some_iff.mp h
    cases zp1i_eq h1
    obtain ⟨t, h2, h⟩ := Option.bind_eq_some_iff.mp h
    cases Option.some.inj h
    exact ⟨Nat.le_refl _, Nat.le_refl _⟩
  | if_icmp cnd off =>
    obtain ⟨⟨x, y, r⟩, h1, h⟩ := Option.bind_eq_some_iff.mp h
    cases zp2i_eq h1
    obtain ⟨t, h2, h⟩ := Option.bind_eq_some_iff.mp h
    cases Option.some.inj h
    exact ⟨Nat.le_refl _, Nat.le_refl _⟩
  | goto off =>
    obtain ⟨t, h2, h⟩ := Option.bind_eq_some_iff.mp h
    cases Option.some.inj h
    exact ⟨Nat.le_refl _, Nat.le_refl _⟩
  | tableswitch dflt lo9 hi9 offs =>
    obtain ⟨⟨x, r⟩, h1, h⟩ := Option.bind_eq_some_iff.mp h
    cases zp1i_eq h1
    obtain ⟨off, h2, h⟩ := Option.bind_eq_some_iff.mp h
    obtain ⟨t, h3, h⟩ := Option.bind_eq_some_iff.mp h
    cases Option.some.inj h
    exact ⟨Nat.le_refl _, Nat.le_refl _⟩
  | getfield idx =>
    obtain ⟨⟨k9, r⟩, h1, h⟩ := Option.bind_eq_some_iff.mp h
    cases zp1r_eq h1
    obtain ⟨⟨ci, fs⟩, h2, h⟩ := Option.bind_eq_some_iff.mp h
    obtain ⟨_, h4, h⟩ := Option.bind_eq_some_iff.mp h
    obtain ⟨v, h5, h⟩ := Option.bind_eq_some_iff.mp h
    cases Option.some.inj h
    exact ⟨Nat.le_refl _, Nat.le_refl _⟩
  | putfield idx =>
    obtain ⟨⟨v, k9, r⟩, h1, h⟩ := Option.bind_eq_some_iff.mp h
    cases zpvr_eq h1
    obtain ⟨⟨ci, fs⟩, h2, h⟩ := Option.bind_eq_some_iff.mp h
    obtain ⟨_, h4, h⟩ := Option.bind_eq_some_iff.mp h
    cases Option.some.inj h
    exact ⟨Nat.le_refl _, Nat.le_refl _⟩
  | iaload =>
    obtain ⟨⟨i, k9, r⟩, h1, h⟩ := Option.bind_eq_some_iff.mp h
    cases zpir_eq h1
    obtain ⟨l1, h2, h⟩ := Option.bind_eq_some_iff.mp h
    obtain ⟨j, h3, h⟩ := Option.bind_eq_some_iff.mp h
    obtain ⟨x, h4, h⟩ := Option.bind_eq_some_iff.mp h
    cases Option.some.inj h
    exact ⟨Nat.le_refl _, Nat.le_refl _⟩
  | caload =>
    obtain ⟨⟨i, k9, r⟩, h1, h⟩ := Option.bind_eq_some_iff.mp h
    cases zpir_eq h1
    obtain ⟨l1, h2, h⟩ := Option.bind_eq_some_iff.mp h
    obtain ⟨j, h3, h⟩ := Option.bind_eq_some_iff.mp h
    obtain ⟨x, h4, h⟩ := Option.bind_eq_some_iff.mp h
    cases Option.some.inj h
    exact ⟨Nat.le_refl _, Nat.le_refl _⟩
  | baload =>
    obtain ⟨⟨i, k9, r⟩, h1, h⟩ := Option.bind_eq_some_iff.mp h
    cases zpir_eq h1
    obtain ⟨l1, h2, h⟩ := Option.bind_eq_some_iff.mp h
    obtain ⟨j, h3, h⟩ := Option.bind_eq_some_iff.mp h
    obtain ⟨x, h4, h⟩ := Option.bind_eq_some_iff.mp h
    cases Option.some.inj h
    exact ⟨Nat.le_refl _, Nat.le_refl _⟩
  | laload =>
    obtain ⟨⟨i, k9, r⟩, h1, h⟩ := Option.bind_eq_some_iff.mp h
    cases zpir_eq h1
    obtain ⟨l1, h2, h⟩ := Option.bind_eq_some_iff.mp h
    obtain ⟨j, h3, h⟩ := Option.bind_eq_some_iff.mp h
    obtain ⟨x, h4, h⟩ := Option.bind_eq_some_iff.mp h
    cases Option.some.inj h
    exact ⟨Nat.le_refl _, Nat.le_refl _⟩
  | aaload =>
    obtain ⟨⟨i, k9, r⟩, h1, h⟩ := Option.bind_eq_some_iff.mp h
    cases zpir_eq h1
    obtain ⟨⟨b9, l1⟩, h2, h⟩ := Option.bind_eq_some_iff.mp h
    obtain ⟨j, h3, h⟩ := Option.bind_eq_some_iff.mp h
    obtain ⟨x, h4, h⟩ := Option.bind_eq_some_iff.mp h
    cases Option.some.inj h
    exact ⟨Nat.le_refl _, Nat.le_refl _⟩
  | iastore =>
    obtain ⟨⟨x, i, k9, r⟩, h1, h⟩ := Option.bind_eq_some_iff.mp h
    cases zpiir_eq h1
    obtain ⟨l1, h2, h⟩ := Option.bind_eq_some_iff.mp h
    obtain ⟨j, h3, h⟩ := Option.bind_eq_some_iff.mp h
    obtain ⟨_, h4, h⟩ := Option.bind_eq_some_iff.mp h
    cases Option.some.inj h
    exact ⟨Nat.le_refl _, Nat.le_refl _⟩
  | castore =>
    obtain ⟨⟨x, i, k9, r⟩, h1, h⟩ := Option.bind_eq_some_iff.mp h
    cases zpiir_eq h1
    obtain ⟨l1, h2, h⟩ := Option.bind_eq_some_iff.mp h
    obtain ⟨j, h3, h⟩ := Option.bind_eq_some_iff.mp h
    obtain ⟨_, h4, h⟩ := Option.bind_eq_some_iff.mp h
    cases Option.some.inj h
    exact ⟨Nat.le_refl _, Nat.le_refl _⟩
  | bastore =>
    obtain ⟨⟨x, i, k9, r⟩, h1, h⟩ := Option.bind_eq_some_iff.mp h
    cases zpiir_eq h1
    obtain ⟨l1, h2, h⟩ := Option.bind_eq_some_iff.mp h
    obtain ⟨j, h3, h⟩ := Option.bind_eq_some_iff.mp h
    obtain ⟨_, h4, h⟩ := Option.bind_eq_some_iff.mp h
    cases Option.some.inj h
    exact ⟨Nat.le_refl _, Nat.le_refl _⟩
  | lastore =>
    obtain ⟨⟨x, i, k9, r⟩, h1, h⟩ := Option.bind_eq_some_iff.mp h
    cases zplir_eq h1
    obtain ⟨l1, h2, h⟩ := Option.bind_eq_some_iff.mp h
    obtain ⟨j, h3, h⟩ := Option.bind_eq_some_iff.mp h
    obtain ⟨_, h4, h⟩ := Option.bind_eq_some_iff.mp h
    cases Option.some.inj h
    exact ⟨Nat.le_refl _, Nat.le_refl _⟩
  | aastore =>
    obtain ⟨⟨x, i, k9, r⟩, h1, h⟩ := Option.bind_eq_some_iff.mp h
    cases zprir_eq h1
    obtain ⟨⟨b9, l1⟩, h2, h⟩ := Option.bind_eq_some_iff.mp h
    obtain ⟨l2, h6, h⟩ := Option.bind_eq_some_iff.mp h
    obtain ⟨j, h3, h⟩ := Option.bind_eq_some_iff.mp h
    obtain ⟨_, h4, h⟩ := Option.bind_eq_some_iff.mp h
    cases Option.some.inj h
    exact ⟨Nat.le_refl _, Nat.le_refl _⟩
  | arraylength =>
    obtain ⟨⟨k9, r⟩, h1, h⟩ := Option.bind_eq_some_iff.mp h
    cases zp1r_eq h1
    obtain ⟨xs, h2, h⟩ := Option.bind_eq_some_iff.mp h
    cases Option.some.inj h
    exact ⟨Nat.le_refl _, Nat.le_refl _⟩
  | newarray t =>
    obtain ⟨⟨n, r⟩, h1, h⟩ := Option.bind_eq_some_iff.mp h
    cases zp1i_eq h1
    obtain ⟨N, h2, h⟩ := Option.bind_eq_some_iff.mp h
    obtain ⟨_, h3, h⟩ := Option.bind_eq_some_iff.mp h
    obtain ⟨x, h4, h⟩ := Option.bind_eq_some_iff.mp h
    cases Option.some.inj h
    exact ⟨by dsimp only; omega, by dsimp only; omega⟩
  | multianewarray idx d =>
    obtain ⟨⟨n, k9, r⟩, h1, h⟩ := Option.bind_eq_some_iff.mp h
    cases zp2i_eq h1
    obtain ⟨N, h2, h⟩ := Option.bind_eq_some_iff.mp h
    obtain ⟨K, h3, h⟩ := Option.bind_eq_some_iff.mp h
    obtain ⟨_, h4, h⟩ := Option.bind_eq_some_iff.mp h
    cases Option.some.inj h
    exact ⟨by dsimp only; omega, by dsimp only; omega⟩
  | new idx =>
    obtain ⟨fs, h2, h⟩ := Option.bind_eq_some_iff.mp h
    obtain ⟨_, h3, h⟩ := Option.bind_eq_some_iff.mp h
    cases Option.some.inj h
    exact ⟨by dsimp only; omega, by dsimp only; omega⟩
  | invokespecial idx =>
    obtain ⟨⟨k9, r⟩, h1, h⟩ := Option.bind_eq_some_iff.mp h
    cases zp1r_eq h1
    obtain ⟨_, h3, h⟩ := Option.bind_eq_some_iff.mp h
    cases Option.some.inj h
    exact ⟨Nat.le_refl _, Nat.le_refl _⟩
  | _ => cases (show (none : Option zS) = some a' from h)
set_option maxHeartbeats 4000000 in
theorem z_step (X : zctx p s m args meth c cc maxL own nm Ts Ns D cl cT A H0) {fty : Nat → Nat → FieldType} {cd : List (List Value)} (hCl : zcl Ts fty cd cl) {host : String} {fr lo len x1 x2 x3 : Nat} {scr : Option (List Int32)} (hscr : zscr scr s H0 A ad0) (hfl : fr ≤ R.frames ∧ lo ≤ R.locals) {ins : Jvm.ClassFile.Instr} (hd : decode cc pc = .ok (ins, zlen ins len)) (hok : zoki host own nm Ts Ns cl fr lo ins x1 x2 x3) {a' : zS} (h : zstep scr fty cd ins x1 x2 x3 pc L st σ nc ns = some a') (hroom : a'.2.2.2.2.1 ≤ R.cells ∧ a'.2.2.2.2.2 ≤ R.slots) (k : zW p l e R s m args below meth c Q D cl cT A H0 maxL ad0 n0 a') : zW p l e R s m args below meth c Q D cl cT A H0 maxL ad0 n0 (pc, L, st, σ, nc, ns) := by
  obtain ⟨hx, hb, hml, hown, hts, hns, hK, hA, hnm⟩ := id X
  cases ins with
  | iconst n =>
    cases Option.some.inj h
    intro ad H locs ls rr
    exact lv_iconst hx hb hd rfl (k ad H locs ls rr)
  | bipush n =>
    cases Option.some.inj h
    intro ad H locs ls rr
    exact lv_bipush hx hb hd rfl (k ad H locs ls rr)
  | sipush n =>
    cases Option.some.inj h
    intro ad H locs ls rr
    exact lv_sipush hx hb hd rfl (k ad H locs ls rr)
  | ldc_w idx =>
    cases Option.some.inj h
    intro ad H locs ls rr
    exact lv_ldcw hx hb hown (hts _ hok) hd (k ad H locs ls rr)
  | lconst n =>
    cases Option.some.inj h
    intro ad H locs ls rr
    exact lv_lconst hx hb hd rfl (k ad H locs ls rr)
  | iload i =>
    obtain ⟨x, h1, h⟩ := Option.bind_eq_some_iff.mp h
    cases Option.some.inj h
    intro ad H locs ls rr
    exact lv_iload hx hb hd (rr.1.2.2.2 i _ (zgi_eq h1)) (k ad H locs ls rr)
  | iload_n i =>
    obtain ⟨x, h1, h⟩ := Option.bind_eq_some_iff.mp h
    cases Option.some.inj h
    intro ad H locs ls rr
    exact lv_iload_n hx hb hd rfl (rr.1.2.2.2 i.val _ (zgi_eq h1)) (k ad H locs ls rr)
  | lload i =>
    obtain ⟨x, h1, h⟩ := Option.bind_eq_some_iff.mp h
    cases Option.some.inj h
    intro ad H locs ls rr
    exact lv_lload hx hb hd (rr.1.2.2.2 i _ (zgl_eq h1)) (k ad H locs ls rr)
  | lload_n i =>
    obtain ⟨x, h1, h⟩ := Option.bind_eq_some_iff.mp h
    cases Option.some.inj h
    intro ad H locs ls rr
    exact lv_lload_n hx hb hd rfl (rr.1.2.2.2 i.val _ (zgl_eq h1)) (k ad H locs ls rr)
  | aload i =>
    obtain ⟨x, h1, h⟩ := Option.bind_eq_some_iff.mp h
    cases Option.some.inj h
    intro ad H locs ls rr
    exact lv_aload hx hb hd (rr.1.2.2.2 i _ (zga_eq h1)) (k ad H locs ls rr)
  | aload_n i =>
    obtain ⟨x, h1, h⟩ := Option.bind_eq_some_iff.mp h
    cases Option.some.inj h
    intro ad H locs ls rr
    exact lv_aload_n hx hb hd rfl (rr.1.2.2.2 i.val _ (zga_eq h1)) (k ad H locs ls rr)
  | istore i =>
    obtain ⟨⟨x, r⟩, h1, h⟩ := Option.bind_eq_some_iff.mp h
    cases zp1i_eq h1
    obtain ⟨_, h2, h⟩ := Option.bind_eq_some_iff.mp h
    cases Option.some.inj h
    intro ad H locs ls rr
    have hi : i < maxL := by rw [← rr.1.2.2.1]; exact Nat.le_of_ble_eq_true (zif_eq h2)
    exact lv_istore hx hb hd rr.has hi rfl (fun ls' h' => k ad H locs ls' (rr.set1 hi h'))
  | istore_n i =>
    obtain ⟨⟨x, r⟩, h1, h⟩ := Option.bind_eq_some_iff.mp h
    cases zp1i_eq h1
    obtain ⟨_, h2, h⟩ := Option.bind_eq_some_iff.mp h
    cases Option.some.inj h
    intro ad H locs ls rr
    have hi : i.val < maxL := by rw [← rr.1.2.2.1]; exact Nat.le_of_ble_eq_true (zif_eq h2)
    exact lv_istore_n hx hb hd rfl rr.has hi rfl (fun ls' h' => k ad H locs ls' (rr.set1 hi h'))
  | astore i =>
    obtain ⟨⟨x, r⟩, h1, h⟩ := Option.bind_eq_some_iff.mp h
    cases zp1r_eq h1
    obtain ⟨_, h2, h⟩ := Option.bind_eq_some_iff.mp h
    cases Option.some.inj h
    intro ad H locs ls rr
    have hi : i < maxL := by rw [← rr.1.2.2.1]; exact Nat.le_of_ble_eq_true (zif_eq h2)
    exact lv_astore hx hb hd rr.has hi rfl (fun ls' h' => k ad H locs ls' (rr.set1 hi h'))
  | astore_n i =>
    obtain ⟨⟨x, r⟩, h1, h⟩ := Option.bind_eq_some_iff.mp h
    cases zp1r_eq h1
    obtain ⟨_, h2, h⟩ := Option.bind_eq_some_iff.mp h
    cases Option.some.inj h
    intro ad H locs ls rr
    have hi : i.val < maxL := by rw [← rr.1.2.2.1]; exact Nat.le_of_ble_eq_true (zif_eq h2)
    exact lv_astore_n hx hb hd rfl rr.has hi rfl (fun ls' h' => k ad H locs ls' (rr.set1 hi h'))
  | lstore i =>
    obtain ⟨⟨x, r⟩, h1, h⟩ := Option.bind_eq_some_iff.mp h
    cases zp1l_eq h1
    obtain ⟨_, h2, h⟩ := Option.bind_eq_some_iff.mp h
    cases Option.some.inj h
    intro ad H locs ls rr
    have hi : i + 1 < maxL := by rw [← rr.1.2.2.1]; exact Nat.le_of_ble_eq_true (zif_eq h2)
    exact lv_lstore hx hb hd rr.has hi rfl (fun ls' h' => k ad H locs ls' (rr.set2 hi h'))
  | lstore_n i =>
    obtain ⟨⟨x, r⟩, h1, h⟩ := Option.bind_eq_some_iff.mp h
    cases zp1l_eq h1
    obtain ⟨_, h2, h⟩ := Option.bind_eq_some_iff.mp h
    cases Option.some.inj h
    intro ad H locs ls rr
    have hi : i.val + 1 < maxL := by rw [← rr.1.2.2.1]; exact Nat.le_of_ble_eq_true (zif_eq h2)
    exact lv_lstore_n hx hb hd rfl rr.has hi rfl (fun ls' h' => k ad H locs ls' (rr.set2 hi h'))
  | iinc i n =>
    obtain ⟨x, h1, h⟩ := Option.bind_eq_some_iff.mp h
    cases Option.some.inj h
    intro ad H locs ls rr
    have h3 := zgi_eq h1
    have hi : i < maxL := by rw [← rr.1.2.2.1]; exact (List.getElem?_eq_some_iff.mp h3).1
    obtain ⟨k9, hk9⟩ := List.getElem?_of_mem (zlv_mem (ad := ad) h3)
    exact lv_iinc hx hb hd rr.has hk9 rfl hi rfl (fun ls' h' => k ad H locs ls' (rr.set1 (v := .int (x + Int32.ofInt n)) hi h'))
  | iadd =>
    obtain ⟨⟨x, y, r⟩, h1, h⟩ := Option.bind_eq_some_iff.mp h
    cases zp2i_eq h1
    cases Option.some.inj h
    intro ad H locs ls rr
    exact lv_iadd hx hb hd (k ad H locs ls rr)
  | isub =>
    obtain ⟨⟨x, y, r⟩, h1, h⟩ := Option.bind_eq_some_iff.mp h
    cases zp2i_eq h1
    cases Option.some.inj h
    intro ad H locs ls rr
    exact lv_isub hx hb hd (k ad H locs ls rr)
  | imul =>
    obtain ⟨⟨x, y, r⟩, h1, h⟩ := Option.bind_eq_some_iff.mp h
    cases zp2i_eq h1
    cases Option.some.inj h
    intro ad H locs ls rr
    exact lv_imul hx hb hd (k ad H locs ls rr)
  | iand =>
    obtain ⟨⟨x, y, r⟩, h1, h⟩ := Option.bind_eq_some_iff.mp h
    cases zp2i_eq h1
    cases Option.some.inj h
    intro ad H locs ls rr
    exact lv_iand hx hb hd (k ad H locs ls rr)
  | ior =>
    obtain ⟨⟨x, y, r⟩, h1, h⟩ := Option.bind_eq_some_iff.mp h
    cases zp2i_eq h1
    cases Option.some.inj h
    intro ad H locs ls rr
    exact lv_ior hx hb hd (k ad H locs ls rr)
  | ixor =>
    obtain ⟨⟨x, y, r⟩, h1, h⟩ := Option.bind_eq_some_iff.mp h
    cases zp2i_eq h1
    cases Option.some.inj h
    intro ad H locs ls rr
    exact lv_ixor hx hb hd (k ad H locs ls rr)
  | ishl =>
    obtain ⟨⟨x, y, r⟩, h1, h⟩ := Option.bind_eq_some_iff.mp h
    cases zp2i_eq h1
    cases Option.some.inj h
    intro ad H locs ls rr
    exact lv_ishl hx hb hd (k ad H locs ls rr)
  | ishr =>
    obtain ⟨⟨x, y, r⟩, h1, h⟩ := Option.bind_eq_some_iff.mp h
    cases zp2i_eq h1
    cases Option.some.inj h
    intro ad H locs ls rr
    exact lv_ishr hx hb hd (k ad H locs ls rr)
  | iushr =>
    obtain ⟨⟨x, y, r⟩, h1, h⟩ := Option.bind_eq_some_iff.mp h
    cases zp2i_eq h1
    cases Option.some.inj h
    intro ad H locs ls rr
    exact lv_iushr hx hb hd rfl (k ad H locs ls rr)
  | ineg =>
    obtain ⟨⟨x, r⟩, h1, h⟩ := Option.bind_eq_some_iff.mp h
    cases zp1i_eq h1
    cases Option.some.inj h
    intro ad H locs ls rr
    exact lv_ineg hx hb hd (k ad H locs ls rr)
  | lmul =>
    obtain ⟨⟨x, y, r⟩, h1, h⟩ := Option.bind_eq_some_iff.mp h
    cases zp2l_eq h1
    cases Option.some.inj h
    intro ad H locs ls rr
    exact lv_lmul hx hb hd (k ad H locs ls rr)
  | lsub =>
    obtain ⟨⟨x, y, r⟩, h1, h⟩ := Option.bind_eq_some_iff.mp h
    cases zp2l_eq h1
    cases Option.some.inj h
    intro ad H locs ls rr
    exact lv_lsub hx hb hd (k ad H locs ls rr)
  | lneg =>
    obtain ⟨⟨x, r⟩, h1, h⟩ := Option.bind_eq_some_iff.mp h
    cases zp1l_eq h1
    cases Option.some.inj h
    intro ad H locs ls rr
    exact lv_lneg hx hb hd (k ad H locs ls rr)
  | ldiv =>
    obtain ⟨⟨x, y, r⟩, h1, h⟩ := Option.bind_eq_some_iff.mp h
    cases zp2l_eq h1
    have h : (if y = 0 then none else some (pc + 1, L, .long (x / y) :: r, σ, nc, ns)) = some a' := h
    by_cases h0 : y = 0
    · rw [if_pos h0] at h; cases h
    · rw [if_neg h0] at h
      cases Option.some.inj h
      intro ad H locs ls rr
      exact lv_ldiv hx hb hd h0 (k ad H locs ls rr)
  | lrem =>
    obtain ⟨⟨x, y, r⟩, h1, h⟩ := Option.bind_eq_some_iff.mp h
    cases zp2l_eq h1
    have h : (if y = 0 then none else some (pc + 1, L, .long (x - x / y * y) :: r, σ, nc, ns)) = some a' := h
    by_cases h0 : y = 0
    · rw [if_pos h0] at h; cases h
    · rw [if_neg h0] at h
      cases Option.some.inj h
      intro ad H locs ls rr
      exact lv_lrem hx hb hd h0 (k ad H locs ls rr)
  | lcmp =>
    obtain ⟨⟨x, y, r⟩, h1, h⟩ := Option.bind_eq_some_iff.mp h
    cases zp2l_eq h1
    cases Option.some.inj h
    intro ad H locs ls rr
    exact W.lcmp hx hb hd (k ad H locs ls rr)
  | i2l =>
    obtain ⟨⟨x, r⟩, h1, h⟩ := Option.bind_eq_some_iff.mp h
    cases zp1i_eq h1
    cases Option.some.inj h
    intro ad H locs ls rr
    exact lv_i2l hx hb hd rfl (k ad H locs ls rr)
  | l2i =>
    obtain ⟨⟨x, r⟩, h1, h⟩ := Option.bind_eq_some_iff.mp h
    cases zp1l_eq h1
    cases Option.some.inj h
    intro ad H locs ls rr
    exact lv_l2i hx hb hd rfl (k ad H locs ls rr)
  | i2c =>
    obtain ⟨⟨x, r⟩, h1, h⟩ := Option.bind_eq_some_iff.mp h
    cases zp1i_eq h1
    cases Option.some.inj h
    intro ad H locs ls rr
    exact lv_i2c hx hb hd rfl (k ad H locs ls rr)
  | dup =>
    simp only [zstep] at h
    split at h
    · cases Option.some.inj h
      intro ad H locs ls rr
      exact lv_dup hx hb hd rfl (k ad H locs ls rr)
    · cases Option.some.inj h
      intro ad H locs ls rr
      exact lv_dup hx hb hd rfl (k ad H locs ls rr)
    · cases h
  | dup2 =>
    obtain ⟨⟨i, k9, r⟩, h1, h⟩ := Option.bind_eq_some_iff.mp h
    cases zpir_eq h1
    cases Option.some.inj h
    intro ad H locs ls rr
    exact lv_dup2_11 hx hb hd rfl rfl (k ad H locs ls rr)
  | ifCond cnd off =>
    obtain ⟨⟨x, r⟩, h1, h⟩ := Option.bind_eq_some_iff.mp h
    cases zp1i_eq h1
    obtain ⟨t, h2, h⟩ := Option.bind_eq_some_iff.mp h
    cases Option.some.inj h
    exact z_ifc hx hb cnd hd (zjmp_eq h2) k
  | if_icmp cnd off =>
    obtain ⟨⟨x, y, r⟩, h1, h⟩ := Option.bind_eq_some_iff.mp h
    cases zp2i_eq h1
    obtain ⟨t, h2, h⟩ := Option.bind_eq_some_iff.mp h
    cases Option.some.inj h
    exact z_icmp hx hb cnd hd (zjmp_eq h2) k
  | goto off =>
    obtain ⟨t, h2, h⟩ := Option.bind_eq_some_iff.mp h
    cases Option.some.inj h
    intro ad H locs ls rr
    exact lv_goto hx hb hd (zjmp_eq h2) (k ad H locs ls rr)
  | tableswitch dflt lo9 hi9 offs =>
    obtain ⟨⟨x, r⟩, h1, h⟩ := Option.bind_eq_some_iff.mp h
    cases zp1i_eq h1
    obtain ⟨off, h2, h⟩ := Option.bind_eq_some_iff.mp h
    obtain ⟨t, h3, h⟩ := Option.bind_eq_some_iff.mp h
    cases Option.some.inj h
    intro ad H locs ls rr
    unfold zsw at h2
    by_cases h9 : x.toInt < lo9 ∨ hi9 < x.toInt
    · rw [if_pos h9] at h2
      cases Option.some.inj h2
      exact lv_tableOut hx hb hd h9 (zjmp_eq h3) (k ad H locs ls rr)
    · rw [if_neg h9] at h2
      exact lv_tableIn hx hb hd (fun q => h9 (Or.inl q)) (fun q => h9 (Or.inr q)) h2 (zjmp_eq h3) (k ad H locs ls rr)
  | getfield idx =>
    obtain ⟨⟨k9, r⟩, h1, h⟩ := Option.bind_eq_some_iff.mp h
    cases zp1r_eq h1
    obtain ⟨⟨ci, fs⟩, h2, h⟩ := Option.bind_eq_some_iff.mp h
    obtain ⟨_, h4, h⟩ := Option.bind_eq_some_iff.mp h
    obtain ⟨v, h5, h⟩ := Option.bind_eq_some_iff.mp h
    cases Option.some.inj h
    obtain ⟨j, rfl, h3⟩ := zcO_eq h2
    have e9 : ci = x1 := Nat.eq_of_beq_eq_true (zif_eq h4)
    subst e9
    obtain ⟨q, hq, o1, o2⟩ := hok
    exact z_get X hCl hq o1 o2 hd h3 h5 k
  | putfield idx =>
    obtain ⟨⟨v, k9, r⟩, h1, h⟩ := Option.bind_eq_some_iff.mp h
    cases zpvr_eq h1
    obtain ⟨⟨ci, fs⟩, h2, h⟩ := Option.bind_eq_some_iff.mp h
    obtain ⟨_, h4, h⟩ := Option.bind_eq_some_iff.mp h
    cases Option.some.inj h
    obtain ⟨j, rfl, h3⟩ := zcO_eq h2
    have h5 := zif_eq h4
    rw [Bool.and_eq_true, Bool.and_eq_true] at h5
    have e9 : ci = x1 := Nat.eq_of_beq_eq_true h5.1
    subst e9
    exact z_put X hCl hok hd h3 (Nat.le_of_ble_eq_true h5.2.1) h5.2.2 k
  | iaload =>
    obtain ⟨⟨i, k9, r⟩, h1, h⟩ := Option.bind_eq_some_iff.mp h
    cases zpir_eq h1
    obtain ⟨l1, h2, h⟩ := Option.bind_eq_some_iff.mp h
    obtain ⟨j, h3, h⟩ := Option.bind_eq_some_iff.mp h
    obtain ⟨x, h4, h⟩ := Option.bind_eq_some_iff.mp h
    cases Option.some.inj h
    cases k9 with
    | zero =>
      intro ad H locs ls rr
      obtain ⟨g1, g2, g3⟩ := hscr l1 h2
      obtain ⟨g4, g5⟩ := zix_in h3 (List.getElem?_eq_some_iff.mp h4).1
      subst g5
      obtain rfl : x = l1.getD i.toNatClampNeg 0 := zgetD h4
      have e0 : ad 0 = ad0 0 := rr.2.2.2.1 0 (Nat.zero_le _)
      show W p l e R s m args below meth c H locs nc ns Q (F0 m pc ls (.int i :: .ref (ad 0) :: r.map (zv ad)))
      rw [e0]
      exact va_sld hx hb g1 g2 g3 rr.2.1.2.2 g4 hd (k ad H locs ls rr)
    | succ k9 =>
      obtain ⟨j9, e9, h5⟩ := zcI_eq h2
      cases e9
      exact z_iald X hd h5 h3 h4 k
  | caload =>
    obtain ⟨⟨i, k9, r⟩, h1, h⟩ := Option.bind_eq_some_iff.mp h
    cases zpir_eq h1
    obtain ⟨l1, h2, h⟩ := Option.bind_eq_some_iff.mp h
    obtain ⟨j, h3, h⟩ := Option.bind_eq_some_iff.mp h
    obtain ⟨x, h4, h⟩ := Option.bind_eq_some_iff.mp h
    cases Option.some.inj h
    obtain ⟨j9, rfl, h5⟩ := zcC_eq h2
    exact z_cald X hd h5 h3 h4 k
  | baload =>
    obtain ⟨⟨i, k9, r⟩, h1, h⟩ := Option.bind_eq_some_iff.mp h
    cases zpir_eq h1
    obtain ⟨l1, h2, h⟩ := Option.bind_eq_some_iff.mp h
    obtain ⟨j, h3, h⟩ := Option.bind_eq_some_iff.mp h
    obtain ⟨x, h4, h⟩ := Option.bind_eq_some_iff.mp h
    cases Option.some.inj h
    obtain ⟨j9, rfl, h5⟩ := zcZ_eq h2
    exact z_zald X hd h5 h3 h4 k
  | laload =>
    obtain ⟨⟨i, k9, r⟩, h1, h⟩ := Option.bind_eq_some_iff.mp h
    cases zpir_eq h1
    obtain ⟨l1, h2, h⟩ := Option.bind_eq_some_iff.mp h
    obtain ⟨j, h3, h⟩ := Option.bind_eq_some_iff.mp h
    obtain ⟨x, h4, h⟩ := Option.bind_eq_some_iff.mp h
    cases Option.some.inj h
    obtain ⟨j9, rfl, h5⟩ := zcJ_eq h2
    exact z_lald X hd h5 h3 h4 k
  | aaload =>
    obtain ⟨⟨i, k9, r⟩, h1, h⟩ := Option.bind_eq_some_iff.mp h
    cases zpir_eq h1
    obtain ⟨⟨b9, l1⟩, h2, h⟩ := Option.bind_eq_some_iff.mp h
    obtain ⟨j, h3, h⟩ := Option.bind_eq_some_iff.mp h
    obtain ⟨x, h4, h⟩ := Option.bind_eq_some_iff.mp h
    cases Option.some.inj h
    obtain ⟨j9, rfl, ⟨-, h5⟩ | ⟨-, h5⟩⟩ := zcR_eq h2
    · exact z_aald (t := .int) (t0 := 4) X rfl hd h5 h3 h4 k
    · exact z_aald (t := .long) (t0 := 5) X rfl hd h5 h3 h4 k
  | iastore =>
    obtain ⟨⟨x, i, k9, r⟩, h1, h⟩ := Option.bind_eq_some_iff.mp h
    cases zpiir_eq h1
    obtain ⟨l1, h2, h⟩ := Option.bind_eq_some_iff.mp h
    obtain ⟨j, h3, h⟩ := Option.bind_eq_some_iff.mp h
    obtain ⟨_, h4, h⟩ := Option.bind_eq_some_iff.mp h
    cases Option.some.inj h
    obtain ⟨j9, rfl, h5⟩ := zcI_eq h2
    exact z_iast X hd h5 h3 (Nat.le_of_ble_eq_true (zif_eq h4)) k
  | castore =>
    obtain ⟨⟨x, i, k9, r⟩, h1, h⟩ := Option.bind_eq_some_iff.mp h
    cases zpiir_eq h1
    obtain ⟨l1, h2, h⟩ := Option.bind_eq_some_iff.mp h
    obtain ⟨j, h3, h⟩ := Option.bind_eq_some_iff.mp h
    obtain ⟨_, h4, h⟩ := Option.bind_eq_some_iff.mp h
    cases Option.some.inj h
    obtain ⟨j9, rfl, h5⟩ := zcC_eq h2
    exact z_cast X hd h5 h3 (Nat.le_of_ble_eq_true (zif_eq h4)) k
  | bastore =>
    obtain ⟨⟨x, i, k9, r⟩, h1, h⟩ := Option.bind_eq_some_iff.mp h
    cases zpiir_eq h1
    obtain ⟨l1, h2, h⟩ := Option.bind_eq_some_iff.mp h
    obtain ⟨j, h3, h⟩ := Option.bind_eq_some_iff.mp h
    obtain ⟨_, h4, h⟩ := Option.bind_eq_some_iff.mp h
    cases Option.some.inj h
    obtain ⟨j9, rfl, h5⟩ := zcZ_eq h2
    exact z_zast X hd h5 h3 (Nat.le_of_ble_eq_true (zif_eq h4)) k
  | lastore =>
    obtain ⟨⟨x, i, k9, r⟩, h1, h⟩ := Option.bind_eq_some_iff.mp h
    cases zplir_eq h1
    obtain ⟨l1, h2, h⟩ := Option.bind_eq_some_iff.mp h
    obtain ⟨j, h3, h⟩ := Option.bind_eq_some_iff.mp h
    obtain ⟨_, h4, h⟩ := Option.bind_eq_some_iff.mp h
    cases Option.some.inj h
    obtain ⟨j9, rfl, h5⟩ := zcJ_eq h2
    exact z_last X hd h5 h3 (Nat.le_of_ble_eq_true (zif_eq h4)) k
  | aastore =>
    obtain ⟨⟨x, i, k9, r⟩, h1, h⟩ := Option.bind_eq_some_iff.mp h
    cases zprir_eq h1
    obtain ⟨⟨b9, l1⟩, h2, h⟩ := Option.bind_eq_some_iff.mp h
    obtain ⟨l2, h6, h⟩ := Option.bind_eq_some_iff.mp h
    obtain ⟨j, h3, h⟩ := Option.bind_eq_some_iff.mp h
    obtain ⟨_, h4, h⟩ := Option.bind_eq_some_iff.mp h
    cases Option.some.inj h
    have h7 := zif_eq h4
    rw [Bool.and_eq_true] at h7
    obtain ⟨j8, rfl, h8⟩ := zcJ_eq h6
    obtain ⟨j9, rfl, ⟨hb9, h5⟩ | ⟨-, h5⟩⟩ := zcR_eq h2
    · rw [hb9] at h7; cases h7.1
    · exact z_aast X hd h5 h8 h3 (Nat.le_of_ble_eq_true h7.2) k
  | arraylength =>
    obtain ⟨⟨k9, r⟩, h1, h⟩ := Option.bind_eq_some_iff.mp h
    cases zp1r_eq h1
    obtain ⟨xs, h2, h⟩ := Option.bind_eq_some_iff.mp h
    cases Option.some.inj h
    cases k9 with
    | zero =>
      intro ad H locs ls rr
      obtain ⟨g1, g2, g3⟩ := hscr xs h2
      have e0 : ad 0 = ad0 0 := rr.2.2.2.1 0 (Nat.zero_le _)
      show W p l e R s m args below meth c H locs nc ns Q (F0 m pc ls (.ref (ad 0) :: r.map (zv ad)))
      rw [e0]
      exact va_slen hx hb g1 g2 g3 rr.2.1.2.2 hd (k ad H locs ls rr)
    | succ k9 => cases h2
  | newarray t =>
    obtain ⟨⟨n, r⟩, h1, h⟩ := Option.bind_eq_some_iff.mp h
    cases zp1i_eq h1
    obtain ⟨N, h2, h⟩ := Option.bind_eq_some_iff.mp h
    obtain ⟨_, h3, h⟩ := Option.bind_eq_some_iff.mp h
    obtain ⟨x, h4, h⟩ := Option.bind_eq_some_iff.mp h
    cases Option.some.inj h
    have h5 := zif_eq h3
    rw [Bool.and_eq_true] at h5
    exact z_newa X hok hd h2 (Nat.le_of_ble_eq_true h5.2) h4 h5.1 hroom k
  | multianewarray idx d =>
    obtain ⟨⟨n, k9, r⟩, h1, h⟩ := Option.bind_eq_some_iff.mp h
    cases zp2i_eq h1
    obtain ⟨N, h2, h⟩ := Option.bind_eq_some_iff.mp h
    obtain ⟨K, h3, h⟩ := Option.bind_eq_some_iff.mp h
    obtain ⟨_, h4, h⟩ := Option.bind_eq_some_iff.mp h
    cases Option.some.inj h
    have h5 := zif_eq h4
    rw [Bool.and_eq_true, Bool.and_eq_true, Bool.and_eq_true] at h5
    have e9 : d = 2 := Nat.eq_of_beq_eq_true h5.1
    subst e9
    exact z_multi X hok hd h2 h3 (Nat.le_of_ble_eq_true h5.2.2.1) (Nat.le_of_ble_eq_true h5.2.2.2) h5.2.1 hroom k
  | new idx =>
    obtain ⟨fs, h2, h⟩ := Option.bind_eq_some_iff.mp h
    obtain ⟨_, h3, h⟩ := Option.bind_eq_some_iff.mp h
    cases Option.some.inj h
    exact z_new X hCl hok hd h2 (zif_eq h3) hroom k
  | invokespecial idx =>
    obtain ⟨⟨k9, r⟩, h1, h⟩ := Option.bind_eq_some_iff.mp h
    cases zp1r_eq h1
    obtain ⟨_, h3, h⟩ := Option.bind_eq_some_iff.mp h
    cases Option.some.inj h
    have h5 := zif_eq h3
    rw [Bool.and_eq_true] at h5
    have e9 : x3 = 0 := Nat.eq_of_beq_eq_true h5.1
    subst e9
    obtain ⟨o1, o2, o3, o4, o5⟩ := hok rfl
    intro ad H locs ls rr
    have hz : (List.map (fun v => v.category) (r.map (zv ad))).sum ≤ 8 := by
      rw [List.map_map, show ((fun v => Value.category v) ∘ zv ad) = (fun v => v.category) from funext fun v => zv_cat ad v]
      exact Nat.le_of_ble_eq_true h5.2
    have hrm := lv_room (m := m) (pc := pc) (ls := ls) (rest := .ref (ad k9) :: r.map (zv ad)) hz
    show W p l e R s m args below meth c H locs nc ns Q (F0 m pc ls (.ref (ad k9) :: r.map (zv ad)))
    exact W.objInit hx hb hown (hts _ o1) (hts _ o2) (hts _ o3) rfl (by rw [hml]; exact rr.1.1) rfl hd (Nat.le_trans o4 hfl.1) (by have := hfl.2; omega) (k ad H locs ls rr)
  | _ => cases (show (none : Option zS) = some a' from h)
end ZMJ

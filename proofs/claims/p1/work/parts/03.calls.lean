/-! Calls, and a method's run from its entry: what zrun answers is a contract. -/
section ZMK
def znest (w : Cond) : Bool := match w with
  | .fieldLinkNest .. => true
  | .methodLinkNest .. => true
  | _ => false
theorem znest_warm {w : Cond} (h : znest w = true) {s U : State} (hW : s.WarmedH U.vm) (hZ : va_Nw w s) : va_Nw w U := by
  cases w with
  | fieldLinkNest a i b n d h9 => exact va_Nw.warmF hW hZ
  | methodLinkNest a i x h9 => exact va_Nw.warmM hW hZ
  | _ => cases h
theorem znest_tab {w : Cond} (h : znest w = true) : w.onTables = true := by
  cases w with
  | fieldLinkNest a i b n d h9 => rfl
  | methodLinkNest a i x h9 => rfl
  | _ => cases h
def zQ (D : va_G) (cl : List vw_C) (cT : FieldType → ClassId) (o : zO) (ad : Nat → Nat) (n : Nat) (A1 : Nat → Prop) : Array Value → State → Outcome → State → Prop := fun _ st oc t =>
  (∃ u : Nat → Nat, oc = .returned o.1 ∧ va_P D cl (zws cT u o.2.1) t.heap ∧ va_D A1 (zws cT u o.2.1) ∧ (o.2.2.1 = 0 → u = ad) ∧ (∀ k, k ≤ n → u k = ad k) ∧ n ≤ o.2.1.length) ∧ va_F A1 st t
def zPc (D : va_G) (cl : List vw_C) (cT : FieldType → ClassId) (Ns : List Cond) (vs : List Value) (σ : List zC) (ad : Nat → Nat) (sz : Nat) : Array Value → State → Prop := va_Pc (vs.map (zv ad)) (fun U => U.heap.size = sz ∧ va_P D cl (zws cT ad σ) U.heap ∧ zK D cl cT U ∧ (∀ w ∈ Ns, va_Nw w U) ∧ va_D (fun _ => True) (zws cT ad σ))
theorem zPc_blind {D : va_G} {cl : List vw_C} {cT : FieldType → ClassId} {Ns : List Cond} {vs : List Value} {σ : List zC} {ad : Nat → Nat} {sz : Nat} (hN : ∀ w ∈ Ns, znest w = true) : FrameBlind (zPc D cl cT Ns vs σ ad sz) := fun a U g mk q => by
  obtain ⟨q0, q1, qP, qK, qN, qD⟩ := q
  exact ⟨q0, q1, qP, zK.moved (u := U) (U := U.calling g mk a) (Vm.Alike.refl U.vm) qK, fun w hw => va_Nw.same (u := U) (U := U.calling g mk a) (znest_tab (hN w hw)) rfl (qN w hw), qD⟩
theorem zrun_inv {P : List zM} {fty : Nat → Nat → FieldType} {cd : List (List Value)} {f y : Nat} {scr : Option (List Int32)} {pc : Nat} {L : List (Option Value)} {st : List Value} {σ : List zC} {nc ns : Nat} {o : zO} (h : zrun P fty cd (f + 1) scr y (pc, L, st, σ, nc, ns) = some o) :
    ∃ (z : MethodName) (code : ByteArray) (mx : Nat) (ret : Option FieldType) (fr lo kd na : Nat) (rows : List (Nat × zI)) (ins : Jvm.ClassFile.Instr) (len x1 x2 x3 : Nat), P[y]? = some (z, code, mx, ret, fr, lo, kd, na, rows) ∧ zlook rows pc = some (ins, len, x1, x2, x3) ∧
      ((∃ a', zstep scr fty cd ins x1 x2 x3 pc L st σ nc ns = some a' ∧ zrun P fty cd f scr y a' = some o) ∨
       (∃ r, zret ret ins st = some r ∧ o = (r, σ, nc, ns)) ∨
       (∃ vs rest mz o1 a', zprep P ins x1 x2 x3 st σ = some (vs, rest, mz) ∧ zrun P fty cd f none x1 (0, zent vs mz, [], σ, 0, 0) = some o1 ∧ zback rest pc L σ nc ns o1 = some a' ∧ zrun P fty cd f scr y a' = some o)) := by
  rw [zrun_s] at h
  unfold zone at h
  split at h
  · rename_i z code mx ret fr lo kd na rows pc1 L1 st1 σ1 nc1 ns1 hM hcase
    cases hcase
    split at h
    · rename_i ins len x1 x2 x3 hl
      refine ⟨z, code, mx, ret, fr, lo, kd, na, rows, ins, len, x1, x2, x3, hM, hl, ?_⟩
      split at h
      · rename_i a' ha
        exact Or.inl ⟨a', ha, h⟩
      · split at h
        · rename_i r hr
          exact Or.inr (Or.inl ⟨r, hr, (Option.some.inj h).symm⟩)
        · split at h
          · rename_i vs rest mz hp
            split at h
            · rename_i o1 ho1
              split at h
              · rename_i a' ha
                exact Or.inr (Or.inr ⟨vs, rest, mz, o1, a', hp, ho1, ha, h⟩)
              · cases h
            · cases h
          · cases h
    · cases h
  · cases h
theorem zback_eq {rest : List Value} {pc : Nat} {L : List (Option Value)} {σ σ' : List zC} {nc ns dc ds : Nat} {v : Option Value} {a' : zS} (h : zback rest pc L σ nc ns (v, σ', dc, ds) = some a') : a' = (pc + 3, L, v.toList ++ rest, σ', nc + dc, ns + ds) ∧ znrO v = true ∧ (dc = 0 ∨ (zlok σ.length L = true ∧ rest.all (zvok σ.length) = true)) := by
  simp only [zback] at h
  split at h
  · rename_i hv
    cases Option.some.inj h
    exact ⟨rfl, hv, Or.inl rfl⟩
  · rename_i d hv
    split at h
    · rename_i hc
      rw [Bool.and_eq_true] at hc
      cases Option.some.inj h
      exact ⟨rfl, hv, Or.inr hc⟩
    · cases h
  · cases h
theorem zrun_mono {P : List zM} {fty : Nat → Nat → FieldType} {cd : List (List Value)} : ∀ (f : Nat) (scr : Option (List Int32)) (y : Nat) (a : zS) (o : zO), zrun P fty cd f scr y a = some o → a.2.2.2.2.1 ≤ o.2.2.1 ∧ a.2.2.2.2.2 ≤ o.2.2.2
  | 0, _, _, _, _, h => by cases h
  | f + 1, scr, y, (pc, L, st, σ, nc, ns), o, h => by
    obtain ⟨z, code, mx, ret, fr, lo, kd, na, rows, ins, len, x1, x2, x3, -, -, hh⟩ := zrun_inv h
    rcases hh with ⟨a', h1, h2⟩ | ⟨r, -, rfl⟩ | ⟨vs, rest, mz, ⟨v, σ', dc, ds⟩, a', -, -, h1, h2⟩
    · have e1 := z_mono h1
      have e2 := zrun_mono f scr y a' o h2
      exact ⟨Nat.le_trans e1.1 e2.1, Nat.le_trans e1.2 e2.2⟩
    · exact ⟨Nat.le_refl _, Nat.le_refl _⟩
    · have e2 := zrun_mono f scr y a' o h2
      obtain ⟨rfl, -, -⟩ := zback_eq h1
      exact ⟨Nat.le_trans (Nat.le_add_right nc dc) e2.1, Nat.le_trans (Nat.le_add_right ns ds) e2.2⟩
theorem zret_eq {ret : Option FieldType} {ins : Jvm.ClassFile.Instr} {st : List Value} {r : Option Value} (h : zret ret ins st = some r) : st = r.toList ∧ ((ins = .ireturn ∧ ∃ v ty, r = some (.int v) ∧ ret = some ty ∧ zfit ty (.int v) = true) ∨ (ins = .lreturn ∧ ∃ v, r = some (.long v) ∧ ret = some .long) ∨ (ins = .return_ ∧ r = none ∧ ret = none)) := by
  cases ins with
  | ireturn =>
    simp only [zret] at h
    split at h
    · split at h
      · rename_i hz
        cases Option.some.inj h
        exact ⟨rfl, Or.inl ⟨rfl, _, _, rfl, rfl, hz⟩⟩
      · cases h
    · cases h
  | lreturn =>
    simp only [zret] at h
    split at h
    · cases Option.some.inj h
      exact ⟨rfl, Or.inr (Or.inl ⟨rfl, _, rfl, rfl⟩)⟩
    · cases h
  | return_ =>
    simp only [zret] at h
    split at h
    · cases Option.some.inj h
      exact ⟨rfl, Or.inr (Or.inr ⟨rfl, rfl, rfl⟩)⟩
    · cases h
  | _ => cases (show (none : Option (Option Value)) = some r from h)
theorem ztake_eq {n : Nat} {st vs rest : List Value} (h : ztake n st = some (vs, rest)) : st = vs.reverse ++ rest ∧ vs.length = n ∧ (rest.map fun v => v.category).sum ≤ 8 := by
  simp only [ztake] at h
  split at h
  · rename_i hb
    rw [Bool.and_eq_true] at hb
    cases Option.some.inj h
    have hl := Nat.le_of_ble_eq_true hb.1
    refine ⟨by rw [List.reverse_reverse, List.take_append_drop], ?_, Nat.le_of_ble_eq_true hb.2⟩
    rw [List.length_reverse, List.length_take]
    omega
  · cases h
theorem zent_at {ad : Nat → Nat} : ∀ (vs : List Value) (i : Nat) (v : Value), (zent0 vs)[i]? = some (some v) → (lg_sl (vs.map (zv ad)))[i]? = some (.val (zv ad v))
  | [], i, v, h => by simp [zent0] at h
  | w :: vs, i, v, h => by
    have e1 : zent0 (w :: vs) = (if w.category = 2 then [some w, none] else [some w]) ++ zent0 vs := rfl
    have e2 : lg_sl ((w :: vs).map (zv ad)) = (if w.category = 2 then [.val (zv ad w), .second] else [.val (zv ad w)]) ++ lg_sl (vs.map (zv ad)) := by
      have e3 : lg_sl ((w :: vs).map (zv ad)) = (if (zv ad w).category = 2 then [.val (zv ad w), .second] else [.val (zv ad w)]) ++ lg_sl (vs.map (zv ad)) := rfl
      rw [e3, zv_cat]
    rw [e1] at h
    rw [e2]
    by_cases hc : w.category = 2
    · rw [if_pos hc] at h ⊢
      match i, h with
      | 0, h => cases h; rfl
      | 1, h => cases h
      | i + 2, h => exact zent_at vs i v h
    · rw [if_neg hc] at h ⊢
      match i, h with
      | 0, h => cases h; rfl
      | i + 1, h => exact zent_at vs i v h
theorem zent_len (ad : Nat → Nat) : ∀ vs : List Value, (lg_sl (vs.map (zv ad))).length = (zent0 vs).length
  | [] => rfl
  | w :: vs => by
    have e1 : zent0 (w :: vs) = (if w.category = 2 then [some w, none] else [some w]) ++ zent0 vs := rfl
    have e2 : lg_sl ((w :: vs).map (zv ad)) = (if w.category = 2 then [.val (zv ad w), .second] else [.val (zv ad w)]) ++ lg_sl (vs.map (zv ad)) := by
      have e3 : lg_sl ((w :: vs).map (zv ad)) = (if (zv ad w).category = 2 then [.val (zv ad w), .second] else [.val (zv ad w)]) ++ lg_sl (vs.map (zv ad)) := rfl
      rw [e3, zv_cat]
    rw [e1, e2, List.length_append, List.length_append, zent_len ad vs]
    by_cases hc : w.category = 2
    · rw [if_pos hc, if_pos hc]; rfl
    · rw [if_neg hc, if_neg hc]; rfl
def zml (host own : String) (Ts Ns : List Cond) (idx : Nat) (z : MethodName) : Prop := Cond.methodLink own idx z ∈ Ts ∨ Cond.methodLinkNest own idx z host ∈ Ns
def zokc (host own : String) (Ts Ns : List Cond) (cl : List vw_C) (P : List zM) (fr lo : Nat) (ins : Jvm.ClassFile.Instr) (x1 x2 x3 : Nat) : Prop := match ins with
  | .invokestatic idx => ∀ z code mz ret fz lz kd na rows, P[x1]? = some (z, code, mz, ret, fz, lz, kd, na, rows) → kd = 0 ∧ x2 = na ∧ zml host own Ts Ns idx z ∧ fz + 1 ≤ fr ∧ 8 + (mz + 11) + lz ≤ lo
  | .invokevirtual idx => ∀ z code mz ret fz lz kd na rows, P[x1]? = some (z, code, mz, ret, fz, lz, kd, na, rows) → (∃ q, cl[x3]? = some q ∧ q.1 = z.cls) ∧ kd = 2 ∧ x2 = na + 1 ∧ zml host own Ts Ns idx z ∧ fz + 1 ≤ fr ∧ 8 + (mz + 11) + lz ≤ lo
  | .invokespecial idx => 1 ≤ x3 → ∀ z code mz ret fz lz kd na rows, P[x1]? = some (z, code, mz, ret, fz, lz, kd, na, rows) → kd = 1 ∧ x2 = na + 1 ∧ zml host own Ts Ns idx z ∧ fz + 1 ≤ fr ∧ 8 + (mz + 11) + lz ≤ lo
  | _ => True
/-- a method that may be called: its words -/
def zmeth (Ts : List Cond) (M : zM) : Prop := match M with
  | (z, code, mx, ret, _, _, kd, na, _) => Cond.code z code mx ret ∈ Ts ∧ Cond.initialized z.cls ∈ Ts ∧ (z.cls ≠ "java/lang/invoke/MethodHandle" ∧ z.cls ≠ "java/lang/invoke/VarHandle") ∧ (parseMethodDescriptor z.desc).map (fun d => d.parameters.length) = some na ∧ plainFor z = true ∧ (kd = 0 → Cond.static z ∈ Ts) ∧ (kd = 1 → z.name = "<init>" ∧ Cond.instanceMethod z ∈ Ts ∧ ret = none) ∧ (kd = 2 → Cond.instanceMethod z ∈ Ts ∧ Cond.selects z.cls z z ∈ Ts)
def zrowok (host : String) (Ts Ns : List Cond) (cl : List vw_C) (P : List zM) (M : zM) (row : Nat × zI) : Prop := match M, row with
  | (z, code, _, _, fr, lo, _, _, _), (pc, ins, len, x1, x2, x3) => decode code pc = .ok (ins, zlen ins len) ∧ zoki host z.cls z.name Ts Ns cl fr lo ins x1 x2 x3 ∧ zokc host z.cls Ts Ns cl P fr lo ins x1 x2 x3
/-- the program is as its tables say -/
def zprog (host : String) (Ts Ns : List Cond) (cl : List vw_C) (P : List zM) : Prop := ∀ (y : Nat) (M : zM), P[y]? = some M → (Nat.ble M.2.2.2.2.2.2.1 2 = true → zmeth Ts M) ∧ ∀ row ∈ M.2.2.2.2.2.2.2.2, zrowok host Ts Ns cl P M row
section
variable {p : Program} {l : Launch} {e : Env} {R : Room} {s : State} {m : MethodId} {args : Array Value} {below : List Frame} {meth : Method} {c : Code} {Q : State → Prop} {D : va_G} {cl : List vw_C} {cT : FieldType → ClassId} {A : Nat → Prop} {H0 H : Heap} {maxL : Nat} {ad0 ad : Nat → Nat} {n0 : Nat}
variable {cc : ByteArray} {own nm host : String} {Ts Ns : List Cond} {L : List (Option Value)} {σ : List zC} {pc nc ns : Nat} {rest : List Value} {locs : List Loc} {ls : Array Slot}
theorem z_callW {o : zO} {st0 rest9 : List Value} {A1 : Nat → Prop} {a : Array Value} {n : Nat} (hr : va_Run p l e R s m args below meth c H locs nc ns o.2.2.1 o.2.2.2 (F0 m pc ls st0) rest9 (zQ D cl cT o ad n A1 a) A1) (hS : va_S A H0 H locs) (hA : ∀ q, A1 q → A q)
    (kk : ∀ (u : Nat → Nat) (H1 : Heap) (locs1 : List Loc), va_P D cl (zws cT u o.2.1) H1 → va_D A1 (zws cT u o.2.1) → (o.2.2.1 = 0 → u = ad) → (∀ k, k ≤ n → u k = ad k) → n ≤ o.2.1.length → va_S A H0 H1 locs1 → W p l e R s m args below meth c H1 locs1 (nc + o.2.2.1) (ns + o.2.2.2) Q (F0 m (pc + 3) ls (o.1.toList ++ rest9))) : W p l e R s m args below meth c H locs nc ns Q (F0 m pc ls st0) := by
  intro T hT X
  obtain ⟨v, st₀, t, T', L9, h0, X', hL, e1, e2, ⟨⟨u, hv, p1, p2, p3, p4, p5⟩, hz, hk⟩, st⟩ := hr T hT X
  have hv' : v = o.1 := by injection hv
  subst hv'
  rw [h0] at hz hk
  obtain ⟨t2, a1, b1⟩ := kk u T'.heap (locs ++ L9) (by rw [e1]; exact p1) p2 p3 p4 p5 ⟨Nat.le_trans hS.1 (by rw [e1]; exact hz), fun q h1 h2 => by rw [e1, hk q (Nat.lt_of_lt_of_le h1 hS.1) (fun z => h2 (hA q z))]; exact hS.2.1 q h1 h2, fun q hq => by
      rcases List.mem_append.mp hq with h | h
      · exact hS.2.2 q h
      · exact hA _ (hL q h)⟩ T' rfl X'
  exact ⟨t2, st t2 a1, b1⟩
theorem z_after (rr : zrel D cl cT A H0 maxL ad0 n0 L σ nc ad H locs ls) (hA : ∀ q, va_A (zws cT ad σ) H.size q → A q) {o : zO} {a' : zS} (hbk : zback rest pc L σ nc ns o = some a') (k : zW p l e R s m args below meth c Q D cl cT A H0 maxL ad0 n0 a') :
    ∀ (u : Nat → Nat) (H1 : Heap) (locs1 : List Loc), va_P D cl (zws cT u o.2.1) H1 → va_D (va_A (zws cT ad σ) H.size) (zws cT u o.2.1) → (o.2.2.1 = 0 → u = ad) → (∀ k, k ≤ σ.length → u k = ad k) → σ.length ≤ o.2.1.length → va_S A H0 H1 locs1 → W p l e R s m args below meth c H1 locs1 (nc + o.2.2.1) (ns + o.2.2.2) Q (F0 m (pc + 3) ls (o.1.toList ++ rest.map (zv ad))) := by
  obtain ⟨v, σ', dc, ds⟩ := o
  obtain ⟨rfl, hv, hc⟩ := zback_eq hbk
  intro u H1 locs1 hP hD hu hn hle hS
  obtain ⟨⟨r1, r2, r3, r4⟩, r5, r6, r7, r8⟩ := rr
  have hL : ∀ (i : Nat) (w : Value), L[i]? = some (some w) → zv u w = zv ad w := by
    intro i w hw
    rcases hc with hc | hc
    · rw [hu hc]
    · exact zv_congr hn (List.all_eq_true.mp hc.1 (some w) (List.mem_of_getElem? hw))
  have hR : rest.map (zv u) = rest.map (zv ad) := by
    rcases hc with hc | hc
    · rw [hu hc]
    · exact zmap_congr hn hc.2
  have hV : v.toList.map (zv u) = v.toList := by
    cases v with
    | none => rfl
    | some w => simp only [Option.toList_some, List.map_cons, List.map_nil, zv_nr (v := w) hv]
  have k' := k u H1 locs1 ls ⟨⟨r1, r2, r3, fun i w hw => by rw [hL i w hw]; exact r4 i w hw⟩, ⟨hP, hD.weaken (fun _ _ _ h => hA _ h), hS⟩, fun h9 => have h10 : nc + dc = 0 := h9; (hu (show dc = 0 by omega)).trans (r6 (show nc = 0 by omega)), fun k hk => (hn k (Nat.le_trans hk r8)).trans (r7 k hk), Nat.le_trans r8 hle⟩
  simp only [List.map_append, hV, hR] at k'
  exact k'
theorem z_entry (vs : List Value) (hl : (zent0 vs).length ≤ maxL) : ∃ ls : Array Slot, entryFrame m (vs.map (zv ad)).toArray maxL = F0 m 0 ls [] ∧ ls.size = maxL ∧ lv_wf ls ∧ (zent vs maxL).length = maxL ∧ ∀ (i : Nat) (v : Value), (zent vs maxL)[i]? = some (some v) → ls[i]? = some (.val (zv ad v)) := by
  have hl2 : (lg_sl (vs.map (zv ad))).length ≤ maxL := by rw [zent_len]; exact hl
  have h := lv_entry (vs.map (zv ad)) hl2
  refine ⟨_, lg_entry_eq m _ _, h.1, h.2.1, ?_, fun i v hv => ?_⟩
  · simp only [zent, List.length_append, List.length_replicate]
    omega
  · have hi : i < (zent0 vs).length := by
      rcases Nat.lt_or_ge i (zent0 vs).length with h9 | h9
      · exact h9
      · rw [zent, List.getElem?_append_right h9, List.getElem?_replicate] at hv
        split at hv <;> cases hv
    rw [zent, List.getElem?_append_left hi] at hv
    rw [List.getElem?_toArray, List.getElem?_append_left (by rw [zent_len]; exact hi)]
    exact zent_at vs i v hv
end
end ZMK
/-! The run of a method is the machine's: the induction over the fuel. -/
section ZML
theorem zprep_eq {P : List zM} {ins : Jvm.ClassFile.Instr} {x1 x2 x3 : Nat} {st vs rest : List Value} {σ : List zC} {mz : Nat} (h : zprep P ins x1 x2 x3 st σ = some (vs, rest, mz)) :
    ∃ (z : MethodName) (code : ByteArray) (ret : Option FieldType) (fr lo kd na : Nat) (rows : List (Nat × zI)), P[x1]? = some (z, code, mz, ret, fr, lo, kd, na, rows) ∧ ztake x2 st = some (vs, rest) ∧ (zent0 vs).length ≤ mz ∧
      ((∃ i, ins = .invokestatic i) ∨ (∃ i k as, ins = .invokespecial i ∧ vs = .ref k :: as ∧ 1 ≤ x3) ∨ (∃ i k as fs, ins = .invokevirtual i ∧ vs = .ref k :: as ∧ zcell σ k = some (.inl (x3, fs)))) := by
  cases ins with
  | invokestatic i =>
    simp only [zprep] at h
    split at h
    · rename_i as1 rest1 z code mz1 ret fr lo kd na rows h1 h2
      split at h
      · rename_i h3
        cases Option.some.inj h
        exact ⟨z, code, ret, fr, lo, kd, na, rows, h2, h1, Nat.le_of_ble_eq_true h3, Or.inl ⟨i, rfl⟩⟩
      · cases h
    · cases h
  | invokespecial i =>
    simp only [zprep] at h
    split at h
    · rename_i k as1 rest1 z code mz1 ret fr lo kd na rows h1 h2
      split at h
      · rename_i h3
        rw [Bool.and_eq_true] at h3
        cases Option.some.inj h
        exact ⟨z, code, ret, fr, lo, kd, na, rows, h2, h1, Nat.le_of_ble_eq_true h3.1, Or.inr (Or.inl ⟨i, k, as1, rfl, rfl, Nat.le_of_ble_eq_true h3.2⟩)⟩
      · cases h
    · cases h
  | invokevirtual i =>
    simp only [zprep] at h
    split at h
    · rename_i k as1 rest1 z code mz1 ret fr lo kd na rows h1 h2
      split at h
      · rename_i ci fs h3 h4
        split at h
        · rename_i h5
          cases Option.some.inj h
          have e9 : ci = x3 := Nat.eq_of_beq_eq_true h5
          subst e9
          exact ⟨z, code, ret, fr, lo, kd, na, rows, h2, h1, Nat.le_of_ble_eq_true h3, Or.inr (Or.inr ⟨i, k, as1, fs, rfl, rfl, h4⟩)⟩
        · cases h
      · cases h
    · cases h
  | _ => cases (show (none : Option (List Value × List Value × Nat)) = some _ from h)
/-- zrun's answer at a fuel is the machine's -/
def zMain (l : Launch) (D : va_G) (cl : List vw_C) (cT : FieldType → ClassId) (Ts Ns : List Cond) (P : List zM) (fty : Nat → Nat → FieldType) (cd : List (List Value)) (f : Nat) : Prop :=
  ∀ (scr : Option (List Int32)) (y : Nat) (z : MethodName) (code : ByteArray) (mx : Nat) (ret : Option FieldType) (fr lo kd na : Nat) (rows : List (Nat × zI)) (a : zS) (o : zO), P[y]? = some (z, code, mx, ret, fr, lo, kd, na, rows) → zrun P fty cd f scr y a = some o →
  ∀ (p : Program) (e : Env) (R : Room) (s : State) (m : MethodId) (args : Array Value) (below : List Frame) (meth : Method) (c : Code) (Q : State → Prop) (A : Nat → Prop) (H0 : Heap) (ad0 : Nat → Nat) (n0 : Nat),
  zctx p s m args meth c code mx z.cls z.name Ts Ns D cl cT A H0 → zscr scr s H0 A ad0 → fr ≤ R.frames ∧ lo ≤ R.locals → o.2.2.1 ≤ R.cells ∧ o.2.2.2 ≤ R.slots →
  (∀ (pc : Nat) (ins : Jvm.ClassFile.Instr) (len : Nat) (L : List (Option Value)) (ad : Nat → Nat) (H : Heap) (locs : List Loc) (ls : Array Slot), decode code pc = .ok (ins, zlen ins len) → zret ret ins o.1.toList = some o.1 → zrel D cl cT A H0 mx ad0 n0 L o.2.1 o.2.2.1 ad H locs ls → W p l e R s m args below meth c H locs o.2.2.1 o.2.2.2 Q (F0 m pc ls o.1.toList)) →
  zW p l e R s m args below meth c Q D cl cT A H0 mx ad0 n0 a
variable {l : Launch} {D : va_G} {cl : List vw_C} {cT : FieldType → ClassId} {host : String} {Ts Ns : List Cond} {P : List zM} {fty : Nat → Nat → FieldType} {cd : List (List Value)}
theorem z_met (hP : zprog host Ts Ns cl P) {f : Nat} (IH : zMain l D cl cT Ts Ns P fty cd f) {x1 : Nat} {z : MethodName} {code : ByteArray} {mx : Nat} {ret : Option FieldType} {fr lo kd na : Nat} {rows : List (Nat × zI)} {vs : List Value} {σ : List zC} {o : zO} (hM : P[x1]? = some (z, code, mx, ret, fr, lo, kd, na, rows)) (hkd : Nat.ble kd 2 = true) (hl : (zent0 vs).length ≤ mx) (hrun : zrun P fty cd f none x1 (0, zent vs mx, [], σ, 0, 0) = some o) (ad : Nat → Nat) (sz : Nat) :
    Met l z (Cond.code z code mx ret :: Ts) { frames := fr, cells := o.2.2.1, slots := o.2.2.2, locals := lo } (zPc D cl cT Ns vs σ ad sz) (zQ D cl cT o ad σ.length (va_A (zws cT ad σ) sz)) o.2.2.1 o.2.2.2 (va_A (zws cT ad σ) sz) := by
  have hmm := (hP x1 _ hM).1 hkd
  obtain ⟨m1, m2, m3, m4, m5, -⟩ := hmm
  refine va_MetF (cc := code) (maxL := mx) (ret := ret) m5 rfl ?_
  intro p e s m args below meth c s₁ B hml hv
  obtain ⟨rfl, rfl, hPp, hK, hNn, hD0⟩ := hv
  have hts := atoms_spec (ws := Cond.code z code mx ret :: Ts) B.pre
  obtain ⟨ls, he, h1, h2, h3, h4⟩ := z_entry (m := m) (ad := ad) (maxL := mx) vs hl
  rw [he]
  have X : zctx p s m (vs.map (zv ad)).toArray meth c code mx z.cls z.name Ts Ns D cl cT (va_A (zws cT ad σ) s.heap.size) s.heap := ⟨B.exec, B.bytes, hml, findClass_of_methodNamed B.named, fun w hw => hts w (List.mem_cons_of_mem _ hw), hNn, hK, fun q hq => Or.inr hq, fun h9 => ((name_of_methodNamed B.named B.method).1).trans h9⟩
  refine IH none x1 z code mx ret fr lo kd na rows (0, zent vs mx, [], σ, 0, 0) o hM hrun p e _ s m _ below meth c _ _ s.heap ad σ.length X (fun xs h => by cases h) ⟨Nat.le_refl _, Nat.le_refl _⟩ ⟨Nat.le_refl _, Nat.le_refl _⟩ ?_ ad s.heap [] ls ⟨⟨h1, h2, h3, h4⟩, ⟨hPp, hD0.self, va_S.rf⟩, fun _ => rfl, fun _ _ => rfl, Nat.le_refl _⟩
  obtain ⟨r, σ', nc', ns'⟩ := o
  intro pc ins len L ad' H locs ls' hd hr rel
  obtain ⟨-, hcase⟩ := zret_eq hr
  rcases hcase with ⟨rfl, v, ty, e1, e2, e3⟩ | ⟨rfl, v, e1, e2⟩ | ⟨rfl, e1, e2⟩
  · have e1 : r = some (.int v) := e1
    subst e1
    exact W.zret B.exec B.bytes (B.returns.trans e2) (zfit_nar e3).1 (fun t ht hW => ⟨⟨ad', rfl, by rw [ht]; exact rel.2.1.1, rel.2.1.2.1, rel.2.2.1, rel.2.2.2.1, rel.2.2.2.2⟩, rel.2.1.2.2.F ht⟩) rel.2.1.2.2.2.2 hd
  · have e1 : r = some (.long v) := e1
    subst e1
    exact W.lret B.exec B.bytes (B.returns.trans e2) (fun t ht hW => ⟨⟨ad', rfl, by rw [ht]; exact rel.2.1.1, rel.2.1.2.1, rel.2.2.1, rel.2.2.2.1, rel.2.2.2.2⟩, rel.2.1.2.2.F ht⟩) rel.2.1.2.2.2.2 hd
  · have e1 : r = none := e1
    subst e1
    exact W.vret B.exec B.bytes (B.returns.trans e2) (fun t ht hW => ⟨⟨ad', rfl, by rw [ht]; exact rel.2.1.1, rel.2.1.2.1, rel.2.2.1, rel.2.2.2.1, rel.2.2.2.2⟩, rel.2.1.2.2.F ht⟩) rel.2.1.2.2.2.2 hd
set_option maxHeartbeats 4000000 in
theorem z_main (hCl : zcl Ts fty cd cl) (hP : zprog host Ts Ns cl P) (hG : ∀ w ∈ Ts, goodWord w = true) (hN : ∀ w ∈ Ns, znest w = true) : ∀ f : Nat, zMain l D cl cT Ts Ns P fty cd f
  | 0 => fun scr y z code mx ret fr lo kd na rows a o hM h => by cases h
  | f + 1 => by
    have IH := z_main hCl hP hG hN f
    intro scr y z code mx ret fr lo kd na rows a o hM h p e R s m args below meth c Q A H0 ad0 n0 X hscr hfl hroom K
    obtain ⟨pc, L, st, σ, nc, ns⟩ := a
    obtain ⟨z', code', mx', ret', fr', lo', kd', na', rows', ins, len, x1, x2, x3, hM', hlook, hcase⟩ := zrun_inv h
    cases hM.symm.trans hM'
    have hrow := (hP y _ hM).2 _ (zlook_mem hlook)
    obtain ⟨hd, hok, hcall⟩ := hrow
    rcases hcase with ⟨a', h1, h2⟩ | ⟨r, h1, rfl⟩ | ⟨vs, rest, mz, o1, a', h1, h2, h3, h4⟩
    · have hmo := zrun_mono f scr y a' o h2
      exact z_step X hCl hscr hfl hd hok h1 ⟨Nat.le_trans hmo.1 hroom.1, Nat.le_trans hmo.2 hroom.2⟩ (IH scr y z code mx ret fr lo kd na rows a' o hM h2 p e R s m args below meth c Q A H0 ad0 n0 X hscr hfl hroom K)
    · obtain ⟨e1, hc⟩ := zret_eq h1
      subst e1
      intro ad H locs ls rr
      have e2 : r.toList.map (zv ad) = r.toList := by
        rcases hc with ⟨-, v, ty, rfl, -, -⟩ | ⟨-, v, rfl, -⟩ | ⟨-, rfl, -⟩ <;> rfl
      show W p l e R s m args below meth c H locs nc ns Q (F0 m pc ls (r.toList.map (zv ad)))
      rw [e2]
      exact K pc ins len L ad H locs ls hd h1 rr
    · have kk := IH scr y z code mx ret fr lo kd na rows a' o hM h4 p e R s m args below meth c Q A H0 ad0 n0 X hscr hfl hroom K
      have hmo := zrun_mono f scr y a' o h4
      obtain ⟨hx, hb, hml, hown, hts, hns, hK, hA, hnm⟩ := id X
      obtain ⟨zz, cz, rz, fz, lz, kz, nz, rwz, hZ, htk, hlen, hkind⟩ := zprep_eq h1
      obtain ⟨e1, e2, e3⟩ := ztake_eq htk
      subst e1
      have hroom2 : nc + o1.2.2.1 ≤ R.cells ∧ ns + o1.2.2.2 ≤ R.slots := by
        obtain ⟨v1, σ1, dc, ds⟩ := o1
        obtain ⟨rfl, -, -⟩ := zback_eq h3
        exact ⟨Nat.le_trans hmo.1 hroom.1, Nat.le_trans hmo.2 hroom.2⟩
      intro ad H locs ls rr
      have hA1 : ∀ q, va_A (zws cT ad σ) H.size q → A q := fun q hq => by
        rcases hq with ⟨k9, e9, h9⟩ | h9
        · exact rr.2.1.2.1.2 k9 _ h9
        · exact hA q (Nat.le_trans rr.2.1.2.2.1 h9)
      have hcat : ((rest.map (zv ad)).map fun v => v.category).sum ≤ 8 := by
        rw [List.map_map, show ((fun v => Value.category v) ∘ zv ad) = (fun v => v.category) from funext fun v => zv_cat ad v]
        exact e3
      have hpre : ∀ U : State, U.heap = H → s.WarmedH U.vm → zPc D cl cT Ns vs σ ad H.size (vs.map (zv ad)).toArray U := fun U hU hW => ⟨rfl, by rw [hU], by rw [hU]; exact rr.2.1.1, zK.moved hW.alike hK, fun w hw => znest_warm (hN w hw) hW (hns w hw), rr.2.1.2.1.weaken (fun _ _ _ _ => trivial)⟩
      show W p l e R s m args below meth c H locs nc ns Q (F0 m pc ls ((vs.reverse ++ rest).map (zv ad)))
      have estk : (vs.reverse ++ rest).map (zv ad) = (vs.map (zv ad)).reverse ++ rest.map (zv ad) := by rw [List.map_append, List.map_reverse]
      rw [estk]
      have hmet := fun hk : Nat.ble kz 2 = true => z_met hP IH hZ hk hlen h2 ad H.size
      have hmeth := (hP x1 _ hZ).1
      have hgood : Cond.code zz cz mz rz ∈ Ts → GoodIn Ts (Cond.code zz cz mz rz :: Ts) := fun hh w hw => by
        rcases List.mem_cons.mp hw with rfl | h9
        · exact ⟨hh, good_of_word (hG _ hh)⟩
        · exact ⟨h9, good_of_word (hG w h9)⟩
      rcases hkind with ⟨i, rfl⟩ | ⟨i, k9, as, rfl, rfl, hx3⟩ | ⟨i, k9, as, fs, rfl, rfl, hrc⟩
      · obtain ⟨e9, e8, c3, c4, c5⟩ := hcall _ _ _ _ _ _ _ _ _ hZ
        subst e9
        subst e8
        obtain ⟨m1, m2, m3, m4, m5, m6, -, -⟩ := hmeth rfl
        have m6 := m6 rfl
        refine z_callW (a := (vs.map (zv ad)).toArray) ?_ rr.2.1.2.2 hA1 (z_after rr hA1 h3 kk)
        rcases c3 with c3 | c3
        · exact va_runS (As := vs.map (zv ad)) ⟨hx, hb, hml, hown, hts⟩ (hmet rfl) ⟨callB_of x2 hts (hgood m1) rfl rfl rfl (hts _ m2) (hts _ c3) ⟨m3.1, m3.2, m4⟩ ⟨Nat.le_trans c4 hfl.1, Nat.le_trans c5 hfl.2⟩, hts _ m6⟩ ⟨zPc_blind hN, hpre⟩ rfl (by rw [List.length_map]; exact e2) rr.1.1 rfl (lv_room hcat) hd hroom2
        · exact va_runSN (As := vs.map (zv ad)) ⟨hx, hb, hml, hown, hts⟩ (hmet rfl) ⟨va_cnB x2 hts (hgood m1) rfl rfl rfl (hns _ c3) (hts _ m2) ⟨m3.1, m3.2, m4⟩ ⟨Nat.le_trans c4 hfl.1, Nat.le_trans c5 hfl.2⟩, hts _ m6, trivial⟩ ⟨zPc_blind hN, hpre⟩ rfl (by rw [List.length_map]; exact e2) rr.1.1 rfl (lv_room hcat) hd hroom2
      · cases x3 with
        | zero => exact absurd hx3 (by omega)
        | succ x3 =>
          obtain ⟨e9, e8, c3, c4, c5⟩ := hcall hx3 _ _ _ _ _ _ _ _ _ hZ
          subst e9
          obtain ⟨m1, m2, m3, m4, m5, -, m678, -⟩ := hmeth rfl
          obtain ⟨m6, m7, m8⟩ := m678 rfl
          subst m8
          have hle : (as.map (zv ad)).length = nz := by
            rw [List.length_map]
            rw [e8, List.length_cons] at e2
            omega
          refine z_callW (a := (Value.ref (ad k9) :: as.map (zv ad)).toArray) ?_ rr.2.1.2.2 hA1 (z_after rr hA1 h3 kk)
          rcases c3 with c3 | c3
          · exact va_runI (b := ad k9) (As := as.map (zv ad)) ⟨hx, hb, hml, hown, hts⟩ (hmet rfl) ⟨callB_of nz hts (hgood m1) rfl rfl rfl (hts _ m2) (hts _ c3) ⟨m3.1, m3.2, m4⟩ ⟨Nat.le_trans c4 hfl.1, Nat.le_trans c5 hfl.2⟩, m6, hts _ m7⟩ ⟨zPc_blind hN, hpre⟩ rfl hle rr.1.1 (by simp [zv]) (lv_room hcat) hd hroom2
          · exact va_runIN (b := ad k9) (As := as.map (zv ad)) ⟨hx, hb, hml, hown, hts⟩ (hmet rfl) ⟨va_cnB nz hts (hgood m1) rfl rfl rfl (hns _ c3) (hts _ m2) ⟨m3.1, m3.2, m4⟩ ⟨Nat.le_trans c4 hfl.1, Nat.le_trans c5 hfl.2⟩, m6, hts _ m7⟩ ⟨zPc_blind hN, hpre⟩ rfl hle rr.1.1 (by simp [zv]) (lv_room hcat) hd hroom2
      · obtain ⟨⟨q, hq, c0⟩, e9, e8, c3, c4, c5⟩ := hcall _ _ _ _ _ _ _ _ _ hZ
        subst e9
        obtain ⟨m1, m2, m3, m4, m5, -, -, m67⟩ := hmeth rfl
        obtain ⟨m6, m7⟩ := m67 rfl
        have hle : (as.map (zv ad)).length = nz := by
          rw [List.length_map]
          rw [e8, List.length_cons] at e2
          omega
        obtain ⟨j9, e7, hσ⟩ := zcell_at hrc
        subst e7
        obtain ⟨cellB, b1, b2, b3⟩ := va_recv hK.1 rr.2.1.1 hq (zws_get hσ)
        rw [c0] at b3
        refine z_callW (a := (Value.ref (ad (j9 + 1)) :: as.map (zv ad)).toArray) ?_ rr.2.1.2.2 hA1 (z_after rr hA1 h3 kk)
        rcases c3 with c3 | c3
        · exact va_runV (C := zz.cls) (b := ad (j9 + 1)) (As := as.map (zv ad)) ⟨hx, hb, hml, hown, hts⟩ (hmet rfl) ⟨callB_of nz hts (hgood m1) rfl rfl rfl (hts _ m2) (hts _ c3) ⟨m3.1, m3.2, m4⟩ ⟨Nat.le_trans c4 hfl.1, Nat.le_trans c5 hfl.2⟩, hts _ m6, hts _ m7⟩ ⟨zPc_blind hN, ⟨cellB, b1, b2, b3⟩, hpre⟩ rfl hle rr.1.1 (by simp [zv]) (lv_room hcat) hd hroom2
        · exact va_runVN (C := zz.cls) (b := ad (j9 + 1)) (As := as.map (zv ad)) ⟨hx, hb, hml, hown, hts⟩ (hmet rfl) ⟨va_cnB nz hts (hgood m1) rfl rfl rfl (hns _ c3) (hts _ m2) ⟨m3.1, m3.2, m4⟩ ⟨Nat.le_trans c4 hfl.1, Nat.le_trans c5 hfl.2⟩, hts _ m6, hts _ m7⟩ ⟨zPc_blind hN, ⟨cellB, b1, b2, b3⟩, hpre⟩ rfl hle rr.1.1 (by simp [zv]) (lv_room hcat) hd hroom2
end ZML

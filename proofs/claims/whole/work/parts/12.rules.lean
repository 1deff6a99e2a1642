/-! Rows of a run for instructions that touch the store. zins: the row of a method at a pc (by rfl). -/
section ZRU
def zins (P : List zM) (y pc : Nat) : Option zI := match P[y]? with
  | some (_, _, _, _, _, _, _, _, rows) => zlook rows pc
  | none => none
theorem zst_of {P : List zM} {fty : Nat → Nat → FieldType} {cd : List (List Value)} {scr : Option (List Int32)} {y pc : Nat} {L : List (Option Value)} {st : List Value} {σ : List zC} {nc ns : Nat} {ins : Jvm.ClassFile.Instr} {len x1 x2 x3 : Nat} (h : zins P y pc = some (ins, len, x1, x2, x3)) : zst P fty cd scr y (pc, L, st, σ, nc, ns) = zstep scr fty cd ins x1 x2 x3 pc L st σ nc ns := by
  unfold zins at h
  split at h
  · rename_i hM
    simp only [zst, hM, h]
  · cases h
variable {scr : Option (List Int32)} {y pc : Nat} {L : List (Option Value)} {st : List Value} {σ : List zC} {nc ns : Nat} {o : zO} {len x1 x2 x3 : Nat}
theorem zR_getf {i k : Nat} {fs : List Value} {v : Value} (h : zins zP y pc = some (.getfield i, len, x1, x2, x3)) (hc : σ[k]? = some (.inl (x1, fs))) (hv : fs[x2]? = some v) (n : zR scr y (pc + 3, L, v :: st, σ, nc, ns) o) : zR scr y (pc, L, .ref (k + 1) :: st, σ, nc, ns) o := by
  refine zRn_1 ?_ n
  rw [zst_of h]
  simp only [zstep, zp1r, zcO, zcell, hc, Option.bind_some, Nat.beq_refl, zif, hv]
theorem zR_putf {i k : Nat} {fs : List Value} {v : Value} (h : zins zP y pc = some (.putfield i, len, x1, x2, x3)) (hc : σ[k]? = some (.inl (x1, fs))) (hv : Nat.blt x2 fs.length = true) (hf : zfit (zFT x1 x2) v = true) (n : zR scr y (pc + 3, L, st, σ.set k (.inl (x1, fs.set x2 v)), nc, ns) o) : zR scr y (pc, L, v :: .ref (k + 1) :: st, σ, nc, ns) o := by
  refine zRn_1 ?_ n
  rw [zst_of h]
  simp only [zstep, zpvr, zcO, zcell, hc, Option.bind_some, Nat.beq_refl, hv, hf, Bool.and_self, zif, zput]
theorem zR_iald {k j : Nat} {i : Int32} {l : List Int32} {v : Int32} (h : zins zP y pc = some (.iaload, len, x1, x2, x3)) (hc : σ[k]? = some (.inr (.inl (.int, l)))) (hi : zix i = some j) (hv : l[j]? = some v) (n : zR scr y (pc + 1, L, .int v :: st, σ, nc, ns) o) : zR scr y (pc, L, .int i :: .ref (k + 1) :: st, σ, nc, ns) o := by
  refine zRn_1 ?_ n
  rw [zst_of h]
  simp only [zstep, zpir, zcI, zcell, hc, Option.bind_some, hi, hv]
theorem zR_cald {k j : Nat} {i : Int32} {l : List Int32} {v : Int32} (h : zins zP y pc = some (.caload, len, x1, x2, x3)) (hc : σ[k]? = some (.inr (.inl (.char, l)))) (hi : zix i = some j) (hv : l[j]? = some v) (n : zR scr y (pc + 1, L, .int v :: st, σ, nc, ns) o) : zR scr y (pc, L, .int i :: .ref (k + 1) :: st, σ, nc, ns) o := by
  refine zRn_1 ?_ n
  rw [zst_of h]
  simp only [zstep, zpir, zcC, zcell, hc, Option.bind_some, hi, hv]
theorem zR_zald {k j : Nat} {i : Int32} {l : List Int32} {v : Int32} (h : zins zP y pc = some (.baload, len, x1, x2, x3)) (hc : σ[k]? = some (.inr (.inl (.boolean, l)))) (hi : zix i = some j) (hv : l[j]? = some v) (n : zR scr y (pc + 1, L, .int v :: st, σ, nc, ns) o) : zR scr y (pc, L, .int i :: .ref (k + 1) :: st, σ, nc, ns) o := by
  refine zRn_1 ?_ n
  rw [zst_of h]
  simp only [zstep, zpir, zcZ, zcell, hc, Option.bind_some, hi, hv]
theorem zR_lald {k j : Nat} {i : Int32} {l : List Int64} {v : Int64} (h : zins zP y pc = some (.laload, len, x1, x2, x3)) (hc : σ[k]? = some (.inr (.inr (.inl l)))) (hi : zix i = some j) (hv : l[j]? = some v) (n : zR scr y (pc + 1, L, .long v :: st, σ, nc, ns) o) : zR scr y (pc, L, .int i :: .ref (k + 1) :: st, σ, nc, ns) o := by
  refine zRn_1 ?_ n
  rw [zst_of h]
  simp only [zstep, zpir, zcJ, zcell, hc, Option.bind_some, hi, hv]
theorem zR_aaldI {k j v : Nat} {i : Int32} {l : List Nat} (h : zins zP y pc = some (.aaload, len, x1, x2, x3)) (hc : σ[k]? = some (.inr (.inr (.inr (.int, l))))) (hi : zix i = some j) (hv : l[j]? = some v) (n : zR scr y (pc + 1, L, .ref v :: st, σ, nc, ns) o) : zR scr y (pc, L, .int i :: .ref (k + 1) :: st, σ, nc, ns) o := by
  refine zRn_1 ?_ n
  rw [zst_of h]
  simp only [zstep, zpir, zcR, zcell, hc, Option.bind_some, hi, hv]
theorem zR_aaldJ {k j v : Nat} {i : Int32} {l : List Nat} (h : zins zP y pc = some (.aaload, len, x1, x2, x3)) (hc : σ[k]? = some (.inr (.inr (.inr (.long, l))))) (hi : zix i = some j) (hv : l[j]? = some v) (n : zR scr y (pc + 1, L, .ref v :: st, σ, nc, ns) o) : zR scr y (pc, L, .int i :: .ref (k + 1) :: st, σ, nc, ns) o := by
  refine zRn_1 ?_ n
  rw [zst_of h]
  simp only [zstep, zpir, zcR, zcell, hc, Option.bind_some, hi, hv]
theorem zR_iast {k j : Nat} {i v : Int32} {l : List Int32} (h : zins zP y pc = some (.iastore, len, x1, x2, x3)) (hc : σ[k]? = some (.inr (.inl (.int, l)))) (hi : zix i = some j) (hv : Nat.blt j l.length = true) (n : zR scr y (pc + 1, L, st, σ.set k (.inr (.inl (.int, l.set j v))), nc, ns) o) : zR scr y (pc, L, .int v :: .int i :: .ref (k + 1) :: st, σ, nc, ns) o := by
  refine zRn_1 ?_ n
  rw [zst_of h]
  simp only [zstep, zpiir, zcI, zcell, hc, Option.bind_some, hi, hv, zif, zput]
theorem zR_cast {k j : Nat} {i v : Int32} {l : List Int32} (h : zins zP y pc = some (.castore, len, x1, x2, x3)) (hc : σ[k]? = some (.inr (.inl (.char, l)))) (hi : zix i = some j) (hv : Nat.blt j l.length = true) (n : zR scr y (pc + 1, L, st, σ.set k (.inr (.inl (.char, l.set j (vp_nar .char v)))), nc, ns) o) : zR scr y (pc, L, .int v :: .int i :: .ref (k + 1) :: st, σ, nc, ns) o := by
  refine zRn_1 ?_ n
  rw [zst_of h]
  simp only [zstep, zpiir, zcC, zcell, hc, Option.bind_some, hi, hv, zif, zput]
theorem zR_zast {k j : Nat} {i v : Int32} {l : List Int32} (h : zins zP y pc = some (.bastore, len, x1, x2, x3)) (hc : σ[k]? = some (.inr (.inl (.boolean, l)))) (hi : zix i = some j) (hv : Nat.blt j l.length = true) (n : zR scr y (pc + 1, L, st, σ.set k (.inr (.inl (.boolean, l.set j (vp_nar .boolean v)))), nc, ns) o) : zR scr y (pc, L, .int v :: .int i :: .ref (k + 1) :: st, σ, nc, ns) o := by
  refine zRn_1 ?_ n
  rw [zst_of h]
  simp only [zstep, zpiir, zcZ, zcell, hc, Option.bind_some, hi, hv, zif, zput]
theorem zR_last {k j : Nat} {i : Int32} {v : Int64} {l : List Int64} (h : zins zP y pc = some (.lastore, len, x1, x2, x3)) (hc : σ[k]? = some (.inr (.inr (.inl l)))) (hi : zix i = some j) (hv : Nat.blt j l.length = true) (n : zR scr y (pc + 1, L, st, σ.set k (.inr (.inr (.inl (l.set j v)))), nc, ns) o) : zR scr y (pc, L, .long v :: .int i :: .ref (k + 1) :: st, σ, nc, ns) o := by
  refine zRn_1 ?_ n
  rw [zst_of h]
  simp only [zstep, zplir, zcJ, zcell, hc, Option.bind_some, hi, hv, zif, zput]
theorem zR_aast {k j v : Nat} {i : Int32} {l : List Nat} {r : List Int64} (h : zins zP y pc = some (.aastore, len, x1, x2, x3)) (hc : σ[k]? = some (.inr (.inr (.inr (.long, l))))) (hr : σ[v]? = some (.inr (.inr (.inl r)))) (hi : zix i = some j) (hv : Nat.blt j l.length = true) (n : zR scr y (pc + 1, L, st, σ.set k (.inr (.inr (.inr (.long, l.set j (v + 1))))), nc, ns) o) : zR scr y (pc, L, .ref (v + 1) :: .int i :: .ref (k + 1) :: st, σ, nc, ns) o := by
  refine zRn_1 ?_ n
  rw [zst_of h]
  simp only [zstep, zprir, zcR, zcJ, zcell, hc, hr, Option.bind_some, hi, hv, Bool.and_self, zif, zput]
theorem zR_scr {xs : List Int32} {j : Nat} {i v : Int32} (h : zins zP y pc = some (.iaload, len, x1, x2, x3)) (hi : zix i = some j) (hv : xs[j]? = some v) (n : zR (some xs) y (pc + 1, L, .int v :: st, σ, nc, ns) o) : zR (some xs) y (pc, L, .int i :: .ref 0 :: st, σ, nc, ns) o := by
  refine zRn_1 ?_ n
  rw [zst_of h]
  simp only [zstep, zpir, Option.bind_some, hi, hv]
theorem zR_ldiv {a b : Int64} (h : zins zP y pc = some (.ldiv, len, x1, x2, x3)) (hb : ¬ b = 0) (n : zR scr y (pc + 1, L, .long (a / b) :: st, σ, nc, ns) o) : zR scr y (pc, L, .long b :: .long a :: st, σ, nc, ns) o := by
  refine zRn_1 ?_ n
  rw [zst_of h]
  simp only [zstep, zp2l, Option.bind_some, if_neg hb]
theorem zR_lrem {a b : Int64} (h : zins zP y pc = some (.lrem, len, x1, x2, x3)) (hb : ¬ b = 0) (n : zR scr y (pc + 1, L, .long (a - a / b * b) :: st, σ, nc, ns) o) : zR scr y (pc, L, .long b :: .long a :: st, σ, nc, ns) o := by
  refine zRn_1 ?_ n
  rw [zst_of h]
  simp only [zstep, zp2l, Option.bind_some, if_neg hb]
theorem zR_callv {i k mz : Nat} {as rest : List Value} {fs : List Value} {v : Option Value} {σ' : List zC} (h : zins zP y pc = some (.invokevirtual i, len, x1, x2, x3)) (ht : ztake x2 st = some (.ref (k + 1) :: as, rest)) (hM : (zP[x1]?).map (fun M => M.2.2.1) = some mz) (hc : σ[k]? = some (.inl (x3, fs))) (hl : Nat.ble (zent0 (.ref (k + 1) :: as)).length mz = true) (hr : zR none x1 (0, zent (.ref (k + 1) :: as) mz, [], σ, 0, 0) (v, σ', 0, 0)) (hv : znrO v = true) (n : zR scr y (pc + 3, L, v.toList ++ rest, σ', nc, ns) o) : zR scr y (pc, L, st, σ, nc, ns) o := by
  obtain ⟨⟨z, code, mz', ret, fr, lo, kd, na, rows⟩, hM1, hM2⟩ := Option.map_eq_some_iff.mp hM
  have e : mz' = mz := hM2
  subst e
  refine zRn_call (b := (0, zent (.ref (k + 1) :: as) mz', [], σ, 0, 0)) (x1 := x1) (rest := rest) ?_ hr (a' := (pc + 3, L, v.toList ++ rest, σ', nc, ns)) ?_ n
  · unfold zins at h
    split at h
    · rename_i hP
      simp only [zcallee, hP, h, zprep, ht, hM1, hl, zcell, hc, Nat.beq_refl]
    · cases h
  · simp only [zback, hv]
    rfl
theorem zR_calls {i mz : Nat} {as rest : List Value} {v : Option Value} {σ' : List zC} (h : zins zP y pc = some (.invokestatic i, len, x1, x2, x3)) (ht : ztake x2 st = some (as, rest)) (hM : (zP[x1]?).map (fun M => M.2.2.1) = some mz) (hl : Nat.ble (zent0 as).length mz = true) (hr : zR none x1 (0, zent as mz, [], σ, 0, 0) (v, σ', 0, 0)) (hv : znrO v = true) (n : zR scr y (pc + 3, L, v.toList ++ rest, σ', nc, ns) o) : zR scr y (pc, L, st, σ, nc, ns) o := by
  obtain ⟨⟨z, code, mz', ret, fr, lo, kd, na, rows⟩, hM1, hM2⟩ := Option.map_eq_some_iff.mp hM
  have e : mz' = mz := hM2
  subst e
  refine zRn_call (b := (0, zent as mz', [], σ, 0, 0)) (x1 := x1) (rest := rest) ?_ hr (a' := (pc + 3, L, v.toList ++ rest, σ', nc, ns)) ?_ n
  · unfold zins at h
    split at h
    · rename_i hP
      simp only [zcallee, hP, h, zprep, ht, hM1, hl]
    · cases h
  · simp only [zback, hv]
    rfl
theorem zix_nI {n : Nat} (h : n < 2 ^ 31) : zix (nI n) = some n := by
  unfold zix
  rw [if_neg (nI_pos h), nI_clamp h]
theorem zblt {a b : Nat} (h : a < b) : Nat.blt a b = true := Nat.ble_eq_true_of_le h
/-- outside of K nothing has changed -/
def zkp (K : Nat → Prop) (σ σ' : List zC) : Prop := σ'.length = σ.length ∧ ∀ k, ¬ K k → σ'[k]? = σ[k]?
theorem zkp_rf {K : Nat → Prop} {σ : List zC} : zkp K σ σ := ⟨rfl, fun _ _ => rfl⟩
theorem zkp_set {K : Nat → Prop} {σ σ' : List zC} (h : zkp K σ σ') {k : Nat} (hk : K k) {c : zC} : zkp K σ (σ'.set k c) := ⟨by rw [List.length_set]; exact h.1, fun j hj => by
  have e : k ≠ j := fun e => hj (by rw [← e]; exact hk)
  rw [List.getElem?_set_ne e]
  exact h.2 j hj⟩
theorem zkp_tr {K : Nat → Prop} {a b c : List zC} (h : zkp K a b) (h2 : zkp K b c) : zkp K a c := ⟨h2.1.trans h.1, fun k hk => (h2.2 k hk).trans (h.2 k hk)⟩
theorem zkp_mono {K K' : Nat → Prop} {a b : List zC} (h : zkp K a b) (hk : ∀ k, K k → K' k) : zkp K' a b := ⟨h.1, fun k hn => h.2 k (fun q => hn (hk k q))⟩
theorem zset_at {σ : List zC} {k : Nat} {c c' : zC} (h : σ[k]? = some c) : (σ.set k c')[k]? = some c' := List.getElem?_set_self (List.getElem?_eq_some_iff.mp h).1
theorem zset_ne {σ : List zC} {k j : Nat} {c c' : zC} (h : σ[j]? = some c) (hn : k ≠ j) : (σ.set k c')[j]? = some c := by rw [List.getElem?_set_ne hn]; exact h
end ZRU

/-! What a run needs: zU y a Q: from frame a of method y it comes to an answer and a store that meet Q. -/
section ZWP
def zU (y : Nat) (a : zS) (Q : Option Value → List zC → Prop) : Prop := ∃ v σ', zR none y a (v, σ', 0, 0) ∧ Q v σ'
variable {y pc : Nat} {L : List (Option Value)} {st : List Value} {σ : List zC} {Q R : Option Value → List zC → Prop} {len x1 x2 x3 : Nat}
theorem zU_n (n : Nat) {a a' : zS} (h : zsts zP zFT zCD none y n a = some a') (k : zU y a' Q) : zU y a Q := by
  obtain ⟨v, σ', r, q⟩ := k
  exact ⟨v, σ', zRn_n n h r, q⟩
theorem zU_ret {a : zS} {v : Option Value} {σ' : List zC} (h : zend zP y a = some (v, σ', 0, 0)) (q : Q v σ') : zU y a Q := ⟨v, σ', zRn_ret h, q⟩
theorem zU_of {a : zS} {v : Option Value} {σ' : List zC} (h : zR none y a (v, σ', 0, 0)) (q : Q v σ') : zU y a Q := ⟨v, σ', h, q⟩
theorem zU_imp {a : zS} (h : zU y a Q) (k : ∀ v σ', Q v σ' → R v σ') : zU y a R := by
  obtain ⟨v, σ', r, q⟩ := h
  exact ⟨v, σ', r, k v σ' q⟩
theorem zset_in {σ : List zC} {k : Nat} {c : zC} (h : k < σ.length) : (σ.set k c)[k]? = some c := List.getElem?_set_self h
theorem zix_ma (m c k : Nat) (h : m * c + k < 2 ^ 31) : zix (nI m * nI c + nI k) = some (m * c + k) := by
  rw [show nI m * nI c = nI (m * c) from (Int32.ofNat_mul m c).symm, nI_add]
  exact zix_nI h
theorem zU_getf {i k : Nat} {fs : List Value} {v : Value} (h : zins zP y pc = some (.getfield i, len, x1, x2, x3)) (hc : σ[k]? = some (.inl (x1, fs))) (hv : fs[x2]? = some v) (n : zU y (pc + 3, L, v :: st, σ, 0, 0) Q) : zU y (pc, L, .ref (k + 1) :: st, σ, 0, 0) Q := by
  obtain ⟨vv, σ', r, q⟩ := n
  exact ⟨vv, σ', zR_getf h hc hv r, q⟩
theorem zU_putf {i k : Nat} {fs : List Value} {v : Value} (h : zins zP y pc = some (.putfield i, len, x1, x2, x3)) (hc : σ[k]? = some (.inl (x1, fs))) (hv : Nat.blt x2 fs.length = true) (hf : zfit (zFT x1 x2) v = true) (n : zU y (pc + 3, L, st, σ.set k (.inl (x1, fs.set x2 v)), 0, 0) Q) : zU y (pc, L, v :: .ref (k + 1) :: st, σ, 0, 0) Q := by
  obtain ⟨vv, σ', r, q⟩ := n
  exact ⟨vv, σ', zR_putf h hc hv hf r, q⟩
theorem zU_iald {k j : Nat} {i : Int32} {l : List Int32} {v : Int32} (h : zins zP y pc = some (.iaload, len, x1, x2, x3)) (hc : σ[k]? = some (.inr (.inl (.int, l)))) (hi : zix i = some j) (hv : l[j]? = some v) (n : zU y (pc + 1, L, .int v :: st, σ, 0, 0) Q) : zU y (pc, L, .int i :: .ref (k + 1) :: st, σ, 0, 0) Q := by
  obtain ⟨vv, σ', r, q⟩ := n
  exact ⟨vv, σ', zR_iald h hc hi hv r, q⟩
theorem zU_cald {k j : Nat} {i : Int32} {l : List Int32} {v : Int32} (h : zins zP y pc = some (.caload, len, x1, x2, x3)) (hc : σ[k]? = some (.inr (.inl (.char, l)))) (hi : zix i = some j) (hv : l[j]? = some v) (n : zU y (pc + 1, L, .int v :: st, σ, 0, 0) Q) : zU y (pc, L, .int i :: .ref (k + 1) :: st, σ, 0, 0) Q := by
  obtain ⟨vv, σ', r, q⟩ := n
  exact ⟨vv, σ', zR_cald h hc hi hv r, q⟩
theorem zU_zald {k j : Nat} {i : Int32} {l : List Int32} {v : Int32} (h : zins zP y pc = some (.baload, len, x1, x2, x3)) (hc : σ[k]? = some (.inr (.inl (.boolean, l)))) (hi : zix i = some j) (hv : l[j]? = some v) (n : zU y (pc + 1, L, .int v :: st, σ, 0, 0) Q) : zU y (pc, L, .int i :: .ref (k + 1) :: st, σ, 0, 0) Q := by
  obtain ⟨vv, σ', r, q⟩ := n
  exact ⟨vv, σ', zR_zald h hc hi hv r, q⟩
theorem zU_lald {k j : Nat} {i : Int32} {l : List Int64} {v : Int64} (h : zins zP y pc = some (.laload, len, x1, x2, x3)) (hc : σ[k]? = some (.inr (.inr (.inl l)))) (hi : zix i = some j) (hv : l[j]? = some v) (n : zU y (pc + 1, L, .long v :: st, σ, 0, 0) Q) : zU y (pc, L, .int i :: .ref (k + 1) :: st, σ, 0, 0) Q := by
  obtain ⟨vv, σ', r, q⟩ := n
  exact ⟨vv, σ', zR_lald h hc hi hv r, q⟩
theorem zU_aaldI {k j v : Nat} {i : Int32} {l : List Nat} (h : zins zP y pc = some (.aaload, len, x1, x2, x3)) (hc : σ[k]? = some (.inr (.inr (.inr (.int, l))))) (hi : zix i = some j) (hv : l[j]? = some v) (n : zU y (pc + 1, L, .ref v :: st, σ, 0, 0) Q) : zU y (pc, L, .int i :: .ref (k + 1) :: st, σ, 0, 0) Q := by
  obtain ⟨vv, σ', r, q⟩ := n
  exact ⟨vv, σ', zR_aaldI h hc hi hv r, q⟩
theorem zU_aaldJ {k j v : Nat} {i : Int32} {l : List Nat} (h : zins zP y pc = some (.aaload, len, x1, x2, x3)) (hc : σ[k]? = some (.inr (.inr (.inr (.long, l))))) (hi : zix i = some j) (hv : l[j]? = some v) (n : zU y (pc + 1, L, .ref v :: st, σ, 0, 0) Q) : zU y (pc, L, .int i :: .ref (k + 1) :: st, σ, 0, 0) Q := by
  obtain ⟨vv, σ', r, q⟩ := n
  exact ⟨vv, σ', zR_aaldJ h hc hi hv r, q⟩
theorem zU_iast {k j : Nat} {i v : Int32} {l : List Int32} (h : zins zP y pc = some (.iastore, len, x1, x2, x3)) (hc : σ[k]? = some (.inr (.inl (.int, l)))) (hi : zix i = some j) (hv : Nat.blt j l.length = true) (n : zU y (pc + 1, L, st, σ.set k (.inr (.inl (.int, l.set j v))), 0, 0) Q) : zU y (pc, L, .int v :: .int i :: .ref (k + 1) :: st, σ, 0, 0) Q := by
  obtain ⟨vv, σ', r, q⟩ := n
  exact ⟨vv, σ', zR_iast h hc hi hv r, q⟩
theorem zU_cast {k j : Nat} {i v : Int32} {l : List Int32} (h : zins zP y pc = some (.castore, len, x1, x2, x3)) (hc : σ[k]? = some (.inr (.inl (.char, l)))) (hi : zix i = some j) (hv : Nat.blt j l.length = true) (n : zU y (pc + 1, L, st, σ.set k (.inr (.inl (.char, l.set j (vp_nar .char v)))), 0, 0) Q) : zU y (pc, L, .int v :: .int i :: .ref (k + 1) :: st, σ, 0, 0) Q := by
  obtain ⟨vv, σ', r, q⟩ := n
  exact ⟨vv, σ', zR_cast h hc hi hv r, q⟩
theorem zU_zast {k j : Nat} {i v : Int32} {l : List Int32} (h : zins zP y pc = some (.bastore, len, x1, x2, x3)) (hc : σ[k]? = some (.inr (.inl (.boolean, l)))) (hi : zix i = some j) (hv : Nat.blt j l.length = true) (n : zU y (pc + 1, L, st, σ.set k (.inr (.inl (.boolean, l.set j (vp_nar .boolean v)))), 0, 0) Q) : zU y (pc, L, .int v :: .int i :: .ref (k + 1) :: st, σ, 0, 0) Q := by
  obtain ⟨vv, σ', r, q⟩ := n
  exact ⟨vv, σ', zR_zast h hc hi hv r, q⟩
theorem zU_last {k j : Nat} {i : Int32} {v : Int64} {l : List Int64} (h : zins zP y pc = some (.lastore, len, x1, x2, x3)) (hc : σ[k]? = some (.inr (.inr (.inl l)))) (hi : zix i = some j) (hv : Nat.blt j l.length = true) (n : zU y (pc + 1, L, st, σ.set k (.inr (.inr (.inl (l.set j v)))), 0, 0) Q) : zU y (pc, L, .long v :: .int i :: .ref (k + 1) :: st, σ, 0, 0) Q := by
  obtain ⟨vv, σ', r, q⟩ := n
  exact ⟨vv, σ', zR_last h hc hi hv r, q⟩
theorem zU_aast {k j v : Nat} {i : Int32} {l : List Nat} {r : List Int64} (h : zins zP y pc = some (.aastore, len, x1, x2, x3)) (hc : σ[k]? = some (.inr (.inr (.inr (.long, l))))) (hr : σ[v]? = some (.inr (.inr (.inl r)))) (hi : zix i = some j) (hv : Nat.blt j l.length = true) (n : zU y (pc + 1, L, st, σ.set k (.inr (.inr (.inr (.long, l.set j (v + 1))))), 0, 0) Q) : zU y (pc, L, .ref (v + 1) :: .int i :: .ref (k + 1) :: st, σ, 0, 0) Q := by
  obtain ⟨vv, σ', r, q⟩ := n
  exact ⟨vv, σ', zR_aast h hc hr hi hv r, q⟩
theorem zU_ldiv {a b : Int64} (h : zins zP y pc = some (.ldiv, len, x1, x2, x3)) (hb : ¬ b = 0) (n : zU y (pc + 1, L, .long (a / b) :: st, σ, 0, 0) Q) : zU y (pc, L, .long b :: .long a :: st, σ, 0, 0) Q := by
  obtain ⟨vv, σ', r, q⟩ := n
  exact ⟨vv, σ', zR_ldiv h hb r, q⟩
theorem zU_lrem {a b : Int64} (h : zins zP y pc = some (.lrem, len, x1, x2, x3)) (hb : ¬ b = 0) (n : zU y (pc + 1, L, .long (a - a / b * b) :: st, σ, 0, 0) Q) : zU y (pc, L, .long b :: .long a :: st, σ, 0, 0) Q := by
  obtain ⟨vv, σ', r, q⟩ := n
  exact ⟨vv, σ', zR_lrem h hb r, q⟩
theorem zU_eq {t f : Nat} {x w : Int32} (h1 : x = w → zU y (t, L, st, σ, 0, 0) Q) (h2 : ¬ (x = w) → zU y (f, L, st, σ, 0, 0) Q) : zU y (zbr .eq x w t f, L, st, σ, 0, 0) Q := by
  by_cases h : x = w
  · obtain ⟨v, σ', r, q⟩ := h1 h
    exact ⟨v, σ', zR_eq (fun _ => r) (fun g => absurd h g), q⟩
  · obtain ⟨v, σ', r, q⟩ := h2 h
    exact ⟨v, σ', zR_eq (fun g => absurd g h) (fun _ => r), q⟩
theorem zU_ne {t f : Nat} {x w : Int32} (h1 : x = w → zU y (f, L, st, σ, 0, 0) Q) (h2 : ¬ (x = w) → zU y (t, L, st, σ, 0, 0) Q) : zU y (zbr .ne x w t f, L, st, σ, 0, 0) Q := by
  by_cases h : x = w
  · obtain ⟨v, σ', r, q⟩ := h1 h
    exact ⟨v, σ', zR_ne (fun _ => r) (fun g => absurd h g), q⟩
  · obtain ⟨v, σ', r, q⟩ := h2 h
    exact ⟨v, σ', zR_ne (fun g => absurd g h) (fun _ => r), q⟩
theorem zU_lt {t f : Nat} {x w : Int32} (h1 : x < w → zU y (t, L, st, σ, 0, 0) Q) (h2 : ¬ (x < w) → zU y (f, L, st, σ, 0, 0) Q) : zU y (zbr .lt x w t f, L, st, σ, 0, 0) Q := by
  by_cases h : x < w
  · obtain ⟨v, σ', r, q⟩ := h1 h
    exact ⟨v, σ', zR_lt (fun _ => r) (fun g => absurd h g), q⟩
  · obtain ⟨v, σ', r, q⟩ := h2 h
    exact ⟨v, σ', zR_lt (fun g => absurd g h) (fun _ => r), q⟩
theorem zU_ge {t f : Nat} {x w : Int32} (h1 : w ≤ x → zU y (t, L, st, σ, 0, 0) Q) (h2 : ¬ (w ≤ x) → zU y (f, L, st, σ, 0, 0) Q) : zU y (zbr .ge x w t f, L, st, σ, 0, 0) Q := by
  by_cases h : w ≤ x
  · obtain ⟨v, σ', r, q⟩ := h1 h
    exact ⟨v, σ', zR_ge (fun _ => r) (fun g => absurd h g), q⟩
  · obtain ⟨v, σ', r, q⟩ := h2 h
    exact ⟨v, σ', zR_ge (fun g => absurd g h) (fun _ => r), q⟩
theorem zU_gt {t f : Nat} {x w : Int32} (h1 : w < x → zU y (t, L, st, σ, 0, 0) Q) (h2 : ¬ (w < x) → zU y (f, L, st, σ, 0, 0) Q) : zU y (zbr .gt x w t f, L, st, σ, 0, 0) Q := by
  by_cases h : w < x
  · obtain ⟨v, σ', r, q⟩ := h1 h
    exact ⟨v, σ', zR_gt (fun _ => r) (fun g => absurd h g), q⟩
  · obtain ⟨v, σ', r, q⟩ := h2 h
    exact ⟨v, σ', zR_gt (fun g => absurd g h) (fun _ => r), q⟩
theorem zU_le {t f : Nat} {x w : Int32} (h1 : x ≤ w → zU y (t, L, st, σ, 0, 0) Q) (h2 : ¬ (x ≤ w) → zU y (f, L, st, σ, 0, 0) Q) : zU y (zbr .le x w t f, L, st, σ, 0, 0) Q := by
  by_cases h : x ≤ w
  · obtain ⟨v, σ', r, q⟩ := h1 h
    exact ⟨v, σ', zR_le (fun _ => r) (fun g => absurd h g), q⟩
  · obtain ⟨v, σ', r, q⟩ := h2 h
    exact ⟨v, σ', zR_le (fun g => absurd g h) (fun _ => r), q⟩
theorem zU_callv {i k mz : Nat} {as rest : List Value} {fs : List Value} (h : zins zP y pc = some (.invokevirtual i, len, x1, x2, x3)) (ht : ztake x2 st = some (.ref (k + 1) :: as, rest)) (hM : (zP[x1]?).map (fun M => M.2.2.1) = some mz) (hc : σ[k]? = some (.inl (x3, fs))) (hl : Nat.ble (zent0 (.ref (k + 1) :: as)).length mz = true) (hr : zU x1 (0, zent (.ref (k + 1) :: as) mz, [], σ, 0, 0) R) (n : ∀ v σ', R v σ' → znrO v = true ∧ zU y (pc + 3, L, v.toList ++ rest, σ', 0, 0) Q) : zU y (pc, L, st, σ, 0, 0) Q := by
  obtain ⟨v, σ', r, q⟩ := hr
  obtain ⟨hv, w, σ2, r2, q2⟩ := n v σ' q
  exact ⟨w, σ2, zR_callv h ht hM hc hl r hv r2, q2⟩
theorem zU_calls {i mz : Nat} {as rest : List Value} (h : zins zP y pc = some (.invokestatic i, len, x1, x2, x3)) (ht : ztake x2 st = some (as, rest)) (hM : (zP[x1]?).map (fun M => M.2.2.1) = some mz) (hl : Nat.ble (zent0 as).length mz = true) (hr : zU x1 (0, zent as mz, [], σ, 0, 0) R) (n : ∀ v σ', R v σ' → znrO v = true ∧ zU y (pc + 3, L, v.toList ++ rest, σ', 0, 0) Q) : zU y (pc, L, st, σ, 0, 0) Q := by
  obtain ⟨v, σ', r, q⟩ := hr
  obtain ⟨hv, w, σ2, r2, q2⟩ := n v σ' q
  exact ⟨w, σ2, zR_calls h ht hM hl r hv r2, q2⟩
theorem zlt_of {σ : List zC} {k : Nat} {c : zC} (h : σ[k]? = some c) : k < σ.length := (List.getElem?_eq_some_iff.mp h).1
theorem zset_nf {σ : List zC} {k j : Nat} {c c' : zC} (hn : k ≠ j) (h : σ[j]? = some c) : (σ.set k c')[j]? = some c := zset_ne h hn
theorem zkp_len {K : Nat → Prop} {σ σ' : List zC} (h : zkp K σ σ') : σ'.length = σ.length := h.1
theorem zkp_at {K : Nat → Prop} {σ σ' : List zC} (h : zkp K σ σ') {k : Nat} {c : zC} (hc : σ[k]? = some c) (hk : ¬ K k) : σ'[k]? = some c := (h.2 k hk).trans hc
end ZWP

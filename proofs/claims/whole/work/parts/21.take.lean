/-! The class's lines: a new line, a character taken. -/
section ZTK
/-- a store with the lines' cells -/
def zLs (σ : List zC) (a b : List Int32) (dg ar : Int32) : List zC := ((σ.set 5 (.inr (.inl (.int, a)))).set 6 (.inr (.inl (.int, b)))).set 4 (zLc dg ar)
/-- the places of the lines' cells are there -/
def zL3 (σ : List zC) : Prop := (∃ c, σ[4]? = some c) ∧ (∃ c, σ[5]? = some c) ∧ ∃ c, σ[6]? = some c
variable {σ : List zC} {a b : List Int32} {dg ar c : Int32}
theorem zLs_4 (h : zL3 σ) : (zLs σ a b dg ar)[4]? = some (zLc dg ar) := by
  obtain ⟨⟨c4, h4⟩, -, -⟩ := h
  exact zset_at (zset_ne (zset_ne h4 (by decide)) (by decide))
theorem zLs_5 (h : zL3 σ) : (zLs σ a b dg ar)[5]? = some (.inr (.inl (.int, a))) := by
  obtain ⟨-, ⟨c5, h5⟩, -⟩ := h
  exact zset_ne (zset_ne (zset_at h5) (by decide)) (by decide)
theorem zLs_6 (h : zL3 σ) : (zLs σ a b dg ar)[6]? = some (.inr (.inl (.int, b))) := by
  obtain ⟨-, -, ⟨c6, h6⟩⟩ := h
  exact zset_ne (zset_at (zset_ne (c' := .inr (.inl (.int, a))) h6 (by decide))) (by decide)
theorem zLs_k {k : Nat} {x : zC} (h : σ[k]? = some x) (h4 : 4 ≠ k) (h5 : 5 ≠ k) (h6 : 6 ≠ k) : (zLs σ a b dg ar)[k]? = some x := zset_ne (zset_ne (zset_ne h h5) h6) h4
theorem zLs_s4 {dg' ar' : Int32} : (zLs σ a b dg ar).set 4 (zLc dg' ar') = zLs σ a b dg' ar' := by
  unfold zLs
  rw [List.set_set]
theorem zLs_s5 {a' : List Int32} : (zLs σ a b dg ar).set 5 (.inr (.inl (.int, a'))) = zLs σ a' b dg ar := by
  unfold zLs
  rw [List.set_comm _ _ (by decide : (4 : Nat) ≠ 5), List.set_comm _ _ (by decide : (6 : Nat) ≠ 5), List.set_set]
theorem zLs_s6 {b' : List Int32} : (zLs σ a b dg ar).set 6 (.inr (.inl (.int, b'))) = zLs σ a b' dg ar := by
  unfold zLs
  rw [List.set_comm _ _ (by decide : (4 : Nat) ≠ 6), List.set_set]
theorem zLs_id (h4 : σ[4]? = some (zLc dg ar)) (h5 : σ[5]? = some (.inr (.inl (.int, a)))) (h6 : σ[6]? = some (.inr (.inl (.int, b)))) : zLs σ a b dg ar = σ := by
  unfold zLs
  rw [zset_id h5, zset_id h6, zset_id h4]
theorem zc_start (h : zL3 σ) (ha : a.length = 7) (hb : b.length = 7) : zR none 26 (0, zent [.ref 5] 2, [], zLs σ a b dg ar, 0, 0) (none, zLs σ (List.replicate 7 0) (List.replicate 7 0) 1 32, 0, 0) := by
  have K := zc_start_loop (σ := zLs σ a b dg ar) (a := a) (b := b) (zLs_4 h) ⟨_, zLs_5 h⟩ ⟨_, zLs_6 h⟩ ha hb 7 0 rfl (by omega)
  have e0 : ∀ l : List Int32, zz 0 l = l := fun l => rfl
  rw [e0, e0, zset_id (zLs_5 h), zset_id (zLs_6 h), zLs_s5, zLs_s6, zLs_s4] at K
  exact zRn_n 2 rfl K
def zTs1 (c : Int32) (a b : List Int32) (dg ar : Int32) : List Int32 × List Int32 × Int32 × Int32 := if zspec c = 0 then (a, b, dg, ar) else if ar = 32 then (a.set (c - 65).toNatClampNeg (a.getD (c - 65).toNatClampNeg 0 + dg), b, 1, ar) else (a, b.set (c - 65).toNatClampNeg (b.getD (c - 65).toNatClampNeg 0 + dg), 1, ar)
def zTk (c : Int32) (a b : List Int32) (dg ar : Int32) : List Int32 × List Int32 × Int32 × Int32 := if c = 62 then (a, b, dg, 62) else if c = 61 then (a, b, dg, 61) else if c < 49 then zTs1 c a b dg ar else if 57 < c then zTs1 c a b dg ar else (a, b, c - 48, ar)
def zLq (σ : List zC) (q : List Int32 × List Int32 × Int32 × Int32) : List zC := zLs σ q.1 q.2.1 q.2.2.1 q.2.2.2
theorem z_spec_ix (h : ¬ zspec c = 0) : ∃ j : Nat, j < 7 ∧ c - 65 = nI j := by
  have h' : ¬ zf_17 (c - 65) = 0 := h
  unfold zf_17 at h'
  by_cases h1 : c - 65 < 0
  · rw [if_pos h1] at h'
    exact absurd rfl h'
  · rw [if_neg h1] at h'
    by_cases h2 : (Int8.ofInt 7).toInt32 ≤ c - 65
    · rw [if_pos h2] at h'
      exact absurd rfl h'
    · obtain ⟨j, hj, e⟩ := nI_of h1
      refine ⟨j, ?_, e⟩
      rcases Nat.lt_or_ge j 7 with h9 | h9
      · exact h9
      · exact absurd (by rw [e]; exact (nI_le (a := 7) h9 hj : nI 7 ≤ nI j)) h2
theorem zc_take1 (h : zL3 σ) (ha : a.length = 7) (hb : b.length = 7) : zR none 32 (43, zent [.ref 5, .int c] 3, [], zLs σ a b dg ar, 0, 0) (none, zLq σ (zTs1 c a b dg ar), 0, 0) := by
  unfold zTs1
  refine zRn_n 3 rfl ?_
  refine zR_calls rfl rfl rfl rfl (zr_17 _ _) rfl ?_
  refine zRn_n 1 rfl ?_
  refine zR_eq (fun (g : zspec c = 0) => ?_) (fun (g : ¬ zspec c = 0) => ?_)
  · rw [if_pos g]
    exact zRn_ret rfl
  · rw [if_neg g]
    obtain ⟨j, hj, ej⟩ := z_spec_ix g
    have hix : zix (c - (Int8.ofInt 65).toInt32) = some j := by
      have e2 : c - (Int8.ofInt 65).toInt32 = nI j := ej
      rw [e2]
      exact zix_nI (by omega)
    have hcl : (c - 65).toNatClampNeg = j := by rw [ej]; exact nI_clamp (by omega)
    rw [hcl]
    refine zRn_n 1 rfl ?_
    refine zR_getf rfl (zLs_4 h) rfl ?_
    refine zRn_n 2 rfl ?_
    refine zR_ne (fun (g2 : ar = 32) => ?_) (fun (g2 : ¬ ar = 32) => ?_)
    · rw [if_pos g2]
      obtain ⟨x, hx⟩ : ∃ x, a[j]? = some x := ⟨a[j], List.getElem?_eq_getElem (by omega)⟩
      obtain rfl : x = a.getD j 0 := zgetD hx
      refine zRn_n 1 rfl ?_
      refine zR_getf rfl (zLs_4 h) rfl ?_
      refine zRn_n 7 rfl ?_
      refine zR_iald rfl (zLs_5 h) hix hx ?_
      refine zRn_n 1 rfl ?_
      refine zR_getf rfl (zLs_4 h) rfl ?_
      refine zRn_n 1 rfl ?_
      refine zR_iast rfl (zLs_5 h) hix (zblt (by omega)) ?_
      rw [zLs_s5]
      refine zRn_n 2 rfl ?_
      refine zR_putf rfl (zLs_4 h) rfl rfl ?_
      rw [show ((zLs σ (a.set j (a.getD j 0 + dg)) b dg ar).set 4 (.inl (3, [.ref 6, .ref 7, .int dg, .int ar].set 2 (.int (Int32.ofInt 1))))) = zLs σ (a.set j (a.getD j 0 + dg)) b 1 ar from zLs_s4]
      exact zRn_ret rfl
    · rw [if_neg g2]
      obtain ⟨x, hx⟩ : ∃ x, b[j]? = some x := ⟨b[j], List.getElem?_eq_getElem (by omega)⟩
      obtain rfl : x = b.getD j 0 := zgetD hx
      refine zRn_n 1 rfl ?_
      refine zR_getf rfl (zLs_4 h) rfl ?_
      refine zRn_n 6 rfl ?_
      refine zR_iald rfl (zLs_6 h) hix hx ?_
      refine zRn_n 1 rfl ?_
      refine zR_getf rfl (zLs_4 h) rfl ?_
      refine zRn_n 1 rfl ?_
      refine zR_iast rfl (zLs_6 h) hix (zblt (by omega)) ?_
      rw [zLs_s6]
      refine zRn_n 2 rfl ?_
      refine zR_putf rfl (zLs_4 h) rfl rfl ?_
      rw [show ((zLs σ a (b.set j (b.getD j 0 + dg)) dg ar).set 4 (.inl (3, [.ref 6, .ref 7, .int dg, .int ar].set 2 (.int (Int32.ofInt 1))))) = zLs σ a (b.set j (b.getD j 0 + dg)) 1 ar from zLs_s4]
      exact zRn_ret rfl
theorem zc_take (h : zL3 σ) (ha : a.length = 7) (hb : b.length = 7) : zR none 32 (0, zent [.ref 5, .int c] 3, [], zLs σ a b dg ar, 0, 0) (none, zLq σ (zTk c a b dg ar), 0, 0) := by
  unfold zTk
  refine zRn_n 3 rfl ?_
  refine zR_eq (fun (g : c = 62) => ?_) (fun (g : ¬ c = 62) => ?_)
  · rw [if_pos g]
    subst g
    refine zRn_n 2 rfl ?_
    refine zR_putf rfl (zLs_4 h) rfl rfl ?_
    rw [show ((zLs σ a b dg ar).set 4 (.inl (3, [.ref 6, .ref 7, .int dg, .int ar].set 3 (.int 62)))) = zLs σ a b dg 62 from zLs_s4]
    exact zRn_n 1 rfl (zRn_ret rfl)
  · rw [if_neg g]
    refine zRn_n 3 rfl ?_
    refine zR_ne (fun (g2 : c = 61) => ?_) (fun (g2 : ¬ c = 61) => ?_)
    · rw [if_pos g2]
      subst g2
      refine zRn_n 2 rfl ?_
      refine zR_putf rfl (zLs_4 h) rfl rfl ?_
      rw [show ((zLs σ a b dg ar).set 4 (.inl (3, [.ref 6, .ref 7, .int dg, .int ar].set 3 (.int 61)))) = zLs σ a b dg 61 from zLs_s4]
      exact zRn_n 1 rfl (zRn_ret rfl)
    · rw [if_neg g2]
      refine zRn_n 3 rfl ?_
      refine zR_lt (fun (g3 : c < 49) => ?_) (fun (g3 : ¬ c < 49) => ?_)
      · rw [if_pos g3]
        exact zc_take1 h ha hb
      · rw [if_neg g3]
        refine zRn_n 3 rfl ?_
        refine zR_gt (fun (g4 : 57 < c) => ?_) (fun (g4 : ¬ 57 < c) => ?_)
        · rw [if_pos g4]
          exact zc_take1 h ha hb
        · rw [if_neg g4]
          refine zRn_n 4 rfl ?_
          refine zR_putf rfl (zLs_4 h) rfl rfl ?_
          rw [show ((zLs σ a b dg ar).set 4 (.inl (3, [.ref 6, .ref 7, .int dg, .int ar].set 2 (.int (c - (Int8.ofInt 48).toInt32))))) = zLs σ a b (c - 48) ar from zLs_s4]
          exact zRn_n 1 rfl (zRn_ret rfl)
end ZTK

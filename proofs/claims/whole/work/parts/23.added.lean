/-! The class's network: a complex is added. -/
section ZNA
def zcp (i : Nat) (side row : List Int32) : List Int32 := side.take i ++ row.drop i
theorem zcp_set {i : Nat} {side row : List Int32} {x : Int32} (hx : side[i]? = some x) (h : i < row.length) : (zcp i side row).set i x = zcp (i + 1) side row := by
  have hi : i < side.length := (List.getElem?_eq_some_iff.mp hx).1
  apply List.ext_getElem?
  intro j
  have hL : (zcp i side row).length = row.length := by simp [zcp]; omega
  by_cases e : i = j
  · subst e
    rw [List.getElem?_set_self (by rw [hL]; exact h)]
    simp only [zcp]
    rw [List.getElem?_append_left (by rw [List.length_take]; omega), List.getElem?_take_of_lt (by omega), hx]
  · rw [List.getElem?_set_ne e]
    simp only [zcp]
    by_cases h1 : j < i
    · rw [List.getElem?_append_left (by rw [List.length_take]; omega), List.getElem?_append_left (by rw [List.length_take]; omega), List.getElem?_take_of_lt h1, List.getElem?_take_of_lt (by omega)]
    · rw [List.getElem?_append_right (by rw [List.length_take]; omega), List.getElem?_append_right (by rw [List.length_take]; omega), List.length_take, List.length_take, List.getElem?_drop, List.getElem?_drop]
      congr 1
      omega
theorem zcp_len {i : Nat} {side row : List Int32} (h1 : i ≤ side.length) (h2 : side.length = row.length) : (zcp i side row).length = row.length := by simp [zcp]; omega
theorem zcp_all {side row : List Int32} (h2 : side.length = row.length) : zcp side.length side row = side := by
  simp only [zcp]
  rw [List.take_length, List.drop_eq_nil_iff.mpr (by omega), List.append_nil]
/-- the set of the species with a number above 0, of the first i -/
def zmsk (side : List Int32) (i : Nat) : Int32 := match i with
  | 0 => 0
  | i + 1 => if side.getD i 0 ≤ 0 then zmsk side i else zmsk side i ||| ((1 : Int32) <<< (nI i &&& 31))
def zNk (b : Nat) : Nat → Prop := fun k => b ≤ k ∧ k ≤ b + 13
variable {σ : List zC} {b k : Nat} {cs : List (List Int32)} {sp so ta side : List Int32} {cn rn : Nat}
theorem zc_place_add (hN : zNet σ b cs sp so ta cn rn) (hk : σ[k]? = some (.inr (.inl (.int, side)))) (hkb : k < b) (hs : side.length = 7) (hcn : cn < 9) {l2 : Int32} : ∃ σ', zR none 29 (31, [some (.ref (b + 1)), some (.ref (k + 1)), some (.int l2), none], [], σ, 0, 0) (some (.int (nI cn)), σ', 0, 0) ∧ zNet σ' b (cs.set cn side) (sp.set cn (zmsk side 7)) so ta (cn + 1) rn ∧ zkp (zNk b) σ σ' := by
  obtain ⟨n0, n1, n2, n3, n4, n5, n6, n7, n8, n9⟩ := hN
  obtain ⟨row, hrow, hrl, hrc⟩ := n2 cn hcn
  let T : Nat → List zC := fun i => (σ.set (b + 2 + cn) (.inr (.inl (.int, zcp i side row)))).set (b + 11) (.inr (.inl (.int, sp.set cn (zmsk side i))))
  have t0 : ∀ i, (T i)[b]? = some (.inl (4, [.ref (b + 2), .ref (b + 12), .ref (b + 13), .ref (b + 14), .int (nI cn), .int (nI rn)])) := fun i => zset_ne (zset_ne n0 (by omega)) (by omega)
  have t1 : ∀ i, (T i)[b + 1]? = some (.inr (.inr (.inr (.int, (List.range 9).map (fun j => b + 3 + j))))) := fun i => zset_ne (zset_ne n1 (by omega)) (by omega)
  have tk : ∀ i, (T i)[k]? = some (.inr (.inl (.int, side))) := fun i => zset_ne (zset_ne hk (by omega)) (by omega)
  have tr : ∀ i, (T i)[b + 2 + cn]? = some (.inr (.inl (.int, zcp i side row))) := fun i => zset_ne (zset_at hrc) (by omega)
  have ts : ∀ i, (T i)[b + 11]? = some (.inr (.inl (.int, sp.set cn (zmsk side i)))) := fun i => zset_at (zset_ne (c' := .inr (.inl (.int, zcp i side row))) n3 (by omega))
  have fin : zR none 29 (56, [some (.ref (b + 1)), some (.ref (k + 1)), some (.int (nI cn)), some (.int (nI 7))], [], T 7, 0, 0) (some (.int (nI cn)), (T 7).set b (.inl (4, [.ref (b + 2), .ref (b + 12), .ref (b + 13), .ref (b + 14), .int (nI (cn + 1)), .int (nI rn)])), 0, 0) := by
    refine zRn_n 3 rfl ?_
    refine zR_ge (fun _ => ?_) (fun g => absurd (show (7 : Int32) ≤ nI 7 by decide +kernel) g)
    refine zRn_n 2 rfl ?_
    refine zR_getf rfl (t0 7) rfl ?_
    refine zRn_n 2 rfl ?_
    refine zR_putf rfl (t0 7) rfl rfl ?_
    rw [show nI (cn + 1) = nI cn + Int32.ofInt 1 from nI_succ cn]
    exact zRn_n 1 rfl (zRn_ret rfl)
  have loop : ∀ (d i : Nat), 7 - i = d → i ≤ 7 → zR none 29 (56, [some (.ref (b + 1)), some (.ref (k + 1)), some (.int (nI cn)), some (.int (nI i))], [], T i, 0, 0) (some (.int (nI cn)), (T 7).set b (.inl (4, [.ref (b + 2), .ref (b + 12), .ref (b + 13), .ref (b + 14), .int (nI (cn + 1)), .int (nI rn)])), 0, 0) := by
    intro d
    induction d with
    | zero =>
      intro i hd hi
      have e : i = 7 := by omega
      subst e
      exact fin
    | succ d ih =>
      intro i hd hi
      obtain ⟨x, hx⟩ : ∃ x, side[i]? = some x := ⟨side[i], List.getElem?_eq_getElem (by omega)⟩
      have ex : x = side.getD i 0 := zgetD hx
      refine zRn_n 3 rfl ?_
      refine zR_ge (fun (g : nI 7 ≤ nI i) => absurd g (nI_ge (by omega) (by omega))) (fun _ => ?_)
      refine zRn_n 1 rfl ?_
      refine zR_getf rfl (t0 i) rfl ?_
      refine zRn_n 1 rfl ?_
      refine zR_aaldI rfl (t1 i) (zix_nI (by omega)) (zNet_ref (by omega)) ?_
      refine zRn_n 3 rfl ?_
      refine zR_iald rfl (tk i) (zix_nI (by omega)) hx ?_
      refine zR_iast rfl (tr i) (zix_nI (by omega)) (zblt (by rw [zcp_len (by omega) (by omega)]; omega)) ?_
      rw [zcp_set hx (by omega)]
      have eT : (T i).set (b + 2 + cn) (.inr (.inl (.int, zcp (i + 1) side row))) = (σ.set (b + 2 + cn) (.inr (.inl (.int, zcp (i + 1) side row)))).set (b + 11) (.inr (.inl (.int, sp.set cn (zmsk side i)))) := by
        show ((σ.set (b + 2 + cn) _).set (b + 11) _).set (b + 2 + cn) _ = _
        rw [List.set_comm _ _ (by omega : b + 11 ≠ b + 2 + cn), List.set_set]
      rw [eT]
      have u0 : ((σ.set (b + 2 + cn) (.inr (.inl (.int, zcp (i + 1) side row)))).set (b + 11) (.inr (.inl (.int, sp.set cn (zmsk side i)))))[b]? = some (.inl (4, [.ref (b + 2), .ref (b + 12), .ref (b + 13), .ref (b + 14), .int (nI cn), .int (nI rn)])) := zset_ne (zset_ne n0 (by omega)) (by omega)
      have uk : ((σ.set (b + 2 + cn) (.inr (.inl (.int, zcp (i + 1) side row)))).set (b + 11) (.inr (.inl (.int, sp.set cn (zmsk side i)))))[k]? = some (.inr (.inl (.int, side))) := zset_ne (zset_ne hk (by omega)) (by omega)
      have us : ((σ.set (b + 2 + cn) (.inr (.inl (.int, zcp (i + 1) side row)))).set (b + 11) (.inr (.inl (.int, sp.set cn (zmsk side i)))))[b + 11]? = some (.inr (.inl (.int, sp.set cn (zmsk side i)))) := zset_at (zset_ne (c' := .inr (.inl (.int, zcp (i + 1) side row))) n3 (by omega))
      refine zRn_n 2 rfl ?_
      refine zR_iald rfl uk (zix_nI (by omega)) hx ?_
      refine zRn_n 1 rfl ?_
      have K := ih (i + 1) (by omega) (by omega)
      rw [show nI (i + 1) = nI i + Int32.ofInt 1 from nI_succ i] at K
      refine zR_le (fun (g : x ≤ 0) => ?_) (fun (g : ¬ x ≤ 0) => ?_)
      · have em : zmsk side (i + 1) = zmsk side i := by
          simp only [zmsk]
          rw [← ex, if_pos g]
        have eT2 : T (i + 1) = (σ.set (b + 2 + cn) (.inr (.inl (.int, zcp (i + 1) side row)))).set (b + 11) (.inr (.inl (.int, sp.set cn (zmsk side i)))) := by
          show (σ.set (b + 2 + cn) _).set (b + 11) (.inr (.inl (.int, sp.set cn (zmsk side (i + 1))))) = _
          rw [em]
        rw [eT2] at K
        exact zRn_n 2 rfl K
      · have em : zmsk side (i + 1) = zmsk side i ||| ((1 : Int32) <<< (nI i &&& 31)) := by
          simp only [zmsk]
          rw [← ex, if_neg g]
        refine zRn_n 1 rfl ?_
        refine zR_getf rfl u0 rfl ?_
        refine zRn_n 2 rfl ?_
        refine zR_iald rfl us (zix_nI (by omega)) (v := zmsk side i) (List.getElem?_set_self (by omega)) ?_
        refine zRn_n 4 rfl ?_
        refine zR_iast rfl us (zix_nI (by omega)) (zblt (by rw [List.length_set]; omega)) ?_
        rw [List.set_set, List.set_set]
        have eT2 : T (i + 1) = (σ.set (b + 2 + cn) (.inr (.inl (.int, zcp (i + 1) side row)))).set (b + 11) (.inr (.inl (.int, sp.set cn (zmsk side i ||| ((1 : Int32) <<< (nI i &&& 31)))))) := by
          show (σ.set (b + 2 + cn) _).set (b + 11) (.inr (.inl (.int, sp.set cn (zmsk side (i + 1))))) = _
          rw [em]
        rw [eT2] at K
        exact zRn_n 2 rfl K
  refine ⟨(T 7).set b (.inl (4, [.ref (b + 2), .ref (b + 12), .ref (b + 13), .ref (b + 14), .int (nI (cn + 1)), .int (nI rn)])), ?_, ?_, ?_⟩
  · refine zRn_n 1 rfl ?_
    refine zR_getf rfl n0 rfl ?_
    refine zRn_n 2 rfl ?_
    refine zR_lt (fun _ => ?_) (fun (g : ¬ nI cn < nI 9) => absurd (nI_lt hcn (by omega)) g)
    refine zRn_n 1 rfl ?_
    refine zR_getf rfl n0 rfl ?_
    refine zRn_n 2 rfl ?_
    refine zR_getf rfl n0 rfl ?_
    refine zRn_n 2 rfl ?_
    refine zR_iast rfl n3 (zix_nI (by omega)) (zblt (by omega)) ?_
    have e0 : σ.set (b + 11) (.inr (.inl (.int, sp.set cn (Int32.ofInt 0)))) = T 0 := by
      show _ = (σ.set (b + 2 + cn) (.inr (.inl (.int, zcp 0 side row)))).set (b + 11) _
      have e1 : zcp 0 side row = row := rfl
      rw [e1, zset_id hrc]
      rfl
    rw [e0]
    exact zRn_n 2 rfl (loop 7 0 rfl (by omega))
  · have ez : zcp 7 side row = side := by
      have := zcp_all (side := side) (row := row) (by omega)
      rw [hs] at this
      exact this
    refine ⟨zset_at (t0 7), zset_ne (t1 7) (by omega), fun i hi => ?_, zset_ne (ts 7) (by omega), zset_ne (zset_ne (zset_ne n4 (by omega)) (by omega)) (by omega), zset_ne (zset_ne (zset_ne n5 (by omega)) (by omega)) (by omega), by rw [List.length_set]; exact n6, n7, n8, by rw [List.length_set]; exact n9⟩
    by_cases e : cn = i
    · subst e
      refine ⟨side, List.getElem?_set_self (by omega), hs, ?_⟩
      have h9 := zset_ne (k := b) (c' := .inl (4, [.ref (b + 2), .ref (b + 12), .ref (b + 13), .ref (b + 14), .int (nI (cn + 1)), .int (nI rn)])) (tr 7) (by omega)
      rw [ez] at h9
      exact h9
    · obtain ⟨r, hr1, hr2, hr3⟩ := n2 i hi
      exact ⟨r, by rw [List.getElem?_set_ne e]; exact hr1, hr2, zset_ne (zset_ne (zset_ne hr3 (by omega)) (by omega)) (by omega)⟩
  · exact zkp_set (zkp_set (zkp_set zkp_rf ⟨by omega, by omega⟩) ⟨by omega, by omega⟩) ⟨by omega, by omega⟩
end ZNA

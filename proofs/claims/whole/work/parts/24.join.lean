/-! The class's network: a reaction is joined. -/
section ZNJ
/-- the reaction is there -/
def zhasr (so ta : List Int32) (rn : Nat) (f g : Int32) : Prop := ∃ r, r < rn ∧ so[r]? = some f ∧ ta[r]? = some g
variable {σ : List zC} {b : Nat} {cs : List (List Int32)} {sp so ta : List Int32} {cn rn : Nat} {f g : Int32}
theorem zc_join_find (hN : zNet σ b cs sp so ta cn rn) (hrn : rn ≤ 10) {o : zO} (K : ¬ zhasr so ta rn f g → zR none 30 (38, [some (.ref (b + 1)), some (.int f), some (.int g), some (.int (nI rn))], [], σ, 0, 0) o) (F : zhasr so ta rn f g → o = (some (.int 1), σ, 0, 0)) : zR none 30 (0, zent [.ref (b + 1), .int f, .int g] 4, [], σ, 0, 0) o := by
  obtain ⟨n0, n1, n2, n3, n4, n5, n6, n7, n8, n9⟩ := hN
  have loop : ∀ (d i : Nat), rn - i = d → i ≤ rn → (∀ r, r < i → ¬ (so[r]? = some f ∧ ta[r]? = some g)) → zR none 30 (2, [some (.ref (b + 1)), some (.int f), some (.int g), some (.int (nI i))], [], σ, 0, 0) o := by
    intro d
    induction d with
    | zero =>
      intro i hd hi hno
      have e : i = rn := by omega
      subst e
      refine zRn_n 2 rfl ?_
      refine zR_getf rfl n0 rfl ?_
      refine zRn_n 1 rfl ?_
      exact zR_ge (fun _ => K (fun ⟨r, h1, h2⟩ => hno r h1 h2)) (fun q => absurd (nI_le (Nat.le_refl i) (by omega)) q)
    | succ d ih =>
      intro i hd hi hno
      obtain ⟨x, hx⟩ : ∃ x, so[i]? = some x := ⟨so[i], List.getElem?_eq_getElem (by omega)⟩
      obtain ⟨w, hw⟩ : ∃ w, ta[i]? = some w := ⟨ta[i], List.getElem?_eq_getElem (by omega)⟩
      have next : ¬ (x = f ∧ w = g) → zR none 30 (32, [some (.ref (b + 1)), some (.int f), some (.int g), some (.int (nI i))], [], σ, 0, 0) o := fun hne => by
        have K2 := ih (i + 1) (by omega) (by omega) (fun r hr => by
          rcases Nat.lt_or_ge r i with h9 | h9
          · exact hno r h9
          · have e : r = i := by omega
            subst e
            intro q
            rw [hx, hw] at q
            exact hne ⟨Option.some.inj q.1, Option.some.inj q.2⟩)
        rw [show nI (i + 1) = nI i + Int32.ofInt 1 from nI_succ i] at K2
        exact zRn_n 2 rfl K2
      refine zRn_n 2 rfl ?_
      refine zR_getf rfl n0 rfl ?_
      refine zRn_n 1 rfl ?_
      refine zR_ge (fun q => absurd q (nI_ge (by omega) (by omega))) (fun _ => ?_)
      refine zRn_n 1 rfl ?_
      refine zR_getf rfl n0 rfl ?_
      refine zRn_n 1 rfl ?_
      refine zR_iald rfl n4 (zix_nI (by omega)) hx ?_
      refine zRn_n 2 rfl ?_
      refine zR_ne (fun q1 => ?_) (fun q1 => next (fun q => q1 q.1))
      refine zRn_n 1 rfl ?_
      refine zR_getf rfl n0 rfl ?_
      refine zRn_n 1 rfl ?_
      refine zR_iald rfl n5 (zix_nI (by omega)) hw ?_
      refine zRn_n 2 rfl ?_
      refine zR_ne (fun q2 => ?_) (fun q2 => next (fun q => q2 q.2))
      rw [F ⟨i, by omega, by rw [hx, q1], by rw [hw, q2]⟩]
      exact zRn_n 1 rfl (zRn_ret rfl)
  exact zRn_n 2 rfl (loop rn 0 (Nat.sub_zero rn) (Nat.zero_le rn) (fun r h => absurd h (Nat.not_lt_zero r)))
theorem zc_join_full {l3 : Int32} (hN : zNet σ b cs sp so ta cn 10) : zR none 30 (38, [some (.ref (b + 1)), some (.int f), some (.int g), some (.int l3)], [], σ, 0, 0) (some (.int 0), σ, 0, 0) := by
  refine zRn_n 1 rfl ?_
  refine zR_getf rfl hN.1 rfl ?_
  refine zRn_n 2 rfl ?_
  refine zR_lt (fun q => absurd q (by decide +kernel)) (fun _ => ?_)
  exact zRn_n 1 rfl (zRn_ret rfl)
theorem zc_join_add {l3 : Int32} (hN : zNet σ b cs sp so ta cn rn) (hrn : rn < 10) : ∃ σ', zR none 30 (38, [some (.ref (b + 1)), some (.int f), some (.int g), some (.int l3)], [], σ, 0, 0) (some (.int 1), σ', 0, 0) ∧ zNet σ' b cs sp (so.set rn f) (ta.set rn g) cn (rn + 1) ∧ zkp (zNk b) σ σ' := by
  obtain ⟨n0, n1, n2, n3, n4, n5, n6, n7, n8, n9⟩ := hN
  have a0 := zset_ne (c' := .inr (.inl (.int, so.set rn f))) n0 (show b + 12 ≠ b by omega)
  have a5 := zset_ne (c' := .inr (.inl (.int, so.set rn f))) n5 (show b + 12 ≠ b + 13 by omega)
  have b0 := zset_ne (c' := .inr (.inl (.int, ta.set rn g))) a0 (show b + 13 ≠ b by omega)
  refine ⟨((σ.set (b + 12) (.inr (.inl (.int, so.set rn f)))).set (b + 13) (.inr (.inl (.int, ta.set rn g)))).set b (.inl (4, [.ref (b + 2), .ref (b + 12), .ref (b + 13), .ref (b + 14), .int (nI cn), .int (nI (rn + 1))])), ?_, ?_, ?_⟩
  · refine zRn_n 1 rfl ?_
    refine zR_getf rfl n0 rfl ?_
    refine zRn_n 2 rfl ?_
    refine zR_lt (fun _ => ?_) (fun (q : ¬ nI rn < nI 10) => absurd (nI_lt hrn (by omega)) q)
    refine zRn_n 1 rfl ?_
    refine zR_getf rfl n0 rfl ?_
    refine zRn_n 1 rfl ?_
    refine zR_getf rfl n0 rfl ?_
    refine zRn_n 1 rfl ?_
    refine zR_iast rfl n4 (zix_nI (by omega)) (zblt (by omega)) ?_
    refine zRn_n 1 rfl ?_
    refine zR_getf rfl a0 rfl ?_
    refine zRn_n 1 rfl ?_
    refine zR_getf rfl a0 rfl ?_
    refine zRn_n 1 rfl ?_
    refine zR_iast rfl a5 (zix_nI (by omega)) (zblt (by omega)) ?_
    refine zRn_n 2 rfl ?_
    refine zR_getf rfl b0 rfl ?_
    refine zRn_n 2 rfl ?_
    refine zR_putf rfl b0 rfl rfl ?_
    rw [show nI (rn + 1) = nI rn + Int32.ofInt 1 from nI_succ rn]
    exact zRn_n 1 rfl (zRn_ret rfl)
  · refine ⟨zset_at b0, zset_ne (zset_ne (zset_ne n1 (by omega)) (by omega)) (by omega), fun i hi => ?_, zset_ne (zset_ne (zset_ne n3 (by omega)) (by omega)) (by omega), zset_ne (zset_ne (zset_at n4) (by omega)) (by omega), zset_ne (zset_at a5) (by omega), n6, by rw [List.length_set]; exact n7, by rw [List.length_set]; exact n8, n9⟩
    obtain ⟨r, hr1, hr2, hr3⟩ := n2 i hi
    exact ⟨r, hr1, hr2, zset_ne (zset_ne (zset_ne hr3 (by omega)) (by omega)) (by omega)⟩
  · exact zkp_set (zkp_set (zkp_set zkp_rf ⟨by omega, by omega⟩) ⟨by omega, by omega⟩) ⟨by omega, by omega⟩
end ZNJ

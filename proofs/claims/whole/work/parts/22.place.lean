/-! The class's network: its cells; a complex is placed. -/
section ZNP
/-- the network at cell b: complexes cs (the first cn of them), species sets sp, reactions so -> ta (the first rn) -/
def zNet (σ : List zC) (b : Nat) (cs : List (List Int32)) (sp so ta : List Int32) (cn rn : Nat) : Prop :=
  σ[b]? = some (.inl (4, [.ref (b + 2), .ref (b + 12), .ref (b + 13), .ref (b + 14), .int (nI cn), .int (nI rn)])) ∧ σ[b + 1]? = some (.inr (.inr (.inr (.int, (List.range 9).map (fun j => b + 3 + j))))) ∧ (∀ i, i < 9 → ∃ r, cs[i]? = some r ∧ r.length = 7 ∧ σ[b + 2 + i]? = some (.inr (.inl (.int, r)))) ∧
  σ[b + 11]? = some (.inr (.inl (.int, sp))) ∧ σ[b + 12]? = some (.inr (.inl (.int, so))) ∧ σ[b + 13]? = some (.inr (.inl (.int, ta))) ∧ (sp.length = 9 ∧ so.length = 10 ∧ ta.length = 10 ∧ cs.length = 9)
variable {σ : List zC} {b : Nat} {cs : List (List Int32)} {sp so ta : List Int32} {cn rn : Nat}
theorem zNet_ref {i : Nat} (hi : i < 9) : ((List.range 9).map (fun j => b + 3 + j))[i]? = some (b + 2 + i + 1) := by
  rw [List.getElem?_map, List.getElem?_range hi]
  show some (b + 3 + i) = some (b + 2 + i + 1)
  congr 1
  omega
/-- the place of a side among complexes -/
def zfd (cs : List (List Int32)) (side : List Int32) : Option Nat := match cs with
  | [] => none
  | r :: t => if r = side then some 0 else (zfd t side).map (· + 1)
theorem zc_place_find {k : Nat} {side : List Int32} (hN : zNet σ b cs sp so ta cn rn) (hk : σ[k]? = some (.inr (.inl (.int, side)))) (hs : side.length = 7) (hcn : cn ≤ 9) {o : zO} (K : zfd (cs.take cn) side = none → zR none 29 (31, [some (.ref (b + 1)), some (.ref (k + 1)), some (.int (nI cn)), none], [], σ, 0, 0) o) (F : ∀ j, zfd (cs.take cn) side = some j → o = (some (.int (nI j)), σ, 0, 0)) : zR none 29 (0, zent [.ref (b + 1), .ref (k + 1)] 4, [], σ, 0, 0) o := by
  obtain ⟨n0, n1, n2, n3, n4, n5, n6, n7, n8, n9⟩ := hN
  have loop : ∀ (d i : Nat), cn - i = d → i ≤ cn → (zfd ((cs.take cn).drop i) side = none → zR none 29 (31, [some (.ref (b + 1)), some (.ref (k + 1)), some (.int (nI cn)), none], [], σ, 0, 0) o) → (∀ j, zfd ((cs.take cn).drop i) side = some j → o = (some (.int (nI (i + j))), σ, 0, 0)) → zR none 29 (2, [some (.ref (b + 1)), some (.ref (k + 1)), some (.int (nI i)), none], [], σ, 0, 0) o := by
    intro d
    induction d with
    | zero =>
      intro i hd hi K F
      have e : i = cn := by omega
      subst e
      have hz : (cs.take i).drop i = [] := by
        rw [List.drop_eq_nil_iff, List.length_take]
        omega
      rw [hz] at K
      refine zRn_n 2 rfl ?_
      refine zR_getf rfl n0 rfl ?_
      refine zRn_n 1 rfl ?_
      exact zR_ge (fun _ => K rfl) (fun g => absurd (nI_le (Nat.le_refl i) (by omega)) g)
    | succ d ih =>
      intro i hd hi K F
      obtain ⟨r, hr, hrl, hrc⟩ := n2 i (by omega)
      have hlt2 : i < (cs.take cn).length := by rw [List.length_take]; omega
      obtain ⟨r', hr', e⟩ := z_drop hlt2
      have er : r' = r := by
        rw [List.getElem?_take_of_lt (by omega)] at hr'
        exact Option.some.inj (hr'.symm.trans hr)
      subst er
      rw [e] at K F
      simp only [zfd] at K F
      refine zRn_n 2 rfl ?_
      refine zR_getf rfl n0 rfl ?_
      refine zRn_n 1 rfl ?_
      refine zR_ge (fun g => absurd g (nI_ge (by omega) (by omega))) (fun _ => ?_)
      refine zRn_n 1 rfl ?_
      refine zR_getf rfl n0 rfl ?_
      refine zRn_n 1 rfl ?_
      refine zR_aaldI rfl n1 (zix_nI (by omega)) (zNet_ref (by omega)) ?_
      refine zRn_n 1 rfl ?_
      refine zR_calls rfl rfl rfl rfl (zc_same hrc hk hrl hs) rfl ?_
      refine zRn_n 1 rfl ?_
      rcases zsm_eq r' side (by omega) with ⟨e1, e2⟩ | ⟨e1, e2⟩
      · rw [e1]
        refine zR_eq (fun g => absurd g (by decide)) (fun _ => ?_)
        rw [if_pos e2] at F
        rw [F 0 rfl]
        exact zRn_n 1 rfl (zRn_ret rfl)
      · rw [e1]
        refine zR_eq (fun _ => ?_) (fun g => absurd rfl g)
        rw [if_neg e2] at K F
        have K2 := ih (i + 1) (by omega) (by omega) (fun h => K (by rw [h]; rfl)) (fun j hj => by
          rw [F (j + 1) (by rw [hj]; rfl)]
          rw [show i + (j + 1) = i + 1 + j by omega])
        rw [show nI (i + 1) = nI i + Int32.ofInt 1 from nI_succ i] at K2
        exact zRn_n 2 rfl K2
  have L := loop cn 0 (Nat.sub_zero cn) (Nat.zero_le cn) (by rw [List.drop_zero]; exact K) (by rw [List.drop_zero]; intro j hj; rw [F j hj, Nat.zero_add])
  exact zRn_n 2 rfl L
theorem zc_place_full {k : Nat} {l2 : Int32} (hN : zNet σ b cs sp so ta cn rn) (h : 9 ≤ cn) (hcn : cn ≤ 9) : zR none 29 (31, [some (.ref (b + 1)), some (.ref (k + 1)), some (.int l2), none], [], σ, 0, 0) (some (.int (-1)), σ, 0, 0) := by
  have e : cn = 9 := by omega
  subst e
  refine zRn_n 1 rfl ?_
  refine zR_getf rfl hN.1 rfl ?_
  refine zRn_n 2 rfl ?_
  refine zR_lt (fun g => absurd g (by decide +kernel)) (fun _ => ?_)
  exact zRn_n 1 rfl (zRn_ret rfl)
end ZNP

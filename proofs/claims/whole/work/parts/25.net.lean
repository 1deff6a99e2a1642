/-! The network as a value: complexes in their order, reactions in theirs. -/
section ZNV
def zNA (σ : List zC) (b : Nat) (comps : List (List Int32)) (rs : List (Nat × Nat)) : Prop := ∃ cs sp so ta, zNet σ b cs sp so ta comps.length rs.length ∧ cs.take comps.length = comps ∧ (∀ (i : Nat) (c : List Int32), comps[i]? = some c → sp[i]? = some (zmsk c 7) ∧ c.length = 7) ∧ (∀ (r : Nat) (q : Nat × Nat), rs[r]? = some q → so[r]? = some (nI q.1) ∧ ta[r]? = some (nI q.2) ∧ q.1 < 9 ∧ q.2 < 9) ∧ comps.length ≤ 9 ∧ rs.length ≤ 10
/-- a network's cells, whatever they hold -/
def zNsh (σ : List zC) (b : Nat) : Prop := ∃ cs sp so ta cn rn, zNet σ b cs sp so ta cn rn ∧ cn ≤ 9 ∧ rn ≤ 10
theorem zNA.sh {σ : List zC} {b : Nat} {comps : List (List Int32)} {rs : List (Nat × Nat)} (h : zNA σ b comps rs) : zNsh σ b := by
  obtain ⟨cs, sp, so, ta, h1, -, -, -, h2, h3⟩ := h
  exact ⟨cs, sp, so, ta, _, _, h1, h2, h3⟩
variable {σ : List zC} {b k : Nat} {comps : List (List Int32)} {rs : List (Nat × Nat)} {side : List Int32}
theorem zfd_lt : ∀ {l : List (List Int32)} {s : List Int32} {j : Nat}, zfd l s = some j → l[j]? = some s
  | [], _, _, h => by cases h
  | r :: t, s, j, h => by
    simp only [zfd] at h
    split at h
    · rename_i e
      cases h
      rw [e]; rfl
    · obtain ⟨i, hi, e⟩ := Option.map_eq_some_iff.mp h
      have e : i + 1 = j := e
      subst e
      exact (zfd_lt hi : t[i]? = some s)
theorem zn_place_in (h : zNA σ b comps rs) (hk : σ[k]? = some (.inr (.inl (.int, side)))) (hs : side.length = 7) {j : Nat} (hj : zfd comps side = some j) : zR none 29 (0, zent [.ref (b + 1), .ref (k + 1)] 4, [], σ, 0, 0) (some (.int (nI j)), σ, 0, 0) := by
  obtain ⟨cs, sp, so, ta, h1, h2, h3, h4, h5, h6⟩ := h
  refine zc_place_find h1 hk hs h5 (fun q => ?_) (fun i hi => ?_)
  · rw [h2, hj] at q; cases q
  · rw [h2, hj] at hi; cases hi; rfl
theorem zn_place_no (h : zNA σ b comps rs) (hk : σ[k]? = some (.inr (.inl (.int, side)))) (hs : side.length = 7) (hj : zfd comps side = none) (h9 : comps.length = 9) : zR none 29 (0, zent [.ref (b + 1), .ref (k + 1)] 4, [], σ, 0, 0) (some (.int (-1)), σ, 0, 0) := by
  obtain ⟨cs, sp, so, ta, h1, h2, h3, h4, h5, h6⟩ := h
  refine zc_place_find h1 hk hs h5 (fun q => zc_place_full h1 (by omega) h5) (fun i hi => ?_)
  rw [h2, hj] at hi; cases hi
theorem zn_place_new (h : zNA σ b comps rs) (hk : σ[k]? = some (.inr (.inl (.int, side)))) (hkb : k < b) (hs : side.length = 7) (hj : zfd comps side = none) (h9 : comps.length < 9) : ∃ σ', zR none 29 (0, zent [.ref (b + 1), .ref (k + 1)] 4, [], σ, 0, 0) (some (.int (nI comps.length)), σ', 0, 0) ∧ zNA σ' b (comps ++ [side]) rs ∧ zkp (zNk b) σ σ' := by
  obtain ⟨cs, sp, so, ta, h1, h2, h3, h4, h5, h6⟩ := h
  obtain ⟨σ', r1, r2, r3⟩ := zc_place_add (l2 := nI comps.length) h1 hk hkb hs h9
  have hcl : cs.length = 9 := h1.2.2.2.2.2.2.2.2.2
  have hsl : sp.length = 9 := h1.2.2.2.2.2.2.1
  refine ⟨σ', ?_, ⟨cs.set comps.length side, sp.set comps.length (zmsk side 7), so, ta, ?_, ?_, fun i c hc => ?_, h4, ?_, h6⟩, r3⟩
  · refine zc_place_find h1 hk hs h5 (fun q => r1) (fun i hi => ?_)
    rw [h2, hj] at hi; cases hi
  · rw [List.length_append]
    exact r2
  · rw [List.length_append, List.length_singleton, List.take_succ, List.getElem?_set_self (by omega)]
    rw [List.take_set_of_le (Nat.le_refl _), h2]
    rfl
  · by_cases e : comps.length = i
    · subst e
      rw [List.getElem?_append_right (Nat.le_refl _), Nat.sub_self] at hc
      cases hc
      exact ⟨List.getElem?_set_self (by omega), hs⟩
    · have hlt : i < comps.length := by
        have := (List.getElem?_eq_some_iff.mp hc).1
        rw [List.length_append, List.length_singleton] at this
        omega
      rw [List.getElem?_append_left hlt] at hc
      rw [List.getElem?_set_ne e]
      exact h3 i c hc
  · rw [List.length_append, List.length_singleton]
    omega
theorem zn_has {so ta : List Int32} (h4 : ∀ (r : Nat) (q : Nat × Nat), rs[r]? = some q → so[r]? = some (nI q.1) ∧ ta[r]? = some (nI q.2) ∧ q.1 < 9 ∧ q.2 < 9) {f g : Nat} (hf : f < 9) (hg : g < 9) : zhasr so ta rs.length (nI f) (nI g) ↔ (f, g) ∈ rs := by
  constructor
  · rintro ⟨r, hr, e1, e2⟩
    have hq : rs[r]? = some rs[r] := List.getElem?_eq_getElem hr
    obtain ⟨a1, a2, a3, a4⟩ := h4 r _ hq
    have b1 : nI f = nI rs[r].1 := Option.some.inj (e1.symm.trans a1)
    have b2 : nI g = nI rs[r].2 := Option.some.inj (e2.symm.trans a2)
    rw [nI_eq (by omega) (by omega)] at b1 b2
    have e : rs[r] = (f, g) := by rw [b1, b2]
    rw [← e]
    exact List.getElem_mem hr
  · intro h
    obtain ⟨r, hr⟩ := List.getElem?_of_mem h
    obtain ⟨a1, a2, -, -⟩ := h4 r _ hr
    exact ⟨r, (List.getElem?_eq_some_iff.mp hr).1, a1, a2⟩
theorem zn_join_in (h : zNA σ b comps rs) {f g : Nat} (hf : f < 9) (hg : g < 9) (hin : (f, g) ∈ rs) : zR none 30 (0, zent [.ref (b + 1), .int (nI f), .int (nI g)] 4, [], σ, 0, 0) (some (.int 1), σ, 0, 0) := by
  obtain ⟨cs, sp, so, ta, h1, h2, h3, h4, h5, h6⟩ := h
  exact zc_join_find h1 h6 (fun q => absurd ((zn_has h4 hf hg).mpr hin) q) (fun _ => rfl)
theorem zn_join_no (h : zNA σ b comps rs) {f g : Nat} (hf : f < 9) (hg : g < 9) (hin : (f, g) ∉ rs) (h10 : rs.length = 10) : zR none 30 (0, zent [.ref (b + 1), .int (nI f), .int (nI g)] 4, [], σ, 0, 0) (some (.int 0), σ, 0, 0) := by
  obtain ⟨cs, sp, so, ta, h1, h2, h3, h4, h5, h6⟩ := h
  refine zc_join_find h1 h6 (fun _ => ?_) (fun q => absurd ((zn_has h4 hf hg).mp q) hin)
  rw [h10] at h1 ⊢
  exact zc_join_full h1
theorem zn_join_new (h : zNA σ b comps rs) {f g : Nat} (hf : f < 9) (hg : g < 9) (hin : (f, g) ∉ rs) (h10 : rs.length < 10) : ∃ σ', zR none 30 (0, zent [.ref (b + 1), .int (nI f), .int (nI g)] 4, [], σ, 0, 0) (some (.int 1), σ', 0, 0) ∧ zNA σ' b comps (rs ++ [(f, g)]) ∧ zkp (zNk b) σ σ' := by
  obtain ⟨cs, sp, so, ta, h1, h2, h3, h4, h5, h6⟩ := h
  obtain ⟨σ', r1, r2, r3⟩ := zc_join_add (l3 := nI rs.length) (f := nI f) (g := nI g) h1 h10
  have hso : so.length = 10 := h1.2.2.2.2.2.2.2.1
  have hta : ta.length = 10 := h1.2.2.2.2.2.2.2.2.1
  refine ⟨σ', zc_join_find h1 h6 (fun _ => r1) (fun q => absurd ((zn_has h4 hf hg).mp q) hin), ⟨cs, sp, so.set rs.length (nI f), ta.set rs.length (nI g), ?_, h2, h3, fun r q hq => ?_, h5, ?_⟩, r3⟩
  · rw [List.length_append]
    exact r2
  · by_cases e : rs.length = r
    · subst e
      rw [List.getElem?_append_right (Nat.le_refl _), Nat.sub_self] at hq
      cases hq
      exact ⟨List.getElem?_set_self (by omega), List.getElem?_set_self (by omega), hf, hg⟩
    · have hlt : r < rs.length := by
        have := (List.getElem?_eq_some_iff.mp hq).1
        rw [List.length_append, List.length_singleton] at this
        omega
      rw [List.getElem?_append_left hlt] at hq
      rw [List.getElem?_set_ne e, List.getElem?_set_ne e]
      exact h4 r q hq
  · rw [List.length_append, List.length_singleton]
    omega
end ZNV

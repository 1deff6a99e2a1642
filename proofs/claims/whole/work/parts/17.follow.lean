/-! Form.follow and Form.isRight over a text. -/
section ZFL
theorem zAs_s {s r c s' r' : Int32} (hs : s = 0 ∨ s = 1 ∨ s = 2 ∨ s = 3 ∨ s = 4 ∨ s = 5) (h : zAs s r c = some (s', r')) : s' = 0 ∨ s' = 1 ∨ s' = 2 ∨ s' = 3 ∨ s' = 4 ∨ s' = 5 := by
  have ht : ∀ w, ztm c = some w → w = 3 ∨ w = 4 := by
    intro w hw
    unfold ztm at hw
    split at hw
    · split at hw
      · cases hw
      · cases hw; exact Or.inr rfl
    · split at hw
      · split at hw
        · cases hw
        · cases hw; exact Or.inr rfl
      · cases hw; exact Or.inl rfl
  have hd : ∀ w, zsd c = some w → w = 3 ∨ w = 4 ∨ w = 5 := by
    intro w hw
    unfold zsd at hw
    split at hw
    · cases hw; exact Or.inr (Or.inr rfl)
    · rcases ht w hw with h9 | h9
      · exact Or.inl h9
      · exact Or.inr (Or.inl h9)
  unfold zAs at h
  split at h
  · cases h; exact hs
  · split at h
    · obtain ⟨w, hw, e⟩ := Option.map_eq_some_iff.mp h
      cases e
      rcases hd _ hw with h9 | h9 | h9 <;> simp [h9]
    · split at h
      · obtain ⟨w, hw, e⟩ := Option.map_eq_some_iff.mp h
        cases e
        rcases hd _ hw with h9 | h9 | h9 <;> simp [h9]
      · split at h
        · obtain ⟨w, hw, e⟩ := Option.map_eq_some_iff.mp h
          cases e
          rcases ht _ hw with h9 | h9 <;> simp [h9]
        · split at h
          · split at h
            · cases h
            · cases h; simp
          · split at h
            · split at h
              · cases h; simp
              · obtain ⟨w, hw, e⟩ := Option.map_eq_some_iff.mp h
                cases e
                simp
            · obtain ⟨w, hw, e⟩ := Option.map_eq_some_iff.mp h
              cases e
              simp
/-- the state where it is refused, or the last -/
def zls (cs : List Int32) (s r : Int32) : Int32 × Int32 := match cs with
  | [] => (s, r)
  | c :: cs => match zAs s r c with
    | none => (s, r)
    | some (s', r') => zls cs s' r'
/-- refused: 1 -/
def zrf (cs : List Int32) (s r : Int32) : Int32 := match cs with
  | [] => 0
  | c :: cs => match zAs s r c with
    | none => 1
    | some (s', r') => zrf cs s' r'
def zct (cs : List Int32) (s r : Int32) : Nat := match cs with
  | [] => 0
  | c :: cs => match zAs s r c with
    | none => 0
    | some (s', r') => zct cs s' r' + 1
variable {σ : List zC} {n : Nat} {t : List Int32}
/-- the loop: from character i on -/
theorem zc_follow_loop (h1 : σ[1]? = some (.inl (1, [.ref 3, .int (nI n)]))) (h2 : σ[2]? = some (.inr (.inl (.char, t)))) {c0 : zC} (h3 : σ[3]? = some c0) (hn : n ≤ 100) (ht : t.length = 100) : ∀ (d i : Nat) (s r : Int32), n - i = d → i ≤ n → (s = 0 ∨ s = 1 ∨ s = 2 ∨ s = 3 ∨ s = 4 ∨ s = 5) →
    zR none 24 (17, [some (.ref 4), some (.ref 2), some (.int (nI i))], [], σ.set 3 (zFm s r 0), 0, 0) (some (.int (nI (i + zct ((t.take n).drop i) s r))), σ.set 3 (zFm (zls ((t.take n).drop i) s r).1 (zls ((t.take n).drop i) s r).2 (zrf ((t.take n).drop i) s r)), 0, 0) := by
  intro d
  induction d with
  | zero =>
    intro i s r hd hi hs
    have e : i = n := by omega
    subst e
    have hz : (t.take i).drop i = [] := by
      rw [List.drop_eq_nil_iff, List.length_take]
      omega
    rw [hz]
    have h1' := zset_ne (c' := zFm s r 0) h1 (show 3 ≠ 1 by decide)
    refine zRn_n 2 rfl ?_
    refine zR_getf rfl h1' rfl ?_
    refine zRn_n 1 rfl ?_
    refine zR_ge (fun _ => ?_) (fun g => absurd (nI_le (Nat.le_refl i) (by omega)) g)
    refine zRn_n 1 rfl ?_
    refine zR_getf rfl h1' rfl ?_
    exact zRn_ret rfl
  | succ d ih =>
    intro i s r hd hi hs
    have hlt : i < n := by omega
    have hlt2 : i < (t.take n).length := by rw [List.length_take]; omega
    have hz : (t.take n).drop i = (t.take n)[i] :: (t.take n).drop (i + 1) := List.drop_eq_getElem_cons hlt2
    have hti : t[i]? = some (t.take n)[i] := by
      rw [List.getElem_take, List.getElem?_eq_getElem]
    generalize (t.take n)[i] = c at hz hti
    rw [hz]
    have h1' := zset_ne (c' := zFm s r 0) h1 (show 3 ≠ 1 by decide)
    have h2' := zset_ne (c' := zFm s r 0) h2 (show 3 ≠ 2 by decide)
    have h3' := zset_at (c' := zFm s r 0) h3
    refine zRn_n 2 rfl ?_
    refine zR_getf rfl h1' rfl ?_
    refine zRn_n 1 rfl ?_
    refine zR_ge (fun g => absurd g (nI_ge hlt (by omega))) (fun _ => ?_)
    refine zRn_n 2 rfl ?_
    refine zR_getf rfl h1' rfl ?_
    refine zRn_n 1 rfl ?_
    refine zR_cald rfl h2' (zix_nI (by omega)) hti ?_
    have A := zc_acc (c := c) h3' hs
    simp only [zct, zls, zrf]
    cases hA : zAs s r c with
    | none =>
      rw [hA] at A
      refine zR_callv rfl rfl rfl h3' rfl (A.2 rfl) rfl ?_
      refine zRn_n 3 rfl ?_
      refine zR_putf rfl h3' rfl rfl ?_
      rw [List.set_set]
      exact zRn_n 1 rfl (zRn_ret rfl)
    | some q =>
      obtain ⟨s', r'⟩ := q
      rw [hA] at A
      have hs' := zAs_s hs hA
      refine zR_callv rfl rfl rfl h3' rfl (A.1 s' r' rfl) rfl ?_
      rw [List.set_set]
      have K := ih (i + 1) s' r' (by omega) (by omega) hs'
      rw [show i + 1 + zct ((t.take n).drop (i + 1)) s' r' = i + (zct ((t.take n).drop (i + 1)) s' r' + 1) by omega, show nI (i + 1) = nI i + Int32.ofInt 1 from nI_succ i] at K
      exact zRn_n 3 rfl K
end ZFL

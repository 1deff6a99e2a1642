/-! The two automata are one. -/
section ZPA
/-- the reference's state for the class's -/
def zenc (s r : Int32) : Int32 := if s = 0 then 0 else if s = 1 then 8 * r else if s = 2 then 8 * r + 4 else if s = 3 then 8 * r + 1 else if s = 4 then 8 * r + 2 else 8 * r + 3
def zstates : List (Int32 × Int32) := [(0, 0), (1, 0), (1, 1), (2, 0), (2, 1), (3, 0), (3, 1), (4, 0), (4, 1), (5, 0), (5, 1)]
def zone1 (q : Int32 × Int32) (c : Int32) : Bool := match zAs q.1 q.2 c with
  | none => decide (¬ 0 ≤ zf_64 (zenc q.1 q.2) c)
  | some q' => decide (zf_64 (zenc q.1 q.2) c = zenc q'.1 q'.2) && (decide (0 ≤ zenc q'.1 q'.2) && (decide (q' ∈ zstates) && decide (¬ q'.1 = 0)))
set_option maxRecDepth 100000 in
theorem zone1_all : ((List.range 94).all fun j => zstates.all fun q => zone1 q (nI (33 + j))) = true := by decide +kernel
theorem zone1_at {q : Int32 × Int32} (hq : q ∈ zstates) {c : Int32} (h1 : ¬ c < 33) (h2 : ¬ 126 < c) : zone1 q c = true := by
  obtain ⟨j, hj, rfl⟩ := nI_of2 (x := c) (M := 126) (n := 126) (by decide +kernel) (fun h => h1 (Int32.lt_trans h (by decide +kernel))) (k2_le h2)
  have h33 : 33 ≤ j := by
    rcases Nat.lt_or_ge j 33 with h | h
    · exact absurd (show nI j < 33 from (nI_ltI (b := 33) (by omega) (by omega)).mpr h) h1
    · exact h
  have a := List.all_eq_true.mp zone1_all (j - 33) (List.mem_range.mpr (by omega))
  rw [show 33 + (j - 33) = j by omega] at a
  exact List.all_eq_true.mp a q hq
/-- characters that may stand in a text -/
def zchs (cs : List Int32) : Prop := ∀ c ∈ cs, ¬ c < 32 ∧ ¬ 126 < c
theorem z_parse : ∀ (cs : List Int32) (q : Int32 × Int32) (no : Int32) (k n : Nat), zchs cs → q ∈ zstates → (no = 0 ↔ ¬ q.1 = 0) → n = k + cs.length →
    (zright (zls cs q.1 q.2).1 (zls cs q.1 q.2).2 (zrf cs q.1 q.2) = 1 ∧ zflt cs (zenc q.1 q.2) no k n = -1) ∨ (zright (zls cs q.1 q.2).1 (zls cs q.1 q.2).2 (zrf cs q.1 q.2) = 0 ∧ zflt cs (zenc q.1 q.2) no k n = nI (k + zct cs q.1 q.2))
  | [], q, no, k, n, _, hq, hno, hn => by
    simp only [zls, zrf, zflt, zct]
    have hn' : n = k := by simpa using hn
    subst hn'
    have key : ∀ q ∈ zstates, (zright q.1 q.2 0 = 1 ∧ (q.1 = 0 ∨ zenc q.1 q.2 = 10 ∨ zenc q.1 q.2 = 11)) ∨ (zright q.1 q.2 0 = 0 ∧ ¬ q.1 = 0 ∧ ¬ zenc q.1 q.2 = 10 ∧ ¬ zenc q.1 q.2 = 11) := by decide +kernel
    rcases key q hq with ⟨a1, a2⟩ | ⟨a1, a2, a3, a4⟩
    · refine Or.inl ⟨a1, ?_⟩
      by_cases h0 : no = 0
      · rw [if_pos h0]
        rcases a2 with a2 | a2 | a2
        · exact absurd a2 (hno.mp h0)
        · rw [if_pos a2]
        · by_cases h10 : zenc q.1 q.2 = 10
          · rw [if_pos h10]
          · rw [if_neg h10, if_pos a2]
      · rw [if_neg h0]
    · refine Or.inr ⟨a1, ?_⟩
      rw [if_pos (hno.mpr a2), if_neg a3, if_neg a4]
      rfl
  | c :: cs, q, no, k, n, hc, hq, hno, hn => by
    obtain ⟨c1, c2⟩ := hc c List.mem_cons_self
    have hcs : zchs cs := fun d hd => hc d (List.mem_cons_of_mem _ hd)
    simp only [zls, zrf, zflt, zct]
    have hlen : n = (k + 1) + cs.length := by rw [hn, List.length_cons]; omega
    by_cases h32 : c = 32
    · have hA : zAs q.1 q.2 c = some (q.1, q.2) := by unfold zAs; rw [if_pos h32]
      rw [hA, if_pos h32]
      rcases z_parse cs q no (k + 1) n hcs hq hno hlen with h | h
      · exact Or.inl h
      · refine Or.inr ⟨h.1, ?_⟩
        rw [h.2]
        congr 1
        show k + 1 + zct cs q.1 q.2 = k + (zct cs q.1 q.2 + 1)
        omega
    · rw [if_neg h32]
      have h33 : ¬ c < 33 := by
        intro h
        obtain ⟨j, hj, rfl⟩ := nI_of2 (x := c) (M := 126) (n := 126) (by decide +kernel) (fun h => c1 (Int32.lt_trans h (by decide +kernel))) (k2_le c2)
        have a := (nI_ltI (a := j) (b := 33) (by omega) (by omega)).mp h
        have b : ¬ j < 32 := fun g => c1 ((nI_ltI (a := j) (b := 32) (by omega) (by omega)).mpr g)
        have e : j = 32 := by omega
        subst e
        exact h32 rfl
      have Z := zone1_at hq h33 c2
      unfold zone1 at Z
      cases hA : zAs q.1 q.2 c with
      | none =>
        rw [hA] at Z
        have Z' := of_decide_eq_true Z
        rw [if_neg Z']
        refine Or.inr ⟨?_, rfl⟩
        show zright q.1 q.2 1 = 0
        have key : ∀ q ∈ zstates, zright q.1 q.2 1 = 0 := by decide +kernel
        exact key q hq
      | some q' =>
        rw [hA] at Z
        simp only [Bool.and_eq_true, decide_eq_true_eq] at Z
        obtain ⟨z1, z2, z3, z4⟩ := Z
        obtain ⟨s', r'⟩ := q'
        rw [z1, if_pos z2]
        rcases z_parse cs (s', r') 0 (k + 1) n hcs z3 ⟨fun _ => z4, fun _ => rfl⟩ hlen with h | h
        · exact Or.inl h
        · refine Or.inr ⟨h.1, ?_⟩
          rw [h.2]
          congr 1
          show k + 1 + zct cs s' r' = k + (zct cs s' r' + 1)
          omega
end ZPA

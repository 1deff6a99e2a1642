/-! The two ways through a right text end alike. -/
section ZAG
def yone2 (q : Int32 × Int32) (c : Int32) : Bool := match zAs q.1 q.2 c with
  | none => true
  | some q' => decide (q' ∈ zstates) && decide (
    (c = 59 ∧ q.2 = 1 ∧ ¬ q.1 = 3 ∧ q'.1 = 1 ∧ q'.2 = 0 ∧ yact c = 3) ∨
    (¬ c = 59 ∧ ¬ c = 62 ∧ ¬ c = 61 ∧ ¬ c < 49 ∧ ¬ 57 < c ∧ yact c = 0 ∧ q'.1 = 3 ∧ q'.2 = q.2) ∨
    (¬ c = 59 ∧ ¬ c = 62 ∧ ¬ c = 61 ∧ (c < 49 ∨ 57 < c) ∧ ¬ zspec c = 0 ∧ yact c = 1 ∧ q'.1 = 4 ∧ q'.2 = q.2) ∨
    ((c = 62 ∨ c = 61) ∧ yact c = 2 ∧ q.2 = 0 ∧ q'.2 = 1 ∧ ¬ q.1 = 3 ∧ q'.1 = 1) ∨
    (¬ c = 59 ∧ ¬ c = 62 ∧ ¬ c = 61 ∧ (c < 49 ∨ 57 < c) ∧ zspec c = 0 ∧ yact c = 4 ∧ ¬ q.1 = 3 ∧ ¬ q'.1 = 3 ∧ ¬ q'.1 = 0 ∧ q'.2 = q.2))
set_option maxRecDepth 100000 in
theorem yone2_all : ((List.range 94).all fun j => zstates.all fun q => yone2 q (nI (33 + j))) = true := by decide +kernel
theorem y_33 {c : Int32} (h1 : ¬ c < 32) (h2 : ¬ 126 < c) (h3 : ¬ c = 32) : ∃ j, j < 94 ∧ c = nI (33 + j) := by
  obtain ⟨j, hj, rfl⟩ := nI_of2 (x := c) (M := 126) (n := 126) (by decide +kernel) (fun h => h1 (Int32.lt_trans h (by decide +kernel))) (k2_le h2)
  have h4 : 32 ≤ j := by
    rcases Nat.lt_or_ge j 32 with h | h
    · exact absurd (show nI j < 32 from (nI_ltI (b := 32) (by omega) (by omega)).mpr h) h1
    · exact h
  have h5 : j ≠ 32 := fun e => h3 (by rw [e]; rfl)
  exact ⟨j - 33, by omega, by rw [show 33 + (j - 33) = j by omega]⟩
theorem yone2_at {q : Int32 × Int32} (hq : q ∈ zstates) {c : Int32} (h1 : ¬ c < 32) (h2 : ¬ 126 < c) (h3 : ¬ c = 32) : yone2 q c = true := by
  obtain ⟨j, hj, rfl⟩ := y_33 h1 h2 h3
  have a := List.all_eq_true.mp yone2_all j (List.mem_range.mpr hj)
  exact List.all_eq_true.mp a q hq
/-- the two states fit: the automaton's (s, r), the class's (digit dg, arrow ar), the reference's (ro, bo, tm) -/
def yfit (s r dg ar ro bo tm : Int32) : Prop := dg = tm ∧ (¬ s = 3 → dg = 1) ∧ ((r = 0 ∧ ar = 32 ∧ ro = 0) ∨ (r = 1 ∧ ro = 1 ∧ ((ar = 62 ∧ bo = 0) ∨ (ar = 61 ∧ bo = 1))))
theorem y_dec {ar bo : Int32} (h : (ar = 62 ∧ bo = 0) ∨ (ar = 61 ∧ bo = 1)) : decide (¬ ar = 62) = decide (¬ bo = 0) := by
  rcases h with ⟨rfl, rfl⟩ | ⟨rfl, rfl⟩ <;> decide
theorem y_eq : ∀ (cs : List Int32) (N : zN) (l rr : List Int32) (dg ar ro bo tm s r : Int32), zchs cs → (s, r) ∈ zstates → yfit s r dg ar ro bo tm → (¬ s = 0 ∨ ∃ c ∈ cs, ¬ c = 32) → zright (zls cs s r).1 (zls cs s r).2 (zrf cs s r) = 1 → yfl cs N (l, rr, dg, ar) = yml (cs ++ [59]) N l rr ro bo tm
  | [], N, l, rr, dg, ar, ro, bo, tm, s, r, _, hq, hf, hb, hR => by
    have hs : ¬ s = 0 := by
      rcases hb with h | ⟨c, h, _⟩
      · exact h
      · cases h
    have key : ∀ q ∈ zstates, ¬ q.1 = 0 → zright q.1 q.2 0 = 1 → ¬ q.2 = 0 := by decide +kernel
    have hr : ¬ r = 0 := key (s, r) hq hs hR
    obtain ⟨f1, f2, f3⟩ := hf
    rcases f3 with ⟨f3, _⟩ | ⟨f3, f4, f5⟩
    · exact absurd f3 hr
    · have har : ¬ ar = 32 := by
        rcases f5 with ⟨rfl, _⟩ | ⟨rfl, _⟩ <;> decide
      show (if ar = 32 then _ else _) = yml [59] N l rr ro bo tm
      rw [if_neg har]
      show zline N l rr (decide (¬ ar = 62)) = (match zline N l rr (decide (¬ bo = 0)) with
        | .inl e => .inl e
        | .inr N' => .inr N')
      rw [y_dec f5]
      cases zline N l rr (decide (¬ bo = 0)) <;> rfl
  | c :: cs, N, l, rr, dg, ar, ro, bo, tm, s, r, hc, hq, hf, hb, hR => by
    obtain ⟨c1, c2⟩ := hc c List.mem_cons_self
    have hcs : zchs cs := fun d hd => hc d (List.mem_cons_of_mem _ hd)
    simp only [zls, zrf] at hR
    by_cases h32 : c = 32
    · subst h32
      have hA : zAs s r 32 = some (s, r) := by unfold zAs; rw [if_pos rfl]
      rw [hA] at hR
      have hb' : ¬ s = 0 ∨ ∃ c ∈ cs, ¬ c = 32 := by
        rcases hb with h | ⟨c, h, h2⟩
        · exact Or.inl h
        · rcases List.mem_cons.mp h with rfl | h
          · exact absurd rfl h2
          · exact Or.inr ⟨c, h, h2⟩
      have IH := y_eq cs N l rr dg ar ro bo tm s r hcs hq hf hb' hR
      show yfl cs N (zTk 32 l rr dg ar) = yml (cs ++ [59]) N l rr ro bo tm
      have e : zTk 32 l rr dg ar = (l, rr, dg, ar) := by
        unfold zTk
        rw [if_neg (by decide), if_neg (by decide), if_pos (by decide +kernel)]
        unfold zTs1
        rw [if_pos (by decide +kernel)]
      rw [e]
      exact IH
    · have Z := yone2_at hq c1 c2 h32
      unfold yone2 at Z
      cases hA : zAs s r c with
      | none =>
        rw [hA] at hR
        have key : ∀ q ∈ zstates, ¬ zright q.1 q.2 1 = 1 := by decide +kernel
        exact absurd hR (key (s, r) hq)
      | some q' =>
        obtain ⟨s', r'⟩ := q'
        rw [hA] at Z hR
        simp only [Bool.and_eq_true, decide_eq_true_eq] at Z
        obtain ⟨z0, z1⟩ := Z
        obtain ⟨f1, f2, f3⟩ := hf
        rw [List.cons_append]
        rcases z1 with ⟨a1, a2, a3, a4, a5, a6⟩ | ⟨a1, a2, a3, a4, a5, a6, a7, a8⟩ | ⟨a1, a2, a3, a4, a5, a6, a7, a8⟩ | ⟨a1, a2, a3, a4, a5, a6⟩ | ⟨a1, a2, a3, a4, a5, a6, a7, a8, a9, a10⟩
        · simp only [yfl, yml, a6, if_pos a1]
          rcases f3 with ⟨f3, _⟩ | ⟨f3, f4, f5⟩
          · rw [f3] at a2; exact absurd a2 (by decide)
          · rw [y_dec f5]
            cases zline N l rr (decide (¬ bo = 0)) with
            | inl e => rfl
            | inr M =>
              show yfl cs M zq0 = yml (cs ++ [59]) M (List.replicate 7 0) (List.replicate 7 0) 0 bo tm
              have e1 : tm = 1 := by rw [← f1]; exact f2 a3
              exact y_eq cs M (List.replicate 7 0) (List.replicate 7 0) 1 32 0 bo tm s' r' hcs z0 ⟨e1.symm, fun _ => rfl, Or.inl ⟨a5, rfl, rfl⟩⟩ (Or.inl (by rw [a4]; decide)) hR
        · simp only [yfl, yml, a6, if_neg a1]
          have e : zTk c l rr dg ar = (l, rr, c - 48, ar) := by
            unfold zTk
            rw [if_neg a2, if_neg a3, if_neg a4, if_neg a5]
          rw [e]
          exact y_eq cs N l rr (c - 48) ar ro bo (c - 48) s' r' hcs z0 ⟨rfl, fun q => absurd a7 q, by rw [a8]; exact f3⟩ (Or.inl (by rw [a7]; decide)) hR
        · simp only [yfl, yml, a6, if_neg a1]
          have e : zTk c l rr dg ar = zTs1 c l rr dg ar := by
            unfold zTk
            rw [if_neg a2, if_neg a3]
            rcases a4 with a4 | a4
            · rw [if_pos a4]
            · by_cases h : c < 49
              · rw [if_pos h]
              · rw [if_neg h, if_pos a4]
          rw [e]
          unfold zTs1
          rw [if_neg a5]
          rcases f3 with ⟨f3, f4, f5⟩ | ⟨f3, f4, f5⟩
          · rw [if_pos f4, if_pos f5]
            rw [f1]
            exact y_eq cs N _ rr 1 ar ro bo 1 s' r' hcs z0 ⟨rfl, fun _ => rfl, Or.inl ⟨by rw [a8]; exact f3, f4, f5⟩⟩ (Or.inl (by rw [a7]; decide)) hR
          · have har : ¬ ar = 32 := by
              rcases f5 with ⟨rfl, _⟩ | ⟨rfl, _⟩ <;> decide
            rw [if_neg har, if_neg (by rw [f4]; decide)]
            rw [f1]
            exact y_eq cs N l _ 1 ar ro bo 1 s' r' hcs z0 ⟨rfl, fun _ => rfl, Or.inr ⟨by rw [a8]; exact f3, f4, f5⟩⟩ (Or.inl (by rw [a7]; decide)) hR
        · simp only [yfl, yml, a2]
          have n59 : ¬ c = 59 := by
            rcases a1 with rfl | rfl <;> decide
          rw [if_neg n59]
          have e : zTk c l rr dg ar = (l, rr, dg, c) := by
            unfold zTk
            rcases a1 with rfl | rfl
            · rw [if_pos rfl]
            · rw [if_neg (by decide), if_pos rfl]
          rw [e]
          refine y_eq cs N l rr dg c 1 (if c = 61 then 1 else 0) tm s' r' hcs z0 ⟨f1, fun _ => f2 a5, Or.inr ⟨a4, rfl, ?_⟩⟩ (Or.inl (by rw [a6]; decide)) hR
          rcases a1 with rfl | rfl
          · exact Or.inl ⟨rfl, rfl⟩
          · exact Or.inr ⟨rfl, rfl⟩
        · simp only [yfl, yml, a6, if_neg a1]
          have e : zTk c l rr dg ar = (l, rr, dg, ar) := by
            have e2 : zTs1 c l rr dg ar = (l, rr, dg, ar) := by
              unfold zTs1
              rw [if_pos a5]
            unfold zTk
            rw [if_neg a2, if_neg a3]
            rcases a4 with a4 | a4
            · rw [if_pos a4, e2]
            · by_cases h : c < 49
              · rw [if_pos h, e2]
              · rw [if_neg h, if_pos a4, e2]
          rw [e]
          exact y_eq cs N l rr dg ar ro bo tm s' r' hcs z0 ⟨f1, fun _ => f2 a7, by rw [a10]; exact f3⟩ (Or.inl a9) hR
/-- a text of spaces has no lines -/
theorem y_blank : ∀ (cs : List Int32) (N : zN), (∀ c ∈ cs, c = 32) → yfl cs N zq0 = .inr N
  | [], N, _ => rfl
  | c :: cs, N, h => by
    have e : c = 32 := h c List.mem_cons_self
    subst e
    show yfl cs N (zTk 32 (List.replicate 7 0) (List.replicate 7 0) 1 32) = _
    have e : zTk 32 (List.replicate 7 0) (List.replicate 7 0) 1 32 = zq0 := by
      unfold zTk
      rw [if_neg (by decide), if_neg (by decide), if_pos (by decide +kernel)]
      unfold zTs1
      rw [if_pos (by decide +kernel)]
      rfl
    rw [e]
    exact y_blank cs N (fun d hd => h d (List.mem_cons_of_mem _ hd))
/-- the value of a right text -/
theorem y_text {cs : List Int32} (hc : zchs cs) (hR : zright (zls cs 0 0).1 (zls cs 0 0).2 (zrf cs 0 0) = 1) (hb : ∃ c ∈ cs, ¬ c = 32) (N : zN) : yfl cs N zq0 = yml (cs ++ [59]) N (List.replicate 7 0) (List.replicate 7 0) 0 0 1 :=
  y_eq cs N (List.replicate 7 0) (List.replicate 7 0) 1 32 0 0 1 0 0 hc (by decide) ⟨rfl, fun _ => rfl, Or.inl ⟨rfl, rfl, rfl⟩⟩ (Or.inr hb) hR
end ZAG

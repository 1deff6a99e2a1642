/-! Branches of a run. -/
theorem zR_eq {scr : Option (List Int32)} {y : Nat} {t f : Nat} {L : List (Option Value)} {st : List Value} {σ : List zC} {nc ns : Nat} {o : zO} {x w : Int32} (h1 : x = w → zR scr y (t, L, st, σ, nc, ns) o) (h2 : ¬ (x = w) → zR scr y (f, L, st, σ, nc, ns) o) : zR scr y (zbr .eq x w t f, L, st, σ, nc, ns) o := by
  by_cases h : x = w
  · rw [show zbr .eq x w t f = t from if_pos h]
    exact h1 h
  · rw [show zbr .eq x w t f = f from if_neg h]
    exact h2 h
theorem zR_ne {scr : Option (List Int32)} {y : Nat} {t f : Nat} {L : List (Option Value)} {st : List Value} {σ : List zC} {nc ns : Nat} {o : zO} {x w : Int32} (h1 : x = w → zR scr y (f, L, st, σ, nc, ns) o) (h2 : ¬ (x = w) → zR scr y (t, L, st, σ, nc, ns) o) : zR scr y (zbr .ne x w t f, L, st, σ, nc, ns) o := by
  by_cases h : x = w
  · rw [show zbr .ne x w t f = f from if_pos h]
    exact h1 h
  · rw [show zbr .ne x w t f = t from if_neg h]
    exact h2 h
theorem zR_lt {scr : Option (List Int32)} {y : Nat} {t f : Nat} {L : List (Option Value)} {st : List Value} {σ : List zC} {nc ns : Nat} {o : zO} {x w : Int32} (h1 : x < w → zR scr y (t, L, st, σ, nc, ns) o) (h2 : ¬ (x < w) → zR scr y (f, L, st, σ, nc, ns) o) : zR scr y (zbr .lt x w t f, L, st, σ, nc, ns) o := by
  by_cases h : x < w
  · rw [show zbr .lt x w t f = t from if_pos h]
    exact h1 h
  · rw [show zbr .lt x w t f = f from if_neg h]
    exact h2 h
theorem zR_ge {scr : Option (List Int32)} {y : Nat} {t f : Nat} {L : List (Option Value)} {st : List Value} {σ : List zC} {nc ns : Nat} {o : zO} {x w : Int32} (h1 : w ≤ x → zR scr y (t, L, st, σ, nc, ns) o) (h2 : ¬ (w ≤ x) → zR scr y (f, L, st, σ, nc, ns) o) : zR scr y (zbr .ge x w t f, L, st, σ, nc, ns) o := by
  by_cases h : w ≤ x
  · rw [show zbr .ge x w t f = t from if_pos h]
    exact h1 h
  · rw [show zbr .ge x w t f = f from if_neg h]
    exact h2 h
theorem zR_gt {scr : Option (List Int32)} {y : Nat} {t f : Nat} {L : List (Option Value)} {st : List Value} {σ : List zC} {nc ns : Nat} {o : zO} {x w : Int32} (h1 : w < x → zR scr y (t, L, st, σ, nc, ns) o) (h2 : ¬ (w < x) → zR scr y (f, L, st, σ, nc, ns) o) : zR scr y (zbr .gt x w t f, L, st, σ, nc, ns) o := by
  by_cases h : w < x
  · rw [show zbr .gt x w t f = t from if_pos h]
    exact h1 h
  · rw [show zbr .gt x w t f = f from if_neg h]
    exact h2 h
theorem zR_le {scr : Option (List Int32)} {y : Nat} {t f : Nat} {L : List (Option Value)} {st : List Value} {σ : List zC} {nc ns : Nat} {o : zO} {x w : Int32} (h1 : x ≤ w → zR scr y (t, L, st, σ, nc, ns) o) (h2 : ¬ (x ≤ w) → zR scr y (f, L, st, σ, nc, ns) o) : zR scr y (zbr .le x w t f, L, st, σ, nc, ns) o := by
  by_cases h : x ≤ w
  · rw [show zbr .le x w t f = t from if_pos h]
    exact h1 h
  · rw [show zbr .le x w t f = f from if_neg h]
    exact h2 h

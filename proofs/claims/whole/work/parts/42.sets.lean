/-! Lists of sets; at most 35 none of which is a part of another. -/
section YST
def ychn : List Nat := [0, 0, 1, 0, 2, 2, 1, 0, 3, 3, 4, 3, 5, 2, 1, 0, 6, 6, 7, 6, 8, 8, 7, 6, 9, 9, 4, 3, 5, 2, 1, 0, 10, 10, 11, 10, 12, 12, 11, 10, 13, 13, 14, 13, 15, 12, 11, 10, 16, 16, 17, 16, 18, 8, 7, 6, 19, 9, 4, 3, 5, 2, 1, 0, 20, 20, 21, 20, 22, 22, 21, 20, 23, 23, 24, 23, 25, 22, 21, 20, 26, 26, 27, 26, 28, 28, 27, 26, 29, 29, 24, 23, 25, 22, 21, 20, 30, 30, 31, 30, 32, 32, 31, 30, 33, 33, 14, 13, 15, 12, 11, 10, 34, 34, 17, 16, 18, 8, 7, 6, 19, 9, 4, 3, 5, 2, 1, 0]
theorem ychn0 : ∀ a, a < 128 → ychn.getD a 0 < 35 := by decide +kernel
theorem ychn1 : ∀ a, a < 128 → ∀ b, b < 128 → ychn.getD a 0 = ychn.getD b 0 → a &&& b = a ∨ a &&& b = b := by decide +kernel
theorem y_nodup_le : ∀ (n : Nat) (l : List Nat), l.Nodup → (∀ x ∈ l, x < n) → l.length ≤ n
  | 0, l, _, h => by
    cases l with
    | nil => exact Nat.le_refl 0
    | cons x t => exact absurd (h x List.mem_cons_self) (Nat.not_lt_zero x)
  | n + 1, l, hd, h => by
    by_cases hn : n ∈ l
    · have h1 := y_nodup_le n (l.erase n) (hd.erase n) (fun x hx => by
        have h2 := (List.Nodup.mem_erase_iff hd).mp hx
        have h3 := h x h2.2
        have h4 := h2.1
        omega)
      have h5 := List.length_erase_of_mem hn
      omega
    · have h1 := y_nodup_le n l hd (fun x hx => by
        have h3 := h x hx
        have h4 : x ≠ n := fun e => hn (by rw [← e]; exact hx)
        omega)
      omega
noncomputable def ysl (P : Nat → Prop) : Nat → List Nat
  | 0 => []
  | m + 1 => @ite _ (P m) (Classical.propDecidable _) (ysl P m ++ [m]) (ysl P m)
theorem ysl_y {P : Nat → Prop} {m : Nat} (h : P m) : ysl P (m + 1) = ysl P m ++ [m] := if_pos h
theorem ysl_n {P : Nat → Prop} {m : Nat} (h : ¬ P m) : ysl P (m + 1) = ysl P m := if_neg h
theorem ysl_mem {P : Nat → Prop} {x : Nat} : ∀ m, x ∈ ysl P m ↔ x < m ∧ P x
  | 0 => ⟨fun h => by simp [ysl] at h, fun h => by omega⟩
  | m + 1 => by
    have ih := ysl_mem (P := P) (x := x) m
    by_cases h : P m
    · rw [ysl_y h, List.mem_append, List.mem_singleton, ih]
      constructor
      · rintro (⟨q1, q2⟩ | rfl)
        · exact ⟨by omega, q2⟩
        · exact ⟨by omega, h⟩
      · rintro ⟨q1, q2⟩
        by_cases e : x = m
        · exact Or.inr e
        · exact Or.inl ⟨by omega, q2⟩
    · rw [ysl_n h, ih]
      constructor
      · rintro ⟨q1, q2⟩
        exact ⟨by omega, q2⟩
      · rintro ⟨q1, q2⟩
        by_cases e : x = m
        · rw [e] at q2; exact absurd q2 h
        · exact ⟨by omega, q2⟩
theorem ysl_ext {P R : Nat → Prop} : ∀ m, (∀ x, x < m → (P x ↔ R x)) → ysl P m = ysl R m
  | 0, _ => rfl
  | m + 1, h => by
    have ih := ysl_ext m (fun x hx => h x (by omega))
    by_cases k : P m
    · rw [ysl_y k, ysl_y ((h m (by omega)).mp k), ih]
    · rw [ysl_n k, ysl_n (fun q => k ((h m (by omega)).mpr q)), ih]
theorem ysl_35 {P : Nat → Prop} (h : ∀ x y, P x → P y → x < y → ¬ ySb x y) {m : Nat} (hm : m ≤ 128) : (ysl P m).length ≤ 35 := by
  have key : ∀ m, m ≤ 128 → ((ysl P m).map (fun a => ychn.getD a 0)).Nodup := by
    intro m
    induction m with
    | zero => intro _; simp [ysl]
    | succ m ih =>
      intro hm
      by_cases k : P m
      · rw [ysl_y k, List.map_append, List.nodup_append]
        refine ⟨ih (by omega), by simp, fun a ha b hb e => ?_⟩
        obtain ⟨x, hx, rfl⟩ := List.mem_map.mp ha
        have hb : b = ychn.getD m 0 := List.mem_singleton.mp hb
        obtain ⟨h1, h2⟩ := (ysl_mem m).mp hx
        rw [hb] at e
        rcases ychn1 x (by omega) m (by omega) e with q | q
        · exact h x m h2 k h1 q
        · have q2 : x &&& m ≤ x := Nat.and_le_left
          omega
      · rw [ysl_n k]
        exact ih (by omega)
  have := y_nodup_le 35 _ (key m hm) (fun x hx => by
    obtain ⟨a, ha, rfl⟩ := List.mem_map.mp hx
    exact ychn0 a (by have := ((ysl_mem m).mp ha).1; omega))
  rw [List.length_map] at this
  exact this
/-- a list of sets in a row of 35 places -/
def ySL (l : List Int32) (sl : List Nat) : Prop := l.length = 35 ∧ sl.length ≤ 35 ∧ ∀ k, k < sl.length → l[k]? = some (nI (sl.getD k 0))
theorem ySL_add {l : List Int32} {sl : List Nat} {x : Nat} (h : ySL l sl) (hx : sl.length < 35) : ySL (l.set sl.length (nI x)) (sl ++ [x]) := by
  refine ⟨by rw [List.length_set]; exact h.1, by rw [List.length_append, List.length_singleton]; omega, fun k hk => ?_⟩
  rw [List.length_append, List.length_singleton] at hk
  by_cases e : sl.length = k
  · subst e
    rw [List.getElem?_set_self (by rw [h.1]; omega), List.getD_eq_getElem?_getD, List.getElem?_append_right (Nat.le_refl _), Nat.sub_self]
    rfl
  · rw [List.getElem?_set_ne e, h.2.2 k (by omega), List.getD_eq_getElem?_getD, List.getD_eq_getElem?_getD, List.getElem?_append_left (by omega)]
/-- the minimal siphons -/
def yPs (N : zN) (set : Nat) : Prop := 1 ≤ set ∧ ySb set (yall N) ∧ ySi N set ∧ ∀ p, 1 ≤ p → p < set → ySb p set → ¬ ySi N p
theorem yPs_anti {N : zN} (x y : Nat) (hx : yPs N x) (hy : yPs N y) (h : x < y) : ¬ ySb x y := fun q => hy.2.2.2 x hx.1 h q hx.2.2.1
theorem yPs_iff {N : zN} {set : Nat} (h1 : 1 ≤ set) (h2 : ySb set (yall N)) : yPs N set ↔ ySi N set ∧ ¬ ∃ x ∈ ysl (yPs N) set, ySb x set := by
  constructor
  · rintro ⟨-, -, h3, h4⟩
    refine ⟨h3, ?_⟩
    rintro ⟨x, hx, hs⟩
    obtain ⟨q1, q2⟩ := (ysl_mem set).mp hx
    exact h4 x q2.1 q1 hs q2.2.2.1
  · rintro ⟨h3, h4⟩
    refine ⟨h1, h2, h3, fun p p1 p2 p3 p4 => h4 ?_⟩
    obtain ⟨m, ⟨m1, m2, m3⟩, m4⟩ := y_exmin (p := fun p => 1 ≤ p ∧ ySb p set ∧ ySi N p) p ⟨p1, p3, p4⟩
    have hm := m4 p ⟨p1, p3, p4⟩
    refine ⟨m, (ysl_mem set).mpr ⟨by omega, m1, ySb_tr m2 h2, m3, fun q q1 q2 q3 q4 => ?_⟩, m2⟩
    have := m4 q ⟨q1, ySb_tr q3 m2, q4⟩
    omega
end YST

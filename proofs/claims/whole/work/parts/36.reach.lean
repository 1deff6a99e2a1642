/-! Ways in a relation, Warshall's rounds, labels, least members, counts. -/
section YRE
def yRe (E : Nat → Nat → Prop) (a b : Nat) : Prop := ∀ S : Nat → Prop, S a → (∀ x y, S x → E x y → S y) → S b
variable {E : Nat → Nat → Prop} {a b c n : Nat}
theorem yRe_rf : yRe E a a := fun _ h _ => h
theorem yRe_st (h : yRe E a b) (e : E b c) : yRe E a c := fun S h1 h2 => h2 b c (h S h1 h2) e
theorem yRe_tr (h : yRe E a b) (k : yRe E b c) : yRe E a c := fun S h1 h2 => k S (h S h1 h2) h2
theorem yRe_in (hE : ∀ x y, E x y → x < n ∧ y < n) (h : yRe E a b) (ha : a < n) : b < n := h (fun x => x < n) ha (fun _ y _ e => (hE _ y e).2)
theorem yRe_sy (hE : ∀ x y, E x y → E y x) (h : yRe E a b) : yRe E b a := h (fun x => yRe E x a) yRe_rf (fun _ _ k e => yRe_tr (yRe_st yRe_rf (hE _ _ e)) k)
/-- ways whose inner places are below c -/
def yRt (E : Nat → Nat → Prop) (c a b : Nat) : Prop := ∀ g : Nat → Nat → Prop, (∀ x, g x x) → (∀ x y, E x y → g x y) → (∀ x m y, m < c → g x m → g m y → g x y) → g a b
theorem yRt_rf : yRt E c a a := fun _ h _ _ => h a
theorem yRt_e (h : E a b) : yRt E c a b := fun _ _ k _ => k a b h
theorem yRt_tr {m : Nat} (hm : m < c) (h : yRt E c a m) (k : yRt E c m b) : yRt E c a b := fun g h1 h2 h3 => h3 a m b hm (h g h1 h2 h3) (k g h1 h2 h3)
theorem yRt_0 (h : yRt E 0 a b) : a = b ∨ E a b := h (fun x y => x = y ∨ E x y) (fun _ => Or.inl rfl) (fun _ _ e => Or.inr e) (fun _ _ _ hm _ _ => absurd hm (Nat.not_lt_zero _))
theorem yRt_s (h : yRt E (c + 1) a b) : yRt E c a b ∨ (yRt E c a c ∧ yRt E c c b) := by
  refine h (fun x y => yRt E c x y ∨ (yRt E c x c ∧ yRt E c c y)) (fun _ => Or.inl yRt_rf) (fun _ _ e => Or.inl (yRt_e e)) (fun x m y hm h1 h2 => ?_)
  rcases Nat.lt_or_ge m c with h9 | h9
  · rcases h1 with h1 | ⟨h1, h1'⟩
    · rcases h2 with h2 | ⟨h2, h2'⟩
      · exact Or.inl (yRt_tr h9 h1 h2)
      · exact Or.inr ⟨yRt_tr h9 h1 h2, h2'⟩
    · rcases h2 with h2 | ⟨h2, h2'⟩
      · exact Or.inr ⟨h1, yRt_tr h9 h1' h2⟩
      · exact Or.inr ⟨h1, h2'⟩
  · have e : m = c := by omega
    subst e
    refine Or.inr ⟨?_, ?_⟩
    · rcases h1 with h1 | ⟨h1, _⟩ <;> exact h1
    · rcases h2 with h2 | ⟨_, h2⟩ <;> exact h2
theorem yRt_re (hE : ∀ x y, E x y → x < n ∧ y < n) (ha : a < n) (h : yRe E a b) : yRt E n a b := (h (fun y => y < n ∧ yRt E n a y) ⟨ha, yRt_rf⟩ (fun x y k e => ⟨(hE x y e).2, yRt_tr k.1 k.2 (yRt_e e)⟩)).2
/-- how far Warshall's rounds have come -/
def yWa (E : Nat → Nat → Prop) (n c : Nat) (g : Nat → Nat → Prop) : Prop := (∀ a b, a < n → b < n → g a b → yRe E a b) ∧ ∀ a b, a < n → b < n → yRt E c a b → g a b
theorem yWa_0 {g : Nat → Nat → Prop} (h : ∀ a b, a < n → b < n → (g a b ↔ a = b ∨ E a b)) : yWa E n 0 g := ⟨fun a b ha hb q => by
  rcases (h a b ha hb).mp q with rfl | e
  · exact yRe_rf
  · exact yRe_st yRe_rf e, fun a b ha hb q => (h a b ha hb).mpr (yRt_0 q)⟩
theorem yWa_s {g g' : Nat → Nat → Prop} (h : yWa E n c g) (hc : c < n) (h1 : ∀ a b, a < n → b < n → g a b → g' a b) (h2 : ∀ a b, a < n → b < n → g a c → g c b → g' a b) (h3 : ∀ a b, a < n → b < n → g' a b → yRe E a b) : yWa E n (c + 1) g' := ⟨h3, fun a b ha hb q => by
  rcases yRt_s q with q | ⟨q1, q2⟩
  · exact h1 a b ha hb (h.2 a b ha hb q)
  · exact h2 a b ha hb (h.2 a c ha hc q1) (h.2 c b hc hb q2)⟩
theorem yWa_n {g : Nat → Nat → Prop} (hE : ∀ x y, E x y → x < n ∧ y < n) (h : yWa E n n g) (ha : a < n) (hb : b < n) : g a b ↔ yRe E a b := ⟨h.1 a b ha hb, fun q => h.2 a b ha hb (yRt_re hE ha q)⟩
/-! Counting. -/
noncomputable def ycn (p : Nat → Prop) : Nat → Nat
  | 0 => 0
  | n + 1 => ycn p n + @ite Nat (p n) (Classical.propDecidable _) 1 0
theorem ycn_y {p : Nat → Prop} {n : Nat} (h : p n) : ycn p (n + 1) = ycn p n + 1 := by
  show ycn p n + @ite Nat (p n) (Classical.propDecidable _) 1 0 = _
  rw [if_pos h]
theorem ycn_n {p : Nat → Prop} {n : Nat} (h : ¬ p n) : ycn p (n + 1) = ycn p n := by
  show ycn p n + @ite Nat (p n) (Classical.propDecidable _) 1 0 = _
  rw [if_neg h]; rfl
theorem ycn_le (p : Nat → Prop) : ∀ n, ycn p n ≤ n
  | 0 => Nat.le_refl 0
  | n + 1 => by
    have := ycn_le p n
    by_cases h : p n
    · rw [ycn_y h]; omega
    · rw [ycn_n h]; omega
theorem ycn_up {p : Nat → Prop} {m : Nat} : ∀ {n : Nat}, m ≤ n → ycn p m ≤ ycn p n
  | 0, h => by rw [Nat.le_zero.mp h]; exact Nat.le_refl _
  | n + 1, h => by
    rcases Nat.lt_or_ge m (n + 1) with h9 | h9
    · have := ycn_up (p := p) (m := m) (n := n) (by omega)
      by_cases h : p n
      · rw [ycn_y h]; omega
      · rw [ycn_n h]; omega
    · rw [show m = n + 1 by omega]; exact Nat.le_refl _
theorem ycn_mono {p q : Nat → Prop} : ∀ n, (∀ x, x < n → p x → q x) → ycn p n ≤ ycn q n
  | 0, _ => Nat.le_refl 0
  | n + 1, h => by
    have := ycn_mono n (fun x hx => h x (by omega))
    by_cases h1 : p n
    · rw [ycn_y h1, ycn_y (h n (by omega) h1)]; omega
    · rw [ycn_n h1]
      exact Nat.le_trans this (ycn_up (Nat.le_succ n))
theorem ycn_eq {p q : Nat → Prop} {n : Nat} (h : ∀ x, x < n → (p x ↔ q x)) : ycn p n = ycn q n := Nat.le_antisymm (ycn_mono n (fun x hx => (h x hx).mp)) (ycn_mono n (fun x hx => (h x hx).mpr))
theorem ycn_lt {p q : Nat → Prop} : ∀ n, (∀ x, x < n → p x → q x) → (∃ x, x < n ∧ q x ∧ ¬ p x) → ycn p n < ycn q n
  | 0, _, h => by obtain ⟨x, h, _⟩ := h; omega
  | n + 1, h, ⟨x, hx, h1, h2⟩ => by
    by_cases e : x = n
    · subst e
      rw [ycn_n h2, ycn_y h1]
      have := ycn_mono (p := p) (q := q) x (fun x hx => h x (by omega))
      omega
    · have := ycn_lt (p := p) (q := q) n (fun x hx => h x (by omega)) ⟨x, by omega, h1, h2⟩
      by_cases h3 : p n
      · rw [ycn_y h3, ycn_y (h n (by omega) h3)]; omega
      · rw [ycn_n h3]
        exact Nat.lt_of_lt_of_le this (ycn_up (Nat.le_succ n))
/-! Walks. -/
def yWk (E : Nat → Nat → Prop) : Nat → Nat → Nat → Prop
  | 0, a, b => a = b
  | t + 1, a, b => yWk E t a b ∨ ∃ m, E a m ∧ yWk E t m b
theorem yWk_up {t s : Nat} (h : yWk E t a b) (hs : t ≤ s) : yWk E s a b := by
  induction s with
  | zero => rw [Nat.le_zero.mp hs] at h; exact h
  | succ s ih =>
    rcases Nat.lt_or_ge t (s + 1) with h9 | h9
    · exact Or.inl (ih (by omega))
    · rw [show s + 1 = t by omega]; exact h
theorem yWk_all (hE : ∀ x y, E x y → x < n ∧ y < n) (hb : b < n) (ha : a < n) (h : yRe E a b) : yWk E n a b := by
  have key : ∀ t, (∃ s, s < t ∧ ∀ x, x < n → yWk E (s + 1) x b → yWk E s x b) ∨ t + 1 ≤ ycn (fun x => yWk E t x b) n := by
    intro t
    induction t with
    | zero =>
      refine Or.inr ?_
      have := ycn_lt (p := fun _ => False) (q := fun x => yWk E 0 x b) n (fun _ _ h => h.elim) ⟨b, hb, rfl, fun h => h⟩
      omega
    | succ t ih =>
      rcases ih with ⟨s, hs, h⟩ | ih
      · exact Or.inl ⟨s, by omega, h⟩
      · by_cases h : ∀ x, x < n → yWk E (t + 1) x b → yWk E t x b
        · exact Or.inl ⟨t, by omega, h⟩
        · refine Or.inr ?_
          have : ∃ x, x < n ∧ yWk E (t + 1) x b ∧ ¬ yWk E t x b := Classical.byContradiction (fun q => h (fun x hx hw => Classical.byContradiction (fun q2 => q ⟨x, hx, hw, q2⟩)))
          have := ycn_lt (p := fun x => yWk E t x b) (q := fun x => yWk E (t + 1) x b) n (fun x _ h => Or.inl h) this
          omega
  rcases key n with ⟨s, hs, h1⟩ | h1
  · refine yWk_up (t := s) ?_ (by omega)
    apply Classical.byContradiction
    intro q
    have := h (fun x => x < n ∧ ¬ yWk E s x b) ⟨ha, q⟩ (fun x y k e => ⟨(hE x y e).2, fun z => k.2 (h1 x k.1 (Or.inr ⟨y, e, z⟩))⟩)
    exact this.2 (yWk_up (t := 0) rfl (Nat.zero_le s))
  · have := ycn_le (fun x => yWk E n x b) n
    omega
/-! Least members. -/
theorem y_exmin {p : Nat → Prop} : ∀ (k : Nat), p k → ∃ m, p m ∧ ∀ b, p b → m ≤ b := by
  intro k
  induction k using Nat.strongRecOn with
  | ind k ih =>
    intro hk
    by_cases h : ∃ j, j < k ∧ p j
    · obtain ⟨j, h1, h2⟩ := h
      exact ih j h1 h2
    · exact ⟨k, hk, fun b hb => by
        rcases Nat.lt_or_ge b k with h9 | h9
        · exact absurd ⟨b, h9, hb⟩ h
        · exact h9⟩
/-- the reactions of a network as a relation, with and without direction -/
def yAr (rs : List (Nat × Nat)) (a b : Nat) : Prop := (a, b) ∈ rs
def yAs (rs : List (Nat × Nat)) (a b : Nat) : Prop := (a, b) ∈ rs ∨ (b, a) ∈ rs
noncomputable def yL (rs : List (Nat × Nat)) (a : Nat) : Nat := Classical.choose (y_exmin (p := yRe (yAs rs) a) a yRe_rf)
variable {rs : List (Nat × Nat)}
theorem yL_re : yRe (yAs rs) a (yL rs a) := (Classical.choose_spec (y_exmin (p := yRe (yAs rs) a) a yRe_rf)).1
theorem yL_le (h : yRe (yAs rs) a b) : yL rs a ≤ b := (Classical.choose_spec (y_exmin (p := yRe (yAs rs) a) a yRe_rf)).2 b h
theorem yL_self : yL rs a ≤ a := yL_le yRe_rf
theorem yL_of {m : Nat} (h1 : yRe (yAs rs) a m) (h2 : ∀ b, yRe (yAs rs) a b → m ≤ b) : m = yL rs a := Nat.le_antisymm (h2 _ yL_re) (yL_le h1)
theorem yAs_sy (x y : Nat) (h : yAs rs x y) : yAs rs y x := h.symm
theorem yL_eq (h : yRe (yAs rs) a b) : yL rs a = yL rs b := Nat.le_antisymm (yL_le (yRe_tr h yL_re)) (yL_le (yRe_tr (yRe_sy yAs_sy h) yL_re))
theorem yL_ll : yL rs (yL rs a) = yL rs a := (yL_eq yL_re).symm
theorem yAs_in (h : ∀ p ∈ rs, p.1 < n ∧ p.2 < n) (x y : Nat) (e : yAs rs x y) : x < n ∧ y < n := by
  rcases e with e | e
  · exact h _ e
  · exact (h _ e).symm
theorem yAr_in (h : ∀ p ∈ rs, p.1 < n ∧ p.2 < n) (x y : Nat) (e : yAr rs x y) : x < n ∧ y < n := h _ e
end YRE

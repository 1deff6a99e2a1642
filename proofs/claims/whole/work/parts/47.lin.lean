/-! Rows of whole numbers: sums, kernels, echelon shape, rank. -/
section YLN
def ysm (f : Nat → Int) : Nat → Int
  | 0 => 0
  | n + 1 => ysm f n + f n
theorem ysm_ext {f g : Nat → Int} : ∀ {n : Nat}, (∀ i, i < n → f i = g i) → ysm f n = ysm g n
  | 0, _ => rfl
  | n + 1, h => by
    show ysm f n + f n = ysm g n + g n
    rw [ysm_ext (fun i hi => h i (by omega)), h n (by omega)]
theorem ysm_lin (a b : Int) (f g : Nat → Int) : ∀ n, a * ysm f n + b * ysm g n = ysm (fun i => a * f i + b * g i) n
  | 0 => by simp [ysm]
  | n + 1 => by
    have ih := ysm_lin a b f g n
    show a * (ysm f n + f n) + b * (ysm g n + g n) = ysm (fun i => a * f i + b * g i) n + (a * f n + b * g n)
    rw [← ih]
    grind
theorem ysm_mul (a : Int) (f : Nat → Int) (n : Nat) : a * ysm f n = ysm (fun i => a * f i) n := by
  have h := ysm_lin a 0 f f n
  rw [Int.zero_mul, Int.add_zero] at h
  rw [h]
  exact ysm_ext (fun i _ => by grind)
theorem ysm_zero {f : Nat → Int} {n : Nat} (h : ∀ i, i < n → f i = 0) : ysm f n = 0 := by
  rw [ysm_ext (g := fun _ => 0) h]
  clear h
  induction n with
  | zero => rfl
  | succ n ih => show ysm _ n + 0 = 0; rw [ih]; rfl
theorem ysm_one {f : Nat → Int} {a : Nat} : ∀ {n : Nat}, a < n → (∀ i, i < n → i ≠ a → f i = 0) → ysm f n = f a
  | 0, h, _ => by omega
  | n + 1, h, k => by
    show ysm f n + f n = f a
    by_cases e : a = n
    · subst e
      rw [ysm_zero (fun i hi => k i (by omega) (by omega))]
      omega
    · rw [ysm_one (a := a) (n := n) (by omega) (fun i hi => k i (by omega)), k n (by omega) (fun q => e q.symm)]
      omega
theorem ysm_two {f : Nat → Int} {a b : Nat} (hab : a ≠ b) : ∀ {n : Nat}, a < n → b < n → (∀ i, i < n → i ≠ a → i ≠ b → f i = 0) → ysm f n = f a + f b
  | 0, h, _, _ => by omega
  | n + 1, h, h2, k => by
    show ysm f n + f n = f a + f b
    by_cases e : a = n
    · subst e
      rw [ysm_one (a := b) (n := a) (by omega) (fun i hi q => k i (by omega) (by omega) q)]
      omega
    · by_cases e2 : b = n
      · subst e2
        rw [ysm_one (a := a) (n := b) (by omega) (fun i hi q => k i (by omega) q (by omega))]
      · rw [ysm_two hab (n := n) (by omega) (by omega) (fun i hi => k i (by omega)), k n (by omega) (fun q => e q.symm) (fun q => e2 q.symm)]
        omega
theorem ysm_swap (F : Nat → Nat → Int) (n : Nat) : ∀ m, ysm (fun i => ysm (F i) m) n = ysm (fun j => ysm (fun i => F i j) n) m
  | 0 => ysm_zero (fun _ _ => rfl)
  | m + 1 => by
    have ih := ysm_swap F n m
    show ysm (fun i => ysm (F i) m + F i m) n = ysm (fun j => ysm (fun i => F i j) n) m + ysm (fun i => F i m) n
    rw [← ih]
    have := ysm_lin 1 1 (fun i => ysm (F i) m) (fun i => F i m) n
    rw [Int.one_mul, Int.one_mul] at this
    rw [this]
    exact ysm_ext (fun i _ => by grind)
def ydt (v w : Nat → Int) : Int := ysm (fun c => v c * w c) 7
theorem ydt_lin {v x y w : Nat → Int} {g a b : Int} (h : ∀ c, c < 7 → g * v c = a * x c + b * y c) : g * ydt v w = a * ydt x w + b * ydt y w := by
  unfold ydt
  rw [ysm_lin, ysm_mul]
  refine ysm_ext (fun c hc => ?_)
  have := h c hc
  grind
theorem ydt_ext {v x w : Nat → Int} (h : ∀ c, c < 7 → v c = x c) : ydt v w = ydt x w := ysm_ext (fun c hc => by rw [h c hc])
def yKm (m : Nat → Nat → Int) (n : Nat) (w : Nat → Int) : Prop := ∀ i, i < n → ydt (m i) w = 0
/-- a column that no pivot has -/
def yFr (K : (Nat → Int) → Prop) (c : Nat) : Prop := ∃ w, K w ∧ w c ≠ 0 ∧ ∀ j, c < j → j < 7 → w j = 0
noncomputable def yrk (K : (Nat → Int) → Prop) : Nat := ycn (fun c => ¬ yFr K c) 7
theorem yrk_eq {K K' : (Nat → Int) → Prop} (h : ∀ w, K w ↔ K' w) : yrk K = yrk K' := by
  have : K = K' := funext (fun w => propext (h w))
  rw [this]
/-- the shape of the rows behind d pivots, all columns before k done -/
def yEc (n d k : Nat) (m : Nat → Nat → Int) (p : Nat → Nat) : Prop := d ≤ n ∧ (∀ i, i < d → p i < k) ∧ (∀ i j, i < j → j < d → p i < p j) ∧ (∀ i, i < d → m i (p i) ≠ 0) ∧ (∀ i c, i < d → c < p i → m i c = 0) ∧ (∀ i j, i < d → j < n → j ≠ i → m j (p i) = 0) ∧ ∀ j c, d ≤ j → j < n → c < k → m j c = 0
theorem yEc.dn {n d k : Nat} {m : Nat → Nat → Int} {p : Nat → Nat} (h : yEc n d k m p) : d ≤ n := h.1
theorem yEc.pk {n d k : Nat} {m : Nat → Nat → Int} {p : Nat → Nat} (h : yEc n d k m p) : ∀ i, i < d → p i < k := h.2.1
theorem yEc.up {n d k : Nat} {m : Nat → Nat → Int} {p : Nat → Nat} (h : yEc n d k m p) : ∀ i j, i < j → j < d → p i < p j := h.2.2.1
theorem yEc.nz {n d k : Nat} {m : Nat → Nat → Int} {p : Nat → Nat} (h : yEc n d k m p) : ∀ i, i < d → m i (p i) ≠ 0 := h.2.2.2.1
theorem yEc.lo {n d k : Nat} {m : Nat → Nat → Int} {p : Nat → Nat} (h : yEc n d k m p) : ∀ i c, i < d → c < p i → m i c = 0 := h.2.2.2.2.1
theorem yEc.al {n d k : Nat} {m : Nat → Nat → Int} {p : Nat → Nat} (h : yEc n d k m p) : ∀ i j, i < d → j < n → j ≠ i → m j (p i) = 0 := h.2.2.2.2.2.1
theorem yEc.ze {n d k : Nat} {m : Nat → Nat → Int} {p : Nat → Nat} (h : yEc n d k m p) : ∀ j c, d ≤ j → j < n → c < k → m j c = 0 := h.2.2.2.2.2.2
def yPv (d : Nat) (p : Nat → Nat) (c : Nat) : Prop := ∃ i, i < d ∧ p i = c
variable {n d k : Nat} {m : Nat → Nat → Int} {p : Nat → Nat}
theorem yEc.inj (h : yEc n d k m p) {i j : Nat} (hi : i < d) (hj : j < d) (e : p i = p j) : i = j := by
  rcases Nat.lt_trichotomy i j with q | q | q
  · have := h.up i j q hj; omega
  · exact q
  · have := h.up j i q hi; omega
theorem ycn_piv : ∀ (k d : Nat), (∀ i j, i < j → j < d → p i < p j) → (∀ i, i < d → p i < k) → ycn (yPv d p) k = d
  | 0, d, _, h2 => by
    rcases Nat.eq_zero_or_pos d with e | e
    · rw [e]; rfl
    · have := h2 0 e; omega
  | k + 1, d, h1, h2 => by
    by_cases h : yPv d p k
    · obtain ⟨i, hi, e⟩ := h
      have hid : i = d - 1 := by
        rcases Nat.lt_or_ge i (d - 1) with q | q
        · have := h1 i (d - 1) q (by omega)
          have := h2 (d - 1) (by omega)
          omega
        · omega
      rw [ycn_y (p := yPv d p) ⟨i, hi, e⟩]
      have ih := ycn_piv k (d - 1) (fun a b hab hb => h1 a b hab (by omega)) (fun a ha => by
        have := h1 a i (by omega) hi
        omega)
      have e2 : ycn (yPv d p) k = ycn (yPv (d - 1) p) k := ycn_eq (fun x hx => by
        constructor
        · rintro ⟨a, ha, e3⟩
          have : a ≠ i := fun q => by rw [q] at e3; omega
          exact ⟨a, by omega, e3⟩
        · rintro ⟨a, ha, e3⟩
          exact ⟨a, by omega, e3⟩)
      rw [e2, ih]
      omega
    · rw [ycn_n (p := yPv d p) h]
      exact ycn_piv k d h1 (fun a ha => by
        have := h2 a ha
        have : p a ≠ k := fun q => h ⟨a, ha, q⟩
        omega)
theorem y_comdiv (a : Nat → Int) : ∀ d, (∀ i, i < d → a i ≠ 0) → ∃ L : Int, L ≠ 0 ∧ ∀ i, i < d → a i ∣ L
  | 0, _ => ⟨1, by decide, fun i hi => by omega⟩
  | d + 1, h => by
    obtain ⟨L, h1, h2⟩ := y_comdiv a d (fun i hi => h i (by omega))
    refine ⟨L * a d, Int.mul_ne_zero h1 (h d (by omega)), fun i hi => ?_⟩
    by_cases e : i = d
    · subst e; exact Int.dvd_mul_left _ _
    · exact Int.dvd_trans (h2 i (by omega)) (Int.dvd_mul_right _ _)
/-- a free column's vector: itself and pivots -/
theorem yEc_free (h : yEc n d 7 m p) {c : Nat} (hc : c < 7) (hp : ¬ yPv d p c) : ∃ w : Nat → Int, yKm m n w ∧ w c ≠ 0 ∧ (∀ j, c < j → j < 7 → w j = 0) ∧ ∀ j, j < 7 → j ≠ c → ¬ yPv d p j → w j = 0 := by
  obtain ⟨L, L1, L2⟩ := y_comdiv (fun i => m i (p i)) d h.nz
  let w : Nat → Int := fun x => if x = c then L else @dite Int (yPv d p x) (Classical.propDecidable _) (fun q => -(m (Classical.choose q) c) * (L / m (Classical.choose q) x)) (fun _ => 0)
  have wc : w c = L := if_pos rfl
  have wp : ∀ i, i < d → w (p i) = -(m i c) * (L / m i (p i)) := by
    intro i hi
    have e : p i ≠ c := fun q => hp ⟨i, hi, q⟩
    have q : yPv d p (p i) := ⟨i, hi, rfl⟩
    have ei : Classical.choose q = i := h.inj (Classical.choose_spec q).1 hi (Classical.choose_spec q).2
    show (if p i = c then L else _) = _
    rw [if_neg e, dif_pos q, ei]
  have wz : ∀ x, x ≠ c → ¬ yPv d p x → w x = 0 := by
    intro x e q
    show (if x = c then L else _) = _
    rw [if_neg e, dif_neg q]
  refine ⟨w, fun j hj => ?_, by rw [wc]; exact L1, fun x hx hx7 => ?_, fun x _ => wz x⟩
  · rcases Nat.lt_or_ge j d with hd | hd
    · have e : p j ≠ c := fun q => hp ⟨j, hd, q⟩
      unfold ydt
      rw [ysm_two e (h.pk j hd) hc (fun x hx q1 q2 => by
        by_cases q : yPv d p x
        · obtain ⟨i, hi, rfl⟩ := q
          rw [h.al i j hi hj (fun z => q1 (by rw [z])), Int.zero_mul]
        · rw [wz x q2 q, Int.mul_zero])]
      rw [wc, wp j hd]
      have e2 : m j (p j) * (L / m j (p j)) = L := Int.mul_ediv_cancel' (L2 j hd)
      have e3 : m j (p j) * (-(m j c) * (L / m j (p j))) = -(m j c) * (m j (p j) * (L / m j (p j))) := by grind
      rw [e3, e2]
      grind
    · unfold ydt
      exact ysm_zero (fun x hx => by rw [h.ze j x hd hj hx, Int.zero_mul])
  · by_cases q : yPv d p x
    · obtain ⟨i, hi, rfl⟩ := q
      rw [wp i hi, h.lo i c hi hx]
      simp
    · exact wz x (by omega) q
theorem yEc_piv (h : yEc n d 7 m p) {c : Nat} (hc : c < 7) : ¬ yFr (yKm m n) c ↔ yPv d p c := by
  constructor
  · intro h1
    apply Classical.byContradiction
    intro q
    obtain ⟨w, w1, w2, w3, -⟩ := yEc_free h hc q
    exact h1 ⟨w, w1, w2, w3⟩
  · rintro ⟨i, hi, rfl⟩ ⟨w, w1, w2, w3⟩
    have e := w1 i (by have := h.dn; omega)
    unfold ydt at e
    rw [ysm_one hc (fun x hx q => by
      rcases Nat.lt_or_ge x (p i) with z | z
      · rw [h.lo i x hi z, Int.zero_mul]
      · rw [w3 x (by omega) hx, Int.mul_zero])] at e
    rcases Int.mul_eq_zero.mp e with q | q
    · exact h.nz i hi q
    · exact w2 q
theorem yEc_rank (h : yEc n d 7 m p) {K : (Nat → Int) → Prop} (hK : ∀ w, yKm m n w ↔ K w) : d = yrk K := by
  rw [← yrk_eq hK]
  unfold yrk
  rw [ycn_eq (q := yPv d p) (fun x hx => yEc_piv h hx)]
  exact (ycn_piv 7 d h.up h.pk).symm
end YLN

/-! The elimination's stages. -/
section YSTG
def yPr (v : Nat → Int) : Prop := ∀ g : Int, (∀ c, c < 7 → g ∣ v c) → g ∣ 1
theorem yPr_cg {v w : Nat → Int} (h : yPr v) (e : ∀ c, c < 7 → w c = v c) : yPr w := fun g hg => h g (fun c hc => by rw [← e c hc]; exact hg c hc)
def yJ (n d : Nat) (m s : Nat → Nat → Int) : Prop := ∀ j, j < n → ∃ (l u : Int) (x : Nat → Int), l ≠ 0 ∧ (d ≤ j → u ≠ 0) ∧ (j < d → u = 0) ∧ ∀ c, c < 7 → l * m j c = u * s j c + ysm (fun q => x q * s q c) d
def yI (d : Nat) (s : Nat → Nat → Int) (p : Nat → Nat) : Prop := ∀ x : Nat → Int, (∀ i, i < d → ysm (fun q => x q * s q (p i)) d = 0) → ∀ q, q < d → x q = 0
def yP (n : Nat) (m s : Nat → Nat → Int) : Prop := ∀ j, j < n → yPr (m j) ∨ (∀ c, c < 7 → m j c = 0) ∨ ∀ c, c < 7 → m j c = s j c
def yStg (T K : (Nat → Int) → Prop) (n d k : Nat) (m s : Nat → Nat → Int) (p : Nat → Nat) : Prop := yEc n d k m p ∧ yJ n d m s ∧ yI d s p ∧ yP n m s ∧ (∀ w, yKm m n w ↔ K w) ∧ (∀ w, yKm s n w ↔ K w) ∧ ∀ i, i < n → T (s i)
variable {T K : (Nat → Int) → Prop} {n d k : Nat} {m s : Nat → Nat → Int} {p : Nat → Nat}
theorem yStg_0 {M : Nat → Nat → Int} (hK : ∀ w, yKm M n w ↔ K w) (hT : ∀ i, i < n → T (M i)) : yStg T K n 0 0 M M p := ⟨⟨Nat.zero_le _, fun i h => by omega, fun i j _ h => by omega, fun i h => by omega, fun i c h => by omega, fun i j h => by omega, fun j c _ _ h => by omega⟩, fun j _ => ⟨1, 1, fun _ => 0, by decide, fun _ => by decide, fun h => by omega, fun c _ => by show 1 * M j c = 1 * M j c + 0; omega⟩, fun x _ q h => by omega, fun j _ => Or.inr (Or.inr (fun _ _ => rfl)), hK, hK, hT⟩
theorem yStg_skip (h : yStg T K n d k m s p) (hz : ∀ j, d ≤ j → j < n → m j k = 0) : yStg T K n d (k + 1) m s p := by
  obtain ⟨e, h2⟩ := h
  exact ⟨⟨e.dn, fun i hi => by have := e.pk i hi; omega, e.up, e.nz, e.lo, e.al, fun j c h1 h2 h3 => by
    rcases Nat.lt_or_ge c k with q | q
    · exact e.ze j c h1 h2 q
    · rw [show c = k by omega]; exact hz j h1 h2⟩, h2⟩
def ysw (a b j : Nat) : Nat := if j = a then b else if j = b then a else j
theorem ysw_l {a b : Nat} : ysw a b a = b := if_pos rfl
theorem ysw_r {a b : Nat} : ysw a b b = a := by
  unfold ysw
  by_cases h : b = a
  · rw [if_pos h, h]
  · rw [if_neg h, if_pos rfl]
theorem ysw_o {a b j : Nat} (h1 : j ≠ a) (h2 : j ≠ b) : ysw a b j = j := by
  unfold ysw
  rw [if_neg h1, if_neg h2]
theorem ysw_lt {a b j n : Nat} (ha : a < n) (hb : b < n) (hj : j < n) : ysw a b j < n := by
  unfold ysw
  split
  · exact hb
  · split
    · exact ha
    · exact hj
theorem ysw_ge {a b j d : Nat} (ha : d ≤ a) (hb : d ≤ b) (hj : d ≤ j) : d ≤ ysw a b j := by
  unfold ysw
  split
  · exact hb
  · split
    · exact ha
    · exact hj
theorem ysw_ss {a b j : Nat} : ysw a b (ysw a b j) = j := by
  by_cases h1 : j = a
  · rw [h1, ysw_l, ysw_r]
  · by_cases h2 : j = b
    · rw [h2, ysw_r, ysw_l]
    · rw [ysw_o h1 h2, ysw_o h1 h2]
theorem yKm_sw {a b : Nat} {m : Nat → Nat → Int} (ha : a < n) (hb : b < n) (w : Nat → Int) : yKm (fun j => m (ysw a b j)) n w ↔ yKm m n w := by
  constructor
  · intro h i hi
    have := h (ysw a b i) (ysw_lt ha hb hi)
    simp only [ysw_ss] at this
    exact this
  · intro h i hi
    exact h _ (ysw_lt ha hb hi)
theorem yStg_swap {i : Nat} (h : yStg T K n d k m s p) (h1 : d ≤ i) (h2 : i < n) : yStg T K n d k (fun j => m (ysw i d j)) (fun j => s (ysw i d j)) p := by
  obtain ⟨e, hJ, hI, hP, hK, hS, hT⟩ := h
  have hd : d < n := by omega
  have low : ∀ q, q < d → ysw i d q = q := fun q hq => ysw_o (by omega) (by omega)
  have sme : ∀ (x : Nat → Int) c, ysm (fun q => x q * s (ysw i d q) c) d = ysm (fun q => x q * s q c) d := fun x c => ysm_ext (fun q hq => by rw [low q hq])
  refine ⟨⟨e.dn, e.pk, e.up, fun j hj => ?_, fun j c hj hc => ?_, fun a j ha hj hja => ?_, fun j c h3 h4 h5 => ?_⟩, fun j hj => ?_, fun x hx q hq => ?_, fun j hj => hP _ (ysw_lt h2 hd hj), fun w => (yKm_sw h2 hd w).trans (hK w), fun w => (yKm_sw h2 hd w).trans (hS w), fun j hj => hT _ (ysw_lt h2 hd hj)⟩
  · show m (ysw i d j) (p j) ≠ 0
    rw [low j hj]; exact e.nz j hj
  · show m (ysw i d j) c = 0
    rw [low j hj]; exact e.lo j c hj hc
  · refine e.al a _ ha (ysw_lt h2 hd hj) (fun q => hja ?_)
    have := congrArg (ysw i d) q
    rw [ysw_ss, low a ha] at this
    exact this
  · exact e.ze _ c (ysw_ge h1 (Nat.le_refl d) h3) (ysw_lt h2 hd h4) h5
  · obtain ⟨l, u, x, q1, q2, q3, q4⟩ := hJ (ysw i d j) (ysw_lt h2 hd hj)
    refine ⟨l, u, x, q1, fun h => q2 (ysw_ge h1 (Nat.le_refl d) h), fun h => q3 (by rw [low j h]; exact h), fun c hc => ?_⟩
    show l * m (ysw i d j) c = u * s (ysw i d j) c + ysm (fun q => x q * s (ysw i d q) c) d
    rw [sme]
    exact q4 c hc
  · refine hI x (fun a ha => ?_) q hq
    rw [← sme]
    exact hx a ha
/-- a row struck -/
def yStk (m : Nat → Nat → Int) (d k j : Nat) (v : Nat → Int) : Prop := (m j k = 0 ∧ ∀ c, c < 7 → v c = m j c) ∨ (m j k ≠ 0 ∧ (∃ g : Int, g ≠ 0 ∧ ∀ c, c < 7 → g * v c = m j c * m d k - m d c * m j k) ∧ (yPr v ∨ ∀ c, c < 7 → v c = 0))
theorem y_mul0 {g v : Int} (hg : g ≠ 0) (h : g * v = 0) : v = 0 := by
  rcases Int.mul_eq_zero.mp h with q | q
  · exact absurd q hg
  · exact q
theorem yStk_z {j c : Nat} {v : Nat → Int} (h : yStk m d k j v) (hc : c < 7) (h1 : m j c = 0) (h2 : m d c = 0) : v c = 0 := by
  rcases h with ⟨-, q⟩ | ⟨-, ⟨g, g1, g2⟩, -⟩
  · rw [q c hc, h1]
  · refine y_mul0 g1 ?_
    rw [g2 c hc, h1, h2]
    simp
theorem yStk_k {j : Nat} {v : Nat → Int} (h : yStk m d k j v) (hk : k < 7) : v k = 0 := by
  rcases h with ⟨z, q⟩ | ⟨-, ⟨g, g1, g2⟩, -⟩
  · rw [q k hk, z]
  · refine y_mul0 g1 ?_
    rw [g2 k hk]
    grind
theorem yStg_piv {m' : Nat → Nat → Int} (h : yStg T K n d k m s p) (hk : k < 7) (hd : d < n) (hm : m d k ≠ 0) (h1 : ∀ c, c < 7 → m' d c = m d c) (h2 : ∀ j, j < n → j ≠ d → yStk m d k j (m' j)) : yStg T K n (d + 1) (k + 1) m' s (fun i => if i = d then k else p i) := by
  obtain ⟨e, hJ, hI, hP, hK, hS, hT⟩ := h
  have pl : ∀ i, i < d → (if i = d then k else p i) = p i := fun i hi => if_neg (by omega)
  have pd : (if d = d then k else p d) = k := if_pos rfl
  have p7 : ∀ i, i < d → p i < 7 := fun i hi => by have := e.pk i hi; omega
  refine ⟨⟨hd, fun i hi => ?_, fun i j hij hj => ?_, fun i hi => ?_, fun i c hi hc => ?_, fun i j hi hj hji => ?_, fun j c h3 h4 h5 => ?_⟩, fun j hj => ?_, fun x hx => ?_, fun j hj => ?_, fun w => ?_, hS, hT⟩
  · show (if i = d then k else p i) < k + 1
    split
    · omega
    · have := e.pk i (by omega); omega
  · show (if i = d then k else p i) < (if j = d then k else p j)
    rw [pl i (by omega)]
    split
    · exact e.pk i (by omega)
    · exact e.up i j hij (by omega)
  · show m' i (if i = d then k else p i) ≠ 0
    by_cases q : i = d
    · rw [q, pd, h1 k hk]; exact hm
    · have hi : i < d := by omega
      rw [pl i hi]
      rcases h2 i (by omega) q with ⟨-, z⟩ | ⟨-, ⟨g, g1, g2⟩, -⟩
      · rw [z _ (p7 i hi)]; exact e.nz i hi
      · intro z
        have := g2 (p i) (p7 i hi)
        rw [z, e.al i d hi hd (fun z => q z.symm), Int.mul_zero, Int.zero_mul, Int.sub_zero] at this
        exact Int.mul_ne_zero (e.nz i hi) hm this.symm
  · have hc : c < (if i = d then k else p i) := hc
    by_cases q : i = d
    · rw [q, pd] at hc
      rw [q, h1 c (by omega)]
      exact e.ze d c (Nat.le_refl d) hd hc
    · have hi : i < d := by omega
      rw [pl i hi] at hc
      have := e.pk i hi
      exact yStk_z (h2 i (by omega) q) (by omega) (e.lo i c hi hc) (e.ze d c (Nat.le_refl d) hd (by omega))
  · show m' j (if i = d then k else p i) = 0
    by_cases q : i = d
    · rw [q, pd]
      exact yStk_k (h2 j hj (by omega)) hk
    · have hi : i < d := by omega
      rw [pl i hi]
      by_cases qj : j = d
      · rw [qj, h1 _ (p7 i hi)]
        exact e.al i d hi hd (by omega)
      · exact yStk_z (h2 j hj qj) (p7 i hi) (e.al i j hi hj hji) (e.al i d hi hd (by omega))
  · by_cases q : c = k
    · rw [q]; exact yStk_k (h2 j h4 (by omega)) hk
    · exact yStk_z (h2 j h4 (by omega)) (by omega) (e.ze j c (by omega) h4 (by omega)) (e.ze d c (Nat.le_refl d) hd (by omega))
  · obtain ⟨ld, ud, xd, a1, a2, -, a4⟩ := hJ d hd
    by_cases q : j = d
    · subst q
      refine ⟨ld, 0, fun q => if q = j then ud else xd q, a1, fun h => by omega, fun _ => rfl, fun c hc => ?_⟩
      show ld * m' j c = 0 * s j c + (ysm (fun q => (if q = j then ud else xd q) * s q c) j + (if j = j then ud else xd j) * s j c)
      rw [h1 c hc, a4 c hc, if_pos rfl, ysm_ext (f := fun q => (if q = j then ud else xd q) * s q c) (g := fun q => xd q * s q c) (fun i hi => by rw [if_neg (by omega)]), Int.zero_mul]
      omega
    · obtain ⟨lj, uj, xj, b1, b2, b3, b4⟩ := hJ j hj
      rcases h2 j hj q with ⟨-, z⟩ | ⟨-, ⟨g, g1, g2⟩, -⟩
      · refine ⟨lj, uj, fun q => if q = d then 0 else xj q, b1, fun h => b2 (by omega), fun h => b3 (by omega), fun c hc => ?_⟩
        show lj * m' j c = uj * s j c + (ysm (fun q => (if q = d then 0 else xj q) * s q c) d + (if d = d then 0 else xj d) * s d c)
        rw [z c hc, b4 c hc, if_pos rfl, ysm_ext (f := fun q => (if q = d then 0 else xj q) * s q c) (g := fun q => xj q * s q c) (fun i hi => by rw [if_neg (by omega)])]
        grind
      · refine ⟨lj * ld * g, m d k * ld * uj, fun q => if q = d then -(m j k * lj * ud) else m d k * ld * xj q - m j k * lj * xd q, Int.mul_ne_zero (Int.mul_ne_zero b1 a1) g1, fun h => Int.mul_ne_zero (Int.mul_ne_zero hm a1) (b2 (by omega)), fun h => by rw [b3 (by omega), Int.mul_zero], fun c hc => ?_⟩
        show lj * ld * g * m' j c = m d k * ld * uj * s j c + (ysm (fun q => (if q = d then -(m j k * lj * ud) else m d k * ld * xj q - m j k * lj * xd q) * s q c) d + (if d = d then -(m j k * lj * ud) else m d k * ld * xj d - m j k * lj * xd d) * s d c)
        have e1 := a4 c hc
        have e2 := b4 c hc
        have e3 := g2 c hc
        have e4 := ysm_lin (m d k * ld) (-(m j k * lj)) (fun q => xj q * s q c) (fun q => xd q * s q c) d
        rw [if_pos rfl, ysm_ext (f := fun q => (if q = d then -(m j k * lj * ud) else m d k * ld * xj q - m j k * lj * xd q) * s q c) (g := fun i => m d k * ld * (xj i * s i c) + -(m j k * lj) * (xd i * s i c)) (fun i hi => by rw [if_neg (by omega)]; grind), ← e4]
        have e5 : lj * ld * g * m' j c = lj * ld * (g * m' j c) := by grind
        rw [e5, e3]
        have e6 : lj * ld * (m j c * m d k - m d c * m j k) = m d k * ld * (lj * m j c) - m j k * lj * (ld * m d c) := by grind
        rw [e6, e1, e2]
        grind
  · obtain ⟨ld, ud, xd, a1, a2, -, a4⟩ := hJ d hd
    have a2 := a2 (Nat.le_refl d)
    have hx0 : ∀ i, i < d → ysm (fun q => x q * s q (p i)) d + x d * s d (p i) = 0 := fun i hi => by
      have := hx i (by omega)
      have this : ysm (fun q => x q * s q (if i = d then k else p i)) (d + 1) = 0 := this
      rw [pl i hi] at this
      exact this
    have hxd : ysm (fun q => x q * s q k) d + x d * s d k = 0 := by
      have := hx d (by omega)
      have this : ysm (fun q => x q * s q (if d = d then k else p d)) (d + 1) = 0 := this
      rw [pd] at this
      exact this
    have hy := hI (fun q => ud * x q - x d * xd q) (fun i hi => by
      have f1 := a4 (p i) (p7 i hi)
      rw [e.al i d hi hd (by omega), Int.mul_zero] at f1
      have f2 := hx0 i hi
      have f3 := ysm_lin ud (-(x d)) (fun q => x q * s q (p i)) (fun q => xd q * s q (p i)) d
      rw [ysm_ext (g := fun q => ud * (x q * s q (p i)) + -(x d) * (xd q * s q (p i))) (fun q _ => by grind), ← f3]
      grind)
    have hz : x d = 0 := by
      have f1 := a4 k hk
      have f3 := ysm_lin ud (-(x d)) (fun q => x q * s q k) (fun q => xd q * s q k) d
      rw [ysm_zero (f := fun q => ud * (x q * s q k) + -(x d) * (xd q * s q k)) (fun q hq => by
        have := hy q hq
        have e9 : ud * (x q * s q k) + -(x d) * (xd q * s q k) = (ud * x q - x d * xd q) * s q k := by grind
        rw [e9, this, Int.zero_mul])] at f3
      have f4 : x d * (ld * m d k) = 0 := by
        rw [f1]
        grind
      rcases Int.mul_eq_zero.mp f4 with z | z
      · exact z
      · exact absurd z (Int.mul_ne_zero a1 hm)
    intro q hq
    by_cases qd : q = d
    · rw [qd]; exact hz
    · have := hy q (by omega)
      have this : ud * x q - x d * xd q = 0 := this
      rw [hz, Int.zero_mul, Int.sub_zero] at this
      exact y_mul0 a2 this
  · by_cases q : j = d
    · subst q
      rcases hP j hj with z | z | z
      · exact Or.inl (yPr_cg z h1)
      · exact Or.inr (Or.inl (fun c hc => by rw [h1 c hc]; exact z c hc))
      · exact Or.inr (Or.inr (fun c hc => by rw [h1 c hc]; exact z c hc))
    · rcases h2 j hj q with ⟨-, y⟩ | ⟨-, -, y | y⟩
      · rcases hP j hj with z | z | z
        · exact Or.inl (yPr_cg z y)
        · exact Or.inr (Or.inl (fun c hc => by rw [y c hc]; exact z c hc))
        · exact Or.inr (Or.inr (fun c hc => by rw [y c hc]; exact z c hc))
      · exact Or.inl y
      · exact Or.inr (Or.inl y)
  · rw [← hK w]
    have lin : ∀ j (g : Int), (∀ c, c < 7 → g * m' j c = m j c * m d k - m d c * m j k) → g * ydt (m' j) w = m d k * ydt (m j) w + -(m j k) * ydt (m d) w := fun j g hg => ydt_lin (fun c hc => by rw [hg c hc]; grind)
    constructor
    · intro z
      have zd : ydt (m d) w = 0 := by
        rw [← z d hd]
        exact ydt_ext (fun c hc => (h1 c hc).symm)
      intro j hj
      by_cases q : j = d
      · rw [q]; exact zd
      · rcases h2 j hj q with ⟨-, y⟩ | ⟨-, ⟨g, g1, g2⟩, -⟩
        · rw [← z j hj]
          exact ydt_ext (fun c hc => (y c hc).symm)
        · have := lin j g g2
          rw [z j hj, zd, Int.mul_zero, Int.mul_zero, Int.add_zero] at this
          exact y_mul0 hm this.symm
    · intro z j hj
      by_cases q : j = d
      · rw [q, ydt_ext h1]; exact z d hd
      · rcases h2 j hj q with ⟨-, y⟩ | ⟨-, ⟨g, g1, g2⟩, -⟩
        · rw [ydt_ext y]; exact z j hj
        · have := lin j g g2
          rw [z j hj, z d hd, Int.mul_zero, Int.mul_zero, Int.add_zero] at this
          exact y_mul0 g1 this
end YSTG

/-! Minimal conserved sums, as mathematics. -/
section YSU
def yKS (K : (Nat → Int) → Prop) (S : Nat) (w : Nat → Int) : Prop := K (yms S w)
/-- the generator of what is conserved on S, if it is of one sign -/
def yWv (K : (Nat → Int) → Prop) (S : Nat) (u : Nat → Int) : Prop := K u ∧ (∀ c, c < 7 → ¬ S.testBit c = true → u c = 0) ∧ (∀ c, c < 7 → S.testBit c = true → 0 < u c) ∧ ∀ v, K v → (∀ c, c < 7 → ¬ S.testBit c = true → v c = 0) → ∃ z : Int, ∀ c, c < 7 → v c = z * u c
theorem yWv_uq {K : (Nat → Int) → Prop} {S c0 : Nat} {u u' : Nat → Int} (h : yWv K S u) (h' : yWv K S u') (h7 : c0 < 7) (h0 : S.testBit c0 = true) : ∀ c, c < 7 → u c = u' c := by
  obtain ⟨z, hz⟩ := h.2.2.2 u' h'.1 h'.2.1
  obtain ⟨y, hy⟩ := h'.2.2.2 u h.1 h.2.1
  have p1 := h.2.2.1 c0 h7 h0
  have p2 := h'.2.2.1 c0 h7 h0
  have e1 := hz c0 h7
  have e2 := hy c0 h7
  have z0 : 0 < z := by
    rcases Int.lt_trichotomy z 0 with q | q | q
    · have : z * u c0 < 0 := Int.mul_neg_of_neg_of_pos q p1
      omega
    · rw [q, Int.zero_mul] at e1; omega
    · exact q
  have y0 : 0 < y := by
    rcases Int.lt_trichotomy y 0 with q | q | q
    · have : y * u' c0 < 0 := Int.mul_neg_of_neg_of_pos q p2
      omega
    · rw [q, Int.zero_mul] at e2; omega
    · exact q
  have e3 : z * y = 1 := by
    have : (z * y - 1) * u' c0 = 0 := by
      have : z * (y * u' c0) = u' c0 := by rw [← e2, ← e1]
      grind
    rcases Int.mul_eq_zero.mp this with q | q
    · omega
    · omega
  have z1 : z = 1 := by
    rcases Int.lt_trichotomy z 1 with q | q | q
    · omega
    · exact q
    · have h1 : 2 * 1 ≤ z * y := Int.mul_le_mul (by omega) (by omega) (by omega) (by omega)
      omega
  intro c hc
  rw [hz c hc, z1, Int.one_mul]
variable {T K : (Nat → Int) → Prop} {n d S : Nat} {m s : Nat → Nat → Int} {p : Nat → Nat}
theorem ycn_1 {p : Nat → Prop} : ∀ n, ycn p n = 1 → ∃ f, f < n ∧ p f ∧ ∀ c, c < n → p c → c = f
  | 0, h => by simp [ycn] at h
  | n + 1, h => by
    by_cases q : p n
    · rw [ycn_y q] at h
      refine ⟨n, by omega, q, fun c hc hp => ?_⟩
      apply Classical.byContradiction
      intro e
      have := ycn_lt (p := fun _ => False) (q := p) n (fun _ _ h => h.elim) ⟨c, by omega, hp, fun h => h⟩
      omega
    · rw [ycn_n q] at h
      obtain ⟨f, f1, f2, f3⟩ := ycn_1 n h
      exact ⟨f, by omega, f2, fun c hc hp => by
        by_cases e : c = n
        · rw [e] at hp; exact absurd hp q
        · exact f3 c (by omega) hp⟩
theorem ycn_u {p : Nat → Prop} {f : Nat} : ∀ n, f < n → p f → (∀ c, c < n → p c → c = f) → ycn p n = 1
  | 0, h, _, _ => by omega
  | n + 1, h, h1, h2 => by
    by_cases e : f = n
    · subst e
      rw [ycn_y h1, ycn_z f (fun x hx q => by have := h2 x (by omega) q; omega)]
    · rw [ycn_n (p := p) (n := n) (fun q => e (h2 n (by omega) q).symm)]
      exact ycn_u n (by omega) h1 (fun c hc => h2 c (by omega))
theorem ycn_sp {p q : Nat → Prop} : ∀ n, (∀ c, c < n → q c → p c) → ycn p n = ycn q n + ycn (fun c => p c ∧ ¬ q c) n
  | 0, _ => rfl
  | n + 1, h => by
    have ih := ycn_sp (p := p) (q := q) n (fun c hc => h c (by omega))
    by_cases a : q n
    · rw [ycn_y (h n (by omega) a), ycn_y a, ycn_n (p := fun c => p c ∧ ¬ q c) (fun z => z.2 a)]; omega
    · by_cases b : p n
      · rw [ycn_y b, ycn_n a, ycn_y (p := fun c => p c ∧ ¬ q c) ⟨b, a⟩]; omega
      · rw [ycn_n b, ycn_n a, ycn_n (p := fun c => p c ∧ ¬ q c) (fun z => b z.1)]; omega
/-- what K must be -/
def yKo (K : (Nat → Int) → Prop) : Prop := (∀ v w, (∀ c, c < 7 → v c = w c) → K v → K w) ∧ K (fun _ => 0)
theorem yKm_o (M : Nat → Nat → Int) (n : Nat) : yKo (yKm M n) := ⟨fun v w h k i hi => by
  rw [← k i hi]
  exact ysm_ext (fun c hc => by rw [h c hc]), fun i _ => ysm_zero (fun c _ => Int.mul_zero _)⟩
theorem yS_out (hK : yKo K) (h : yStg T (yKS K S) n d 7 m s p) {i c : Nat} (hi : i < n) (hc : c < 7) (hb : ¬ S.testBit c = true) : m i c = 0 := by
  have k1 : yKS K S (fun x => if x = c then 1 else 0) := hK.1 _ _ (fun x hx => by
    by_cases e : S.testBit x = true
    · rw [yms_y e, if_neg (fun q => hb (by rw [← q]; exact e))]
    · rw [yms_n e]) hK.2
  have k2 := (h.2.2.2.2.1 _).mpr k1 i hi
  have k2 : ysm (fun x => m i x * (if x = c then 1 else 0)) 7 = 0 := k2
  rw [ysm_one (f := fun x => m i x * (if x = c then 1 else 0)) hc (fun x _ hx => by rw [if_neg hx, Int.mul_zero]), if_pos rfl, Int.mul_one] at k2
  exact k2
theorem yS_piv (hK : yKo K) (h : yStg T (yKS K S) n d 7 m s p) {c : Nat} (hc : yPv d p c) : S.testBit c = true := by
  obtain ⟨i, hi, rfl⟩ := hc
  apply Classical.byContradiction
  intro q
  exact h.1.nz i hi (yS_out hK h (by have := h.1.dn; omega) (h.1.pk i hi) q)
/-- f is the only column of S without a pivot -/
def yOf (S d : Nat) (p : Nat → Nat) (f : Nat) : Prop := f < 7 ∧ S.testBit f = true ∧ ¬ yPv d p f ∧ ∀ c, c < 7 → S.testBit c = true → c = f ∨ yPv d p c
noncomputable def ypc (S : Nat) : Nat := ycn (fun c => S.testBit c = true) 7
theorem yS_cnt (hK : yKo K) (h : yStg T (yKS K S) n d 7 m s p) : d + 1 = ypc S ↔ ∃ f, yOf S d p f := by
  have e1 := ycn_sp (p := fun c => S.testBit c = true) (q := yPv d p) 7 (fun c _ q => yS_piv hK h q)
  have e2 := ycn_piv 7 d h.1.up h.1.pk
  unfold ypc
  constructor
  · intro e
    obtain ⟨f, f1, f2, f3⟩ := ycn_1 (p := fun c => S.testBit c = true ∧ ¬ yPv d p c) 7 (by omega)
    exact ⟨f, f1, f2.1, f2.2, fun c hc hb => by
      by_cases q : yPv d p c
      · exact Or.inr q
      · exact Or.inl (f3 c hc ⟨hb, q⟩)⟩
  · rintro ⟨f, f1, f2, f3, f4⟩
    have := ycn_u (p := fun c => S.testBit c = true ∧ ¬ yPv d p c) 7 f1 ⟨f2, f3⟩ (fun c hc hq => by
      rcases f4 c hc hq.1 with z | z
      · exact z
      · exact absurd z hq.2)
    omega
theorem yS_row (hK : yKo K) (h : yStg T (yKS K S) n d 7 m s p) {f : Nat} (hf : yOf S d p f) {v : Nat → Int} {i : Nat} (hi : i < d) : ydt (m i) v = m i (p i) * v (p i) + m i f * v f := by
  obtain ⟨f1, f2, f3, f4⟩ := hf
  have hn := h.1.dn
  unfold ydt
  refine ysm_two (fun q => f3 ⟨i, hi, q⟩) (h.1.pk i hi) f1 (fun c hc q1 q2 => ?_)
  by_cases hb : S.testBit c = true
  · rcases f4 c hc hb with z | ⟨j, hj, rfl⟩
    · exact absurd z q2
    · rw [h.1.al j i hj (by omega) (fun z => q1 (by rw [z])), Int.zero_mul]
  · rw [yS_out hK h (by omega) hc hb, Int.zero_mul]
theorem yS_ker (hK : yKo K) (h : yStg T (yKS K S) n d 7 m s p) {v : Nat → Int} (hv : ∀ c, c < 7 → ¬ S.testBit c = true → v c = 0) : K v ↔ yKm m n v := by
  rw [h.2.2.2.2.1 v]
  unfold yKS
  have e : ∀ c, c < 7 → yms S v c = v c := fun c hc => by
    by_cases hb : S.testBit c = true
    · exact yms_y hb
    · rw [yms_n hb, hv c hc hb]
  exact ⟨fun q => hK.1 _ _ (fun c hc => (e c hc).symm) q, fun q => hK.1 _ _ e q⟩
/-- own and other of one row: opposite signs -/
def yOp (a b : Int) : Prop := b ≠ 0 ∧ (0 < b ↔ ¬ 0 < a)
/-- if there is a generator of one sign, the check comes through -/
theorem yS_B (hK : yKo K) (h : yStg T (yKS K S) n d 7 m s p) {u : Nat → Int} {c0 : Nat} (h7 : c0 < 7) (h0 : S.testBit c0 = true) (hu : yWv K S u) : ∃ f, yOf S d p f ∧ ∀ i, i < d → yOp (m i (p i)) (m i f) := by
  have e := h.1
  have hk := (yS_ker hK h hu.2.1).mp hu.1
  have vec : ∀ c, c < 7 → S.testBit c = true → ¬ yPv d p c → ∃ w : Nat → Int, K w ∧ (∀ x, x < 7 → ¬ S.testBit x = true → w x = 0) ∧ w c ≠ 0 ∧ ∀ x, x < 7 → x ≠ c → ¬ yPv d p x → w x = 0 := by
    intro c hc hb hp
    obtain ⟨w, w1, w2, w3, w4⟩ := yEc_free e hc hp
    have ws : ∀ x, x < 7 → ¬ S.testBit x = true → w x = 0 := fun x hx hb2 => w4 x hx (fun q => hb2 (by rw [q]; exact hb)) (fun q => hb2 (yS_piv hK h q))
    exact ⟨w, (yS_ker hK h ws).mpr w1, ws, w2, w4⟩
  have ex : ∃ f, f < 7 ∧ S.testBit f = true ∧ ¬ yPv d p f := by
    apply Classical.byContradiction
    intro q
    have allp : ∀ c, c < 7 → S.testBit c = true → yPv d p c := fun c hc hb => Classical.byContradiction (fun z => q ⟨c, hc, hb, z⟩)
    obtain ⟨i, hi, e2⟩ := allp c0 h7 h0
    have hd := hk i (by have := e.dn; omega)
    unfold ydt at hd
    rw [ysm_one (h7) (fun c hc hcc => by
      by_cases hb : S.testBit c = true
      · obtain ⟨j, hj, rfl⟩ := allp c hc hb
        rw [e.al j i hj (by have := e.dn; omega) (fun z => hcc (by rw [← z, e2])), Int.zero_mul]
      · rw [hu.2.1 c hc hb, Int.mul_zero])] at hd
    rcases Int.mul_eq_zero.mp hd with z | z
    · rw [← e2] at z; exact e.nz i hi z
    · have := hu.2.2.1 c0 h7 h0
      omega
  obtain ⟨f, f1, f2, f3⟩ := ex
  have hf : yOf S d p f := ⟨f1, f2, f3, fun c hc hb => by
    by_cases q : yPv d p c
    · exact Or.inr q
    · refine Or.inl ?_
      apply Classical.byContradiction
      intro hcf
      obtain ⟨w, w1, w2, w3, w4⟩ := vec f f1 f2 f3
      obtain ⟨z, hz⟩ := hu.2.2.2 w w1 w2
      have e1 := hz c hc
      rw [w4 c hc hcf q] at e1
      have pc := hu.2.2.1 c hc hb
      rcases Int.mul_eq_zero.mp e1.symm with y | y
      · have := hz f f1
        rw [y, Int.zero_mul] at this
        exact w3 this
      · omega⟩
  refine ⟨f, hf, fun i hi => ?_⟩
  have hd := hk i (by have := e.dn; omega)
  rw [yS_row hK h hf hi] at hd
  have a0 := e.nz i hi
  have p1 := hu.2.2.1 (p i) (e.pk i hi) (yS_piv hK h ⟨i, hi, rfl⟩)
  have p2 := hu.2.2.1 f f1 f2
  generalize m i (p i) = a at hd a0
  generalize m i f = b at hd
  rcases Int.lt_trichotomy a 0 with q | q | q
  · have h1 : a * u (p i) < 0 := Int.mul_neg_of_neg_of_pos q p1
    have h2 : 0 < b := by
      rcases Int.lt_trichotomy b 0 with y | y | y
      · have : b * u f < 0 := Int.mul_neg_of_neg_of_pos y p2
        omega
      · rw [y, Int.zero_mul] at hd; omega
      · exact y
    exact ⟨by omega, by omega⟩
  · exact absurd q a0
  · have h1 : 0 < a * u (p i) := Int.mul_pos q p1
    have h2 : b < 0 := by
      rcases Int.lt_trichotomy b 0 with y | y | y
      · exact y
      · rw [y, Int.zero_mul] at hd; omega
      · have : 0 < b * u f := Int.mul_pos y p2
        omega
    exact ⟨by omega, by omega⟩
def yne (a b : Int) : Nat := a.natAbs / Int.gcd a b
theorem yne_dvd {a b x y : Int} (ha : a ≠ 0) (h : a * x + b * y = 0) : (yne a b : Int) ∣ y := by
  have g0 : 0 < Int.gcd a b := Nat.pos_of_ne_zero (fun q => ha (Int.gcd_eq_zero_iff.mp q).1)
  have co := Int.gcd_ediv_gcd_ediv_gcd (i := a) (j := b) g0
  have ea := Int.ediv_mul_cancel (Int.gcd_dvd_left a b)
  have eb := Int.ediv_mul_cancel (Int.gcd_dvd_right a b)
  have en : (a / (Int.gcd a b : Int)).natAbs = yne a b := by
    unfold yne
    rw [Int.natAbs_ediv_of_dvd (Int.gcd_dvd_left a b)]
    rfl
  rw [← Int.natAbs_dvd_natAbs, Int.natAbs_natCast, ← en, Int.natAbs_dvd_natAbs]
  have gz : (Int.gcd a b : Int) ≠ 0 := by omega
  generalize (Int.gcd a b : Int) = g at co ea eb gz
  generalize a / g = a' at co ea
  generalize b / g = b' at co eb
  have h1 : g * (a' * x + b' * y) = 0 := by grind
  have h2 := y_mul0 gz h1
  refine y_cop co (b := b') ⟨-x, ?_⟩
  have : b' * y = -(a' * x) := by omega
  rw [this]
  grind
theorem yne_mul {a b U : Int} (ha : a ≠ 0) (h : (yne a b : Int) ∣ U) : a ∣ U * b := by
  have ea : (yne a b) * Int.gcd a b = a.natAbs := Nat.div_mul_cancel (Int.natAbs_dvd_natAbs.mpr (Int.gcd_dvd_left a b))
  rw [← Int.natAbs_dvd_natAbs, ← ea, Int.natAbs_mul]
  refine Nat.mul_dvd_mul ?_ ?_
  · rw [← Int.natAbs_dvd_natAbs, Int.natAbs_natCast] at h
    exact h
  · have := Int.gcd_dvd_right a b
    rw [← Int.natAbs_dvd_natAbs, Int.natAbs_natCast] at this
    exact this
theorem yne_pos {a b : Int} (ha : a ≠ 0) : 0 < yne a b := by
  have g0 : 0 < Int.gcd a b := Nat.pos_of_ne_zero (fun q => ha (Int.gcd_eq_zero_iff.mp q).1)
  have ea : (yne a b) * Int.gcd a b = a.natAbs := Nat.div_mul_cancel (Int.natAbs_dvd_natAbs.mpr (Int.gcd_dvd_left a b))
  apply Nat.pos_of_ne_zero
  intro q
  rw [q, Nat.zero_mul] at ea
  omega
def ylc (m : Nat → Nat → Int) (p : Nat → Nat) (f : Nat) : Nat → Nat
  | 0 => 1
  | i + 1 => Nat.lcm (ylc m p f i) (yne (m i (p i)) (m i f))
theorem ylc_in {f i : Nat} : ∀ k, i < k → yne (m i (p i)) (m i f) ∣ ylc m p f k
  | 0, h => by omega
  | k + 1, h => by
    by_cases e : i = k
    · rw [e]; exact Nat.dvd_lcm_right _ _
    · exact Nat.dvd_trans (ylc_in k (by omega)) (Nat.dvd_lcm_left _ _)
theorem ylc_dv {f x : Nat} : ∀ k, (∀ i, i < k → yne (m i (p i)) (m i f) ∣ x) → ylc m p f k ∣ x
  | 0, _ => Nat.one_dvd _
  | k + 1, h => Nat.lcm_dvd (ylc_dv k (fun i hi => h i (by omega))) (h k (by omega))
theorem ylc_pos {f : Nat} : ∀ k, (∀ i, i < k → m i (p i) ≠ 0) → 0 < ylc m p f k
  | 0, _ => Nat.one_pos
  | k + 1, h => Nat.lcm_pos (ylc_pos k (fun i hi => h i (by omega))) (yne_pos (h k (by omega)))
/-- the weights that the check leaves -/
def yIsW (m : Nat → Nat → Int) (p : Nat → Nat) (d f : Nat) (w : Nat → Int) : Prop := w f = ylc m p f d ∧ (∀ i, i < d → w (p i) = (-(ylc m p f d : Int) * m i f).tdiv (m i (p i))) ∧ ∀ c, c < 7 → c ≠ f → ¬ yPv d p c → w c = 0
theorem yS_A (hK : yKo K) (h : yStg T (yKS K S) n d 7 m s p) {f : Nat} (hf : yOf S d p f) (ho : ∀ i, i < d → yOp (m i (p i)) (m i f)) {w : Nat → Int} (hw : yIsW m p d f w) : yWv K S w := by
  obtain ⟨w1, w2, w3⟩ := hw
  have e := h.1
  have hn := e.dn
  have up := ylc_pos (m := m) (p := p) (f := f) d e.nz
  generalize hU : (ylc m p f d : Int) = U at w1 w2
  have U0 : 0 < U := by omega
  have ow : ∀ i, i < d → m i (p i) * w (p i) = -U * m i f := fun i hi => by
    rw [w2 i hi]
    refine Int.mul_tdiv_cancel' (yne_mul (e.nz i hi) ?_)
    have := ylc_in (m := m) (p := p) (f := f) d hi
    rw [Int.dvd_neg, ← hU]
    exact Int.natCast_dvd_natCast.mpr this
  have ws : ∀ c, c < 7 → ¬ S.testBit c = true → w c = 0 := fun c hc hb => w3 c hc (fun q => hb (by rw [q]; exact hf.2.1)) (fun q => hb (yS_piv hK h q))
  refine ⟨(yS_ker hK h ws).mpr (fun i hi => ?_), ws, fun c hc hb => ?_, fun v hv vs => ?_⟩
  · rcases Nat.lt_or_ge i d with hd | hd
    · rw [yS_row hK h hf hd, ow i hd, w1]
      grind
    · exact ysm_zero (fun c hc => by rw [e.ze i c hd hi hc, Int.zero_mul])
  · rcases hf.2.2.2 c hc hb with z | ⟨i, hi, rfl⟩
    · rw [z, w1]; exact U0
    · have h1 := ow i hi
      obtain ⟨o1, o2⟩ := ho i hi
      have o3 := e.nz i hi
      generalize m i (p i) = a at h1 o2 o3
      generalize m i f = b at h1 o1 o2
      generalize w (p i) = y at h1 ⊢
      rcases Int.lt_trichotomy y 0 with q | q | q
      · rcases Int.lt_trichotomy a 0 with z | z | z
        · have h2 : 0 < a * y := Int.mul_pos_of_neg_of_neg z q
          have h3 : 0 < U * b := Int.mul_pos U0 (by omega)
          have h4 : -U * b = -(U * b) := Int.neg_mul _ _
          omega
        · exact absurd z o3
        · have h2 : a * y < 0 := Int.mul_neg_of_pos_of_neg z q
          have h3 : U * b < 0 := Int.mul_neg_of_pos_of_neg U0 (by omega)
          have h4 : -U * b = -(U * b) := Int.neg_mul _ _
          omega
      · rw [q, Int.mul_zero] at h1
        rcases Int.mul_eq_zero.mp h1.symm with z | z
        · omega
        · exact absurd z o1
      · exact q
  · have hk := (yS_ker hK h vs).mp hv
    have rw1 : ∀ i, i < d → m i (p i) * v (p i) + m i f * v f = 0 := fun i hi => by
      rw [← yS_row hK h hf hi]
      exact hk i (by omega)
    have dv : U ∣ v f := by
      rw [← hU, ← Int.natAbs_dvd_natAbs, Int.natAbs_natCast]
      refine ylc_dv d (fun i hi => ?_)
      have := yne_dvd (e.nz i hi) (rw1 i hi)
      rw [← Int.natAbs_dvd_natAbs, Int.natAbs_natCast] at this
      exact this
    obtain ⟨z, hz⟩ := dv
    refine ⟨z, fun c hc => ?_⟩
    by_cases hb : S.testBit c = true
    · rcases hf.2.2.2 c hc hb with q | ⟨i, hi, rfl⟩
      · rw [q, w1, hz, Int.mul_comm]
      · have h1 := ow i hi
        have h2 := rw1 i hi
        have h3 : m i (p i) * (v (p i) - z * w (p i)) = 0 := by
          rw [hz] at h2
          grind
        have := y_mul0 (e.nz i hi) h3
        omega
    · rw [vs c hc hb, ws c hc hb, Int.mul_zero]
/-- a small vector of a line -/
theorem yS_C {M : Nat → Nat → Int} (h : yStg yT4 (yKS (yKm M n) S) n d 7 m s p) {f : Nat} (hf : yOf S d p f) : ∃ v : Nat → Int, yKm M n v ∧ (∀ c, c < 7 → ¬ S.testBit c = true → v c = 0) ∧ v f ≠ 0 ∧ ∀ c, c < 7 → (v c).natAbs ≤ 28 ^ 6 := by
  have hK := yKm_o M n
  have h0 := h
  obtain ⟨e, hJ, hI, hP, hKK, hS, hT⟩ := h
  have hn := e.dn
  have d6 : d ≤ 6 := by
    have h1 := ycn_piv 7 d e.up e.pk
    have h2 := ycn_lt (p := yPv d p) (q := fun _ => True) 7 (fun _ _ _ => trivial) ⟨f, hf.1, trivial, hf.2.2.1⟩
    have h3 := ycn_le (fun _ => True) 7
    omega
  let ci : Nat → Nat := fun i => if i < d then p i else f
  have c1 : ∀ i, i < d → ci i = p i := fun i hi => if_pos hi
  have c2 : ci d = f := if_neg (Nat.lt_irrefl d)
  have c7 : ∀ i, i < d + 1 → ci i < 7 := fun i hi => by
    show (if i < d then p i else f) < 7
    split
    · rename_i q; exact e.pk i q
    · exact hf.1
  have cj : ∀ i j, i < j → j < d + 1 → ci i ≠ ci j := fun i j hij hj => by
    rw [c1 i (by omega)]
    by_cases q : j = d
    · rw [q, c2]; exact fun z => hf.2.2.1 ⟨i, by omega, z⟩
    · rw [c1 j (by omega)]
      have := e.up i j hij (by omega)
      omega
  obtain ⟨x, x1, x2, x3⟩ := y_siegel (k := d) (u := fun i q => s q (ci i)) (cs := List.range d) (fun i q hi hq => hT q (by have := List.mem_range.mp hq; omega) _ (c7 i (by omega))) (by rw [List.length_range]; exact Nat.le_refl d)
  let v : Nat → Int := fun c => ysm (fun i => if ci i = c then x i else 0) (d + 1)
  have v1 : ∀ i, i < d + 1 → v (ci i) = x i := fun i hi => by
    show ysm (fun j => if ci j = ci i then x j else 0) (d + 1) = x i
    rw [ysm_one (f := fun j => if ci j = ci i then x j else 0) hi (fun j hj hji => if_neg (fun q => by
      rcases Nat.lt_or_ge i j with z | z
      · exact cj i j z hj q.symm
      · exact cj j i (by omega) hi q)), if_pos rfl]
  have v0 : ∀ c, (∀ i, i < d + 1 → ci i ≠ c) → v c = 0 := fun c hc => ysm_zero (fun i hi => if_neg (hc i hi))
  have vs : ∀ c, c < 7 → ¬ S.testBit c = true → v c = 0 := fun c hc hb => v0 c (fun i hi q => by
    by_cases z : i = d
    · rw [z, c2] at q; exact hb (by rw [← q]; exact hf.2.1)
    · rw [c1 i (by omega)] at q; exact hb (yS_piv hK h0 ⟨i, by omega, q⟩))
  have ds : ∀ q, q < d → ydt (s q) v = 0 := fun q hq => by
    unfold ydt
    rw [ysm_re (f := ci) (d + 1) (fun c => s q c * v c) c7 cj (fun c hc hcc => by rw [v0 c hcc, Int.mul_zero])]
    rw [← x2 q (List.mem_range.mpr hq)]
    exact ysm_ext (fun i hi => by rw [v1 i hi, Int.mul_comm])
  have dm : yKm m n v := fun i hi => by
    rcases Nat.lt_or_ge i d with hd | hd
    · obtain ⟨l, u, y, l1, -, u2, l2⟩ := hJ i hi
      have h1 : l * ydt (m i) v = u * ydt (s i) v + 1 * ydt (fun c => ysm (fun q => y q * s q c) d) v := ydt_lin (fun c hc => by rw [l2 c hc]; omega)
      rw [u2 hd, ydt_ysm, ysm_zero (f := fun q => y q * ydt (s q) v) (fun q hq => by rw [ds q hq, Int.mul_zero])] at h1
      exact y_mul0 l1 (by simpa using h1)
    · exact ysm_zero (fun c hc => by rw [e.ze i c hd hi hc, Int.zero_mul])
  refine ⟨v, (yS_ker hK h0 vs).mpr dm, vs, fun q => ?_, fun c hc => ?_⟩
  · obtain ⟨i, hi, hx⟩ := x1
    apply hx
    rw [← v1 i (by omega)]
    by_cases z : i = d
    · rw [z, c2]; exact q
    · have h1 := dm i (by omega)
      rw [yS_row hK h0 hf (by omega), q, Int.mul_zero, Int.add_zero] at h1
      rw [c1 i (by omega)]
      exact y_mul0 (e.nz i (by omega)) h1
  · have bd : ∀ i, i < d + 1 → (x i).natAbs ≤ 28 ^ 6 := fun i hi => Nat.le_trans (x3 i (by omega)) (by
      have key : ∀ d, d ≤ 6 → (4 * (d + 1)) ^ d ≤ 28 ^ 6 := by decide
      exact key d d6)
    by_cases q : ∃ i, i < d + 1 ∧ ci i = c
    · obtain ⟨i, hi, rfl⟩ := q
      rw [v1 i hi]; exact bd i hi
    · rw [v0 c (fun i hi z => q ⟨i, hi, z⟩)]; decide
end YSU

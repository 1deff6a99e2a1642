/-! No row grows: bounds of the elimination. -/
section YBO
theorem y_cop {a b c : Int} (hg : Int.gcd a b = 1) (h : a ∣ b * c) : a ∣ c := by
  rw [← Int.natAbs_dvd_natAbs] at h ⊢
  rw [Int.natAbs_mul] at h
  exact Nat.Coprime.dvd_of_dvd_mul_left hg h
theorem y_par {m V : Nat → Int} {a b : Int} (ha : a ≠ 0) (hb : b ≠ 0) (h : ∀ c, c < 7 → a * m c = b * V c) (hm : yPr m) : ∀ c, c < 7 → (m c).natAbs ≤ (V c).natAbs := by
  have g0 : 0 < Int.gcd a b := Nat.pos_of_ne_zero (fun q => ha (Int.gcd_eq_zero_iff.mp q).1)
  have co := Int.gcd_ediv_gcd_ediv_gcd (i := a) (j := b) g0
  have ea := Int.ediv_mul_cancel (Int.gcd_dvd_left a b)
  have eb := Int.ediv_mul_cancel (Int.gcd_dvd_right a b)
  generalize hg : (Int.gcd a b : Int) = g at co ea eb
  generalize ha' : a / g = a' at co ea
  generalize hb' : b / g = b' at co eb
  have gz : g ≠ 0 := by omega
  have e : ∀ c, c < 7 → a' * m c = b' * V c := fun c hc => by
    have h1 := h c hc
    have h2 : g * (a' * m c - b' * V c) = 0 := by grind
    have h3 := y_mul0 gz h2
    omega
  have b1 : b' ∣ 1 := hm b' (fun c hc => y_cop (b := a') (by rw [Int.gcd_comm]; exact co) (by rw [e c hc]; exact Int.dvd_mul_right _ _))
  have b2 : b'.natAbs = 1 := by
    rw [← Int.natAbs_dvd_natAbs] at b1
    exact Nat.dvd_one.mp b1
  have a1 : 0 < a'.natAbs := by
    apply Nat.pos_of_ne_zero
    intro q
    have q : a' = 0 := Int.natAbs_eq_zero.mp q
    rw [q, Int.zero_mul] at ea
    exact ha ea.symm
  intro c hc
  have h1 := congrArg Int.natAbs (e c hc)
  rw [Int.natAbs_mul, Int.natAbs_mul, b2, Nat.one_mul] at h1
  rw [← h1]
  exact Nat.le_mul_of_pos_left _ a1
variable {T K : (Nat → Int) → Prop} {n d k : Nat} {m s : Nat → Nat → Int} {p : Nat → Nat}
theorem yEc.d7 (e : yEc n d k m p) : d ≤ k := by
  have h1 := ycn_piv k d e.up e.pk
  have h2 := ycn_le (yPv d p) k
  omega
theorem y_pnd (e : yEc n d k m p) (l : List Nat) (hl : l.Nodup) (hd : ∀ i ∈ l, i < d) : (l.map p).Nodup := by
  unfold List.Nodup
  rw [List.pairwise_map]
  refine List.Pairwise.imp_of_mem (fun {a b} ha hb hab => ?_) hl
  exact fun q => hab (e.inj (hd a ha) (hd b hb) q)
theorem yStg_bd (h : yStg T K n d k m s p) (hk : k ≤ 7) (hSP : ySP T) (hT4 : ∀ v, T v → ∀ c, c < 7 → (v c).natAbs ≤ 24 ^ 6) : ∀ j c, j < n → c < 7 → (m j c).natAbs ≤ 24 ^ 6 := by
  obtain ⟨e, hJ, hI, hP, hK, hS, hT⟩ := h
  intro j c hj hc
  have dk := e.d7
  have p7 : ∀ i, i < d → p i < 7 := fun i hi => by have := e.pk i hi; omega
  rcases hP j hj with pr | z | z
  · obtain ⟨l, u, y, l1, u1, u2, l2⟩ := hJ j hj
    rcases Nat.lt_or_ge j d with hjd | hjd
    · have hu : u = 0 := u2 hjd
      have nd : ((List.range d).erase j).Nodup := List.nodup_range.erase j
      have mem : ∀ i, i ∈ (List.range d).erase j ↔ i ≠ j ∧ i < d := fun i => by
        rw [List.Nodup.mem_erase_iff List.nodup_range, List.mem_range]
      have len : (((List.range d).erase j).map p).length = d - 1 := by
        rw [List.length_map, List.length_erase_of_mem (List.mem_range.mpr hjd), List.length_range]
      obtain ⟨x, t, V, t0, x0, xV, V0, VH⟩ := hSP (d - 1) s (((List.range d).erase j).map p) (by omega) (fun i hi => hT i (by have := e.dn; omega)) (y_pnd e _ nd (fun i hi => ((mem i).mp hi).2)) len (fun c hc => by
        obtain ⟨i, hi, rfl⟩ := List.mem_map.mp hc
        exact p7 i ((mem i).mp hi).2)
      rw [show d - 1 + 1 = d by omega] at xV
      have V0' : ∀ i, i < d → i ≠ j → V (p i) = 0 := fun i hi hij => V0 _ (List.mem_map.mpr ⟨i, (mem i).mpr ⟨hij, hi⟩, rfl⟩)
      have Vj : V (p j) ≠ 0 := by
        intro q
        obtain ⟨i, hi, hx⟩ := x0
        refine hx (hI x (fun a ha => ?_) i (by omega))
        rw [← xV _ (p7 a ha)]
        by_cases q2 : a = j
        · rw [q2, q, Int.mul_zero]
        · rw [V0' a ha q2, Int.mul_zero]
      have l2' : ∀ c, c < 7 → l * m j c = ysm (fun q => y q * s q c) d := fun c hc => by rw [l2 c hc, hu, Int.zero_mul, Int.zero_add]
      have zz := hI (fun q => V (p j) * t * y q - l * m j (p j) * x q) (fun i hi => by
        have f := ysm_lin (V (p j) * t) (-(l * m j (p j))) (fun q => y q * s q (p i)) (fun q => x q * s q (p i)) d
        rw [ysm_ext (g := fun q => V (p j) * t * (y q * s q (p i)) + -(l * m j (p j)) * (x q * s q (p i))) (fun q _ => by grind), ← f, ← l2' _ (p7 i hi), ← xV _ (p7 i hi)]
        by_cases q2 : i = j
        · rw [q2]; grind
        · rw [V0' i hi q2, e.al i j hi hj (fun z => q2 z.symm)]; simp)
      have fin : ∀ c, c < 7 → V (p j) * t * l * m j c = l * m j (p j) * t * V c := fun c hc => by
        have f := ysm_lin (V (p j) * t) (-(l * m j (p j))) (fun q => y q * s q c) (fun q => x q * s q c) d
        rw [ysm_zero (f := fun i => V (p j) * t * (y i * s i c) + -(l * m j (p j)) * (x i * s i c)) (fun q hq => by
          have := zz q hq
          have e9 : V (p j) * t * (y q * s q c) + -(l * m j (p j)) * (x q * s q c) = (V (p j) * t * y q - l * m j (p j) * x q) * s q c := by grind
          rw [e9, this, Int.zero_mul]), ← l2' c hc, ← xV c hc] at f
        grind
      exact Nat.le_trans (y_par (Int.mul_ne_zero (Int.mul_ne_zero Vj t0) l1) (Int.mul_ne_zero (Int.mul_ne_zero l1 (e.nz j hjd)) t0) fin pr c hc) (VH c hc)
    · have hu := u1 hjd
      rcases Nat.lt_or_ge d 7 with d7 | d7
      · have nd : (List.range d).Nodup := List.nodup_range
        obtain ⟨x, t, V, t0, x0, xV, V0, VH⟩ := hSP d (fun q => if q < d then s q else s j) ((List.range d).map p) (by omega) (fun i hi => by
          show T (if i < d then s i else s j)
          split
          · exact hT i (by omega)
          · exact hT j hj) (y_pnd e _ nd (fun i hi => List.mem_range.mp hi)) (by rw [List.length_map, List.length_range]) (fun c hc => by
          obtain ⟨i, hi, rfl⟩ := List.mem_map.mp hc
          exact p7 i (List.mem_range.mp hi))
        have V0' : ∀ i, i < d → V (p i) = 0 := fun i hi => V0 _ (List.mem_map.mpr ⟨i, List.mem_range.mpr hi, rfl⟩)
        have xV' : ∀ c, c < 7 → t * V c = ysm (fun q => x q * s q c) d + x d * s j c := fun c hc => by
          rw [xV c hc]
          show ysm (fun i => x i * (if i < d then s i else s j) c) d + x d * (if d < d then s d else s j) c = _
          rw [if_neg (Nat.lt_irrefl d), ysm_ext (f := fun i => x i * (if i < d then s i else s j) c) (g := fun q => x q * s q c) (fun i hi => by rw [if_pos hi])]
        have xd : x d ≠ 0 := by
          intro q
          obtain ⟨i, hi, hx⟩ := x0
          have all := hI x (fun a ha => by
            have := xV' _ (p7 a ha)
            rw [V0' a ha, q, Int.zero_mul, Int.mul_zero, Int.add_zero] at this
            exact this.symm)
          rcases Nat.lt_or_ge i d with z | z
          · exact hx (all i z)
          · rw [show i = d by omega] at hx; exact hx q
        have zz := hI (fun q => x d * y q - u * x q) (fun i hi => by
          have f := ysm_lin (x d) (-u) (fun q => y q * s q (p i)) (fun q => x q * s q (p i)) d
          rw [ysm_ext (g := fun q => x d * (y q * s q (p i)) + -u * (x q * s q (p i))) (fun q _ => by grind), ← f]
          have f1 := l2 _ (p7 i hi)
          have f2 := xV' _ (p7 i hi)
          rw [e.al i j hi hj (by omega), Int.mul_zero] at f1
          rw [V0' i hi, Int.mul_zero] at f2
          grind)
        have fin : ∀ c, c < 7 → x d * l * m j c = u * t * V c := fun c hc => by
          have f := ysm_lin (x d) (-u) (fun q => y q * s q c) (fun q => x q * s q c) d
          rw [ysm_zero (f := fun i => x d * (y i * s i c) + -u * (x i * s i c)) (fun q hq => by
            have := zz q hq
            have e9 : x d * (y q * s q c) + -u * (x q * s q c) = (x d * y q - u * x q) * s q c := by grind
            rw [e9, this, Int.zero_mul])] at f
          have f1 := l2 c hc
          have f2 := xV' c hc
          grind
        exact Nat.le_trans (y_par (Int.mul_ne_zero xd l1) (Int.mul_ne_zero hu t0) fin pr c hc) (VH c hc)
      · rw [e.ze j c hjd hj (by omega)]
        decide
  · rw [z c hc]; decide
  · rw [z c hc]; exact hT4 _ (hT j hj) c hc
/-! Common divisors of a row. -/
def ygc (x : Nat → Int) : Nat → Nat
  | 0 => 0
  | n + 1 => Int.gcd (ygc x n) (x n)
theorem ygc_dvd {x : Nat → Int} {c : Nat} : ∀ n, c < n → (ygc x n : Int) ∣ x c
  | 0, h => by omega
  | n + 1, h => by
    show (Int.gcd (ygc x n) (x n) : Int) ∣ x c
    by_cases e : c = n
    · rw [e]; exact Int.gcd_dvd_right _ _
    · exact Int.dvd_trans (Int.gcd_dvd_left _ _) (ygc_dvd n (by omega))
theorem ygc_max {x : Nat → Int} {g : Int} : ∀ n, (∀ c, c < n → g ∣ x c) → g ∣ (ygc x n : Int)
  | 0, _ => Int.dvd_zero g
  | n + 1, h => Int.dvd_coe_gcd (ygc_max n (fun c hc => h c (by omega))) (h n (by omega))
def yrw (x : Nat → Int) (c : Nat) : Int := if 1 < ygc x 7 then (x c).tdiv (ygc x 7) else x c
theorem yStk_rw {j : Nat} {x : Nat → Int} (hj : m j k ≠ 0) (hx : ∀ c, c < 7 → x c = m j c * m d k - m d c * m j k) : yStk m d k j (yrw x) := by
  refine Or.inr ⟨hj, ?_⟩
  by_cases h : 1 < ygc x 7
  · have ev : ∀ c, c < 7 → (ygc x 7 : Int) * yrw x c = x c := fun c hc => by
      unfold yrw
      rw [if_pos h]
      exact Int.mul_tdiv_cancel' (ygc_dvd 7 hc)
    refine ⟨⟨ygc x 7, by omega, fun c hc => by rw [ev c hc, hx c hc]⟩, Or.inl (fun g hg => ?_)⟩
    have h1 : (ygc x 7 : Int) * g ∣ (ygc x 7 : Int) * 1 := by
      rw [Int.mul_one]
      exact ygc_max 7 (fun c hc => by rw [← ev c hc]; exact Int.mul_dvd_mul_left _ (hg c hc))
    exact Int.dvd_of_mul_dvd_mul_left (by omega) h1
  · have ev : ∀ c, yrw x c = x c := fun c => by
      unfold yrw
      rw [if_neg h]
    refine ⟨⟨1, by decide, fun c hc => by rw [ev, hx c hc, Int.one_mul]⟩, ?_⟩
    by_cases h0 : ygc x 7 = 0
    · refine Or.inr (fun c hc => ?_)
      have := ygc_dvd (x := x) 7 hc
      rw [h0] at this
      rw [ev]
      exact Int.zero_dvd.mp this
    · refine Or.inl (fun g hg => ?_)
      have h1 := ygc_max (x := x) 7 (fun c hc => by rw [← ev]; exact hg c hc)
      rw [show ygc x 7 = 1 by omega] at h1
      exact h1
/-- from every start the elimination ends -/
theorem yStg_ex {M : Nat → Nat → Int} (hK : ∀ w, yKm M n w ↔ K w) (hT : ∀ i, i < n → T (M i)) : ∀ k, k ≤ 7 → ∃ d m s p, yStg T K n d k m s p
  | 0, _ => ⟨0, M, M, fun _ => 0, yStg_0 hK hT⟩
  | k + 1, hk => by
    obtain ⟨d, m, s, p, h⟩ := yStg_ex hK hT k (by omega)
    by_cases hz : ∀ j, d ≤ j → j < n → m j k = 0
    · exact ⟨d, m, s, p, yStg_skip h hz⟩
    · have : ∃ j, d ≤ j ∧ j < n ∧ m j k ≠ 0 := Classical.byContradiction (fun q => hz (fun j h1 h2 => Classical.byContradiction (fun q2 => q ⟨j, h1, h2, q2⟩)))
      obtain ⟨i, i1, i2, i3⟩ := this
      have h2 := yStg_swap h i1 i2
      have hd : (fun j => m (ysw i d j)) d k ≠ 0 := by
        show m (ysw i d d) k ≠ 0
        rw [ysw_r]; exact i3
      let m1 : Nat → Nat → Int := fun j => m (ysw i d j)
      let m2 : Nat → Nat → Int := fun j => if j = d then m1 d else if m1 j k = 0 then m1 j else yrw (fun c => m1 j c * m1 d k - m1 d c * m1 j k)
      refine ⟨d + 1, m2, _, _, yStg_piv h2 (by omega) (by omega) hd (m' := m2) (fun c _ => ?_) (fun j hj hjd => ?_)⟩
      · show (if d = d then m1 d else _) c = m1 d c
        rw [if_pos rfl]
      · show yStk m1 d k j (if j = d then m1 d else if m1 j k = 0 then m1 j else yrw (fun c => m1 j c * m1 d k - m1 d c * m1 j k))
        rw [if_neg hjd]
        split
        · rename_i z
          exact Or.inl ⟨z, fun _ _ => rfl⟩
        · rename_i z
          exact yStk_rw z (fun _ _ => rfl)
end YBO

/-! Columns masked; reduced rows masked are small too. -/
section YMK
def yms (S : Nat) (v : Nat → Int) : Nat → Int := fun c => if S.testBit c = true then v c else 0
theorem yms_y {S c : Nat} {v : Nat → Int} (h : S.testBit c = true) : yms S v c = v c := if_pos h
theorem yms_n {S c : Nat} {v : Nat → Int} (h : ¬ S.testBit c = true) : yms S v c = 0 := if_neg h
theorem ydt_ms {S : Nat} {v w : Nat → Int} : ydt (yms S v) w = ydt v (yms S w) := ysm_ext (fun c _ => by
  by_cases h : S.testBit c = true
  · rw [yms_y h, yms_y h]
  · rw [yms_n h, yms_n h]; simp)
theorem ydt_ysm {s : Nat → Nat → Int} {y w : Nat → Int} {d : Nat} : ydt (fun c => ysm (fun q => y q * s q c) d) w = ysm (fun q => y q * ydt (s q) w) d := by
  unfold ydt
  rw [ysm_ext (f := fun c => ysm (fun q => y q * s q c) d * w c) (g := fun c => ysm (fun q => y q * (s q c * w c)) d) (fun c _ => by
    rw [Int.mul_comm, ysm_mul]
    exact ysm_ext (fun q _ => by grind)), ysm_swap]
  exact ysm_ext (fun q _ => (ysm_mul _ _ _).symm)
theorem ysm_re {d : Nat} {f : Nat → Nat} : ∀ (k : Nat) (g : Nat → Int), (∀ i, i < k → f i < d) → (∀ i j, i < j → j < k → f i ≠ f j) → (∀ q, q < d → (∀ i, i < k → f i ≠ q) → g q = 0) → ysm g d = ysm (fun i => g (f i)) k
  | 0, g, _, _, h => ysm_zero (fun q hq => h q hq (fun i hi => by omega))
  | k + 1, g, h1, h2, h3 => by
    have ih := ysm_re k (fun q => if q = f k then 0 else g q) (fun i hi => h1 i (by omega)) (fun i j hij hj => h2 i j hij (by omega)) (fun q hq hn => by
      show (if q = f k then 0 else g q) = 0
      split
      · rfl
      · rename_i e
        exact h3 q hq (fun i hi => by
          by_cases e2 : i = k
          · rw [e2]; exact fun z => e z.symm
          · exact hn i (by omega)))
    rw [ysm_ext (f := fun i => (fun q => if q = f k then 0 else g q) (f i)) (g := fun i => g (f i)) (fun i hi => if_neg (h2 i k hi (by omega)))] at ih
    show ysm g d = ysm (fun i => g (f i)) k + g (f k)
    rw [← ih]
    have e := ysm_lin 1 1 (fun q => if q = f k then 0 else g q) (fun q => if q = f k then g q else 0) d
    rw [ysm_one (f := fun q => if q = f k then g q else 0) (a := f k) (h1 k (by omega)) (fun i _ hn => if_neg hn), if_pos rfl, Int.one_mul, Int.one_mul] at e
    rw [e]
    refine ysm_ext (fun q _ => ?_)
    by_cases z : q = f k
    · rw [if_pos z, if_pos z]; omega
    · rw [if_neg z, if_neg z]; omega
variable {T K : (Nat → Int) → Prop} {n d k : Nat} {m s : Nat → Nat → Int} {p : Nat → Nat}
/-- a combination of the start's rows is one of the reduced rows, by its pivots -/
theorem yStg_span (h : yStg T K n d 7 m s p) (y : Nat → Int) : ∃ (L : Int) (z : Nat → Int), L ≠ 0 ∧ (∀ c, c < 7 → L * ysm (fun q => y q * s q c) d = ysm (fun q => z q * m q c) d) ∧ ∀ q, q < d → ysm (fun r => y r * s r (p q)) d = 0 → z q = 0 := by
  obtain ⟨e, hJ, hI, hP, hK, hS, hT⟩ := h
  obtain ⟨L, L1, L2⟩ := y_comdiv (fun i => m i (p i)) d e.nz
  let V : Nat → Int := fun c => ysm (fun q => y q * s q c) d
  let z : Nat → Int := fun q => V (p q) * (L / m q (p q))
  have zp : ∀ q, q < d → z q * m q (p q) = L * V (p q) := fun q hq => by
    have e2 : m q (p q) * (L / m q (p q)) = L := Int.mul_ediv_cancel' (L2 q hq)
    show V (p q) * (L / m q (p q)) * m q (p q) = _
    grind
  let W : Nat → Int := fun c => L * V c - ysm (fun q => z q * m q c) d
  have Wp : ∀ i, i < d → W (p i) = 0 := fun i hi => by
    show L * V (p i) - ysm (fun q => z q * m q (p i)) d = 0
    rw [ysm_one hi (fun q hq hqi => by rw [e.al i q hi (by have := e.dn; omega) hqi, Int.mul_zero]), zp i hi]
    omega
  have Wz : ∀ c, c < 7 → W c = 0 := by
    intro c hc
    by_cases hp : yPv d p c
    · obtain ⟨i, hi, rfl⟩ := hp
      exact Wp i hi
    · obtain ⟨w, w1, w2, -, w4⟩ := yEc_free e hc hp
      have hs := (hS w).mpr ((hK w).mp w1)
      have d1 : ydt V w = 0 := by
        rw [show ydt V w = ysm (fun q => y q * ydt (s q) w) d from ydt_ysm]
        exact ysm_zero (fun q hq => by rw [hs q (by have := e.dn; omega), Int.mul_zero])
      have d2 : ydt (fun c => ysm (fun q => z q * m q c) d) w = 0 := by
        rw [ydt_ysm]
        exact ysm_zero (fun q hq => by rw [w1 q (by have := e.dn; omega), Int.mul_zero])
      have d3 : 1 * ydt W w = L * ydt V w + -1 * ydt (fun c => ysm (fun q => z q * m q c) d) w := ydt_lin (fun c _ => by
        show 1 * (L * V c - ysm (fun q => z q * m q c) d) = _
        omega)
      rw [d1, d2] at d3
      have d4 : ydt W w = W c * w c := by
        unfold ydt
        exact ysm_one hc (fun x hx hxc => by
          by_cases hp2 : yPv d p x
          · obtain ⟨i, hi, rfl⟩ := hp2
            rw [Wp i hi, Int.zero_mul]
          · rw [w4 x hx hxc hp2, Int.mul_zero])
      rw [d4] at d3
      have d5 : W c * w c = 0 := by simpa using d3
      rcases Int.mul_eq_zero.mp d5 with q | q
      · exact q
      · exact absurd q w2
  refine ⟨L, z, L1, fun c hc => ?_, fun q hq h0 => ?_⟩
  · have := Wz c hc
    have this : L * V c - ysm (fun q => z q * m q c) d = 0 := this
    show L * V c = _
    omega
  · show V (p q) * (L / m q (p q)) = 0
    rw [show V (p q) = 0 from h0, Int.zero_mul]
def yTR (m : Nat → Nat → Int) (d S : Nat) (v : Nat → Int) : Prop := ∃ q, q < d ∧ ∀ c, c < 7 → v c = yms S (m q) c
theorem yT4_H (v : Nat → Int) (h : yT4 v) (c : Nat) (hc : c < 7) : (v c).natAbs ≤ 24 ^ 6 := Nat.le_trans (h c hc) (by decide)
theorem yTR_H (h : yStg yT4 K n d 7 m s p) (S : Nat) (v : Nat → Int) (hv : yTR m d S v) (c : Nat) (hc : c < 7) : (v c).natAbs ≤ 24 ^ 6 := by
  obtain ⟨q, q1, q2⟩ := hv
  rw [q2 c hc]
  unfold yms
  split
  · exact yStg_bd h (Nat.le_refl 7) ySP_4 yT4_H q c (by have := h.1.dn; omega) hc
  · decide
theorem ySP_msk (h : yStg yT4 K n d 7 m s p) (S : Nat) : ySP (yTR m d S) := by
  intro k u cs hk hu hnd hcs h7
  have h0 := h
  obtain ⟨e, hJ, hI, hP, hK, hS, hT⟩ := h
  have d7 := e.d7
  -- the rows' numbers
  let f : Nat → Nat := fun i => @dite Nat (i ≤ k) (Classical.propDecidable _) (fun q => Classical.choose (hu i q)) (fun _ => 0)
  have f1 : ∀ i, i ≤ k → f i < d ∧ ∀ c, c < 7 → u i c = yms S (m (f i)) c := fun i hi => by
    have : f i = Classical.choose (hu i hi) := dif_pos hi
    rw [this]
    exact Classical.choose_spec (hu i hi)
  by_cases inj : ∀ i j, i < j → j < k + 1 → f i ≠ f j
  · rcases Nat.lt_or_ge d 7 with hd | hd
    · let comp : List Nat := (List.range d).filter (fun q => ydec (∀ i, i < k + 1 → f i ≠ q))
      have cm : ∀ q, q ∈ comp ↔ q < d ∧ ∀ i, i < k + 1 → f i ≠ q := fun q => by
        show q ∈ (List.range d).filter _ ↔ _
        rw [List.mem_filter, List.mem_range, ydec_iff]
      have clen : comp.length + (k + 1) ≤ d := by
        have nd : (comp ++ (List.range (k + 1)).map f).Nodup := by
          rw [List.nodup_append]
          refine ⟨List.nodup_range.filter _, ?_, fun a ha b hb eab => ?_⟩
          · unfold List.Nodup
            rw [List.pairwise_map]
            exact List.Pairwise.imp_of_mem (fun {a b} ha hb hab => inj a b hab (List.mem_range.mp hb)) (List.pairwise_lt_range (n := k + 1))
          · obtain ⟨i, hi, rfl⟩ := List.mem_map.mp hb
            exact ((cm a).mp ha).2 i (List.mem_range.mp hi) eab.symm
        have := y_nodup_le d _ nd (fun x hx => by
          rcases List.mem_append.mp hx with q | q
          · exact ((cm x).mp q).1
          · obtain ⟨i, hi, rfl⟩ := List.mem_map.mp q
            exact (f1 i (by have := List.mem_range.mp hi; omega)).1)
        rw [List.length_append, List.length_map, List.length_range] at this
        exact this
      have p7 : ∀ i, i < d → p i < 7 := fun i hi => e.pk i hi
      obtain ⟨y, y1, y2, y3⟩ := y_siegel (k := d - 1) (u := s) (cs := cs ++ comp.map p) (fun i c hi hc => hT i (by have := e.dn; omega) c (by
        rcases List.mem_append.mp hc with q | q
        · exact h7 c q
        · obtain ⟨j, hj, rfl⟩ := List.mem_map.mp q
          exact p7 j ((cm j).mp hj).1)) (by
        rw [List.length_append, List.length_map]
        omega)
      rw [show d - 1 + 1 = d by omega] at y2 y3
      obtain ⟨L, z, L1, z1, z2⟩ := yStg_span h0 y
      have zz : ∀ q, q < d → (∀ i, i < k + 1 → f i ≠ q) → z q = 0 := fun q hq hn => z2 q hq (y2 _ (List.mem_append_right _ (List.mem_map.mpr ⟨q, (cm q).mpr ⟨hq, hn⟩, rfl⟩)))
      have re : ∀ c, c < 7 → L * ysm (fun q => y q * s q c) d = ysm (fun i => z (f i) * m (f i) c) (k + 1) := fun c hc => by
        rw [z1 c hc]
        exact ysm_re (k + 1) (fun q => z q * m q c) (fun i hi => (f1 i (by omega)).1) inj (fun q hq hn => by rw [zz q hq hn, Int.zero_mul])
      refine ⟨fun i => z (f i), L, yms S (fun c => ysm (fun q => y q * s q c) d), L1, ?_, fun c hc => ?_, fun c hc => ?_, fun c hc => ?_⟩
      · apply Classical.byContradiction
        intro q
        have q0 : ∀ i, i < k + 1 → z (f i) = 0 := fun i hi => Classical.byContradiction (fun z => q ⟨i, by omega, z⟩)
        obtain ⟨i, hi, hx⟩ := y1
        refine hx (hI y (fun a ha => ?_) i (by omega))
        have := re (p a) (p7 a ha)
        rw [ysm_zero (f := fun i => z (f i) * m (f i) (p a)) (fun i hi => by rw [q0 i hi, Int.zero_mul])] at this
        exact y_mul0 L1 this
      · show L * yms S (fun c => ysm (fun q => y q * s q c) d) c = ysm (fun i => z (f i) * u i c) (k + 1)
        by_cases hb : S.testBit c = true
        · rw [yms_y hb, re c hc]
          exact ysm_ext (fun i hi => by rw [(f1 i (by omega)).2 c hc, yms_y hb])
        · rw [yms_n hb, Int.mul_zero]
          exact (ysm_zero (fun i hi => by rw [(f1 i (by omega)).2 c hc, yms_n hb, Int.mul_zero])).symm
      · unfold yms
        split
        · exact y2 c (List.mem_append_left _ hc)
        · rfl
      · have b := ysm_abs (f := fun q => y q * s q c) (a := (4 * d) ^ (d - 1) * 4) d (fun i hi => by
          rw [Int.natAbs_mul]
          exact Nat.mul_le_mul (y3 i (by omega)) (hT i (by have := e.dn; omega) c hc))
        have b2 := y_pw (d - 1) (by omega)
        rw [show d - 1 + 1 = d by omega] at b2
        unfold yms
        split
        · exact Nat.le_trans b b2
        · decide
    · have d77 : d = 7 := by omega
      have allp : ∀ c, c < 7 → yPv d p c := fun c hc => Classical.byContradiction (fun q => by
        have h1 := ycn_piv 7 d e.up e.pk
        have h2 := ycn_lt (p := yPv d p) (q := fun _ => True) 7 (fun _ _ _ => trivial) ⟨c, hc, trivial, q⟩
        have h3 := ycn_le (fun _ => True) 7
        omega)
      have : ∃ i, i ≤ k ∧ p (f i) ∉ cs := by
        apply Classical.byContradiction
        intro q
        have nd : ((List.range (k + 1)).map (fun i => p (f i))).Nodup := by
          unfold List.Nodup
          rw [List.pairwise_map]
          exact List.Pairwise.imp_of_mem (fun {a b} ha hb hab z => inj a b hab (List.mem_range.mp hb) (e.inj (f1 a (by have := List.mem_range.mp ha; omega)).1 (f1 b (by have := List.mem_range.mp hb; omega)).1 z)) (List.pairwise_lt_range (n := k + 1))
        have := y_sub_le _ cs nd (fun x hx => by
          obtain ⟨i, hi, rfl⟩ := List.mem_map.mp hx
          exact Classical.byContradiction (fun z => q ⟨i, by have := List.mem_range.mp hi; omega, z⟩))
        rw [List.length_map, List.length_range] at this
        omega
      obtain ⟨i, hi, hp⟩ := this
      refine ⟨fun j => if j = i then 1 else 0, 1, u i, by decide, ⟨i, hi, by simp⟩, fun c hc => ?_, fun c hc => ?_, fun c hc => yTR_H h0 S _ (hu i hi) c hc⟩
      · show 1 * u i c = ysm (fun j => (if j = i then 1 else 0) * u j c) (k + 1)
        rw [ysm_one (f := fun j => (if j = i then 1 else 0) * u j c) (a := i) (by omega) (fun j _ hj => by rw [if_neg hj, Int.zero_mul]), if_pos rfl]
      · obtain ⟨q, hq, e2⟩ := allp c (h7 c hc)
        rw [(f1 i hi).2 c (h7 c hc)]
        unfold yms
        split
        · rw [← e2]
          exact e.al q (f i) hq (by have := (f1 i hi).1; have := e.dn; omega) (fun z => hp (by rw [z, e2]; exact hc))
        · rfl
  · have : ∃ i j, i < j ∧ j < k + 1 ∧ f i = f j := Classical.byContradiction (fun q => inj (fun i j h1 h2 h3 => q ⟨i, j, h1, h2, h3⟩))
    obtain ⟨i, j, h1, h2, h3⟩ := this
    refine ⟨fun x => if x = i then 1 else if x = j then -1 else 0, 1, fun _ => 0, by decide, ⟨i, by omega, by simp⟩, fun c hc => ?_, fun _ _ => rfl, fun c _ => by show (0 : Int).natAbs ≤ 24 ^ 6; decide⟩
    show 1 * 0 = ysm (fun x => (if x = i then 1 else if x = j then -1 else 0) * u x c) (k + 1)
    rw [ysm_two (f := fun x => (if x = i then 1 else if x = j then -1 else 0) * u x c) (a := i) (b := j) (by omega) (by omega) (by omega) (fun x _ n1 n2 => by rw [if_neg n1, if_neg n2, Int.zero_mul]), if_pos rfl, if_neg (by omega), if_pos rfl, (f1 i (by omega)).2 c hc, (f1 j (by omega)).2 c hc, h3]
    omega
end YMK

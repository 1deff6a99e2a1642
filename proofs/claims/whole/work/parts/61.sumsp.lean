/-! Conserved sums of a network: what both sides must find. -/
section YSQ
def yKN (N : zN) : (Nat → Int) → Prop := yKp N (fun _ => True)
theorem yKN_m (N : zN) : yKN N = yKm (yMu N N.2) N.2.length := funext (fun w => propext (yMu_ker (fun q => by simp) w).symm)
theorem yKN_o (N : zN) : yKo (yKN N) := by
  rw [yKN_m]
  exact yKm_o _ _
/-- a minimal conserved sum's support -/
def yPw (N : zN) (S : Nat) : Prop := 1 ≤ S ∧ ySb S (yall N) ∧ ∃ u, yWv (yKN N) S u
noncomputable def yuS (N : zN) (S : Nat) : Nat → Int := @dite (Nat → Int) (∃ u, yWv (yKN N) S u) (Classical.propDecidable _) (fun h => Classical.choose h) (fun _ _ => 0)
theorem yuS_w {N : zN} {S : Nat} (h : ∃ u, yWv (yKN N) S u) : yWv (yKN N) S (yuS N S) := by
  unfold yuS
  rw [dif_pos h]
  exact Classical.choose_spec h
theorem y_bit7 {S c : Nat} (hS : S < 128) (h : S.testBit c = true) : c < 7 := by
  rcases Nat.lt_or_ge c 7 with q | q
  · exact q
  · have : S < 2 ^ c := Nat.lt_of_lt_of_le hS (Nat.pow_le_pow_right (n := 2) (by omega) q)
    rw [Nat.testBit_lt_two_pow this] at h
    cases h
theorem y_bitex {S : Nat} (h1 : 1 ≤ S) (hS : S < 128) : ∃ c, c < 7 ∧ S.testBit c = true := by
  obtain ⟨c, hc⟩ := Nat.exists_testBit_of_ne_zero (x := S) (by omega)
  exact ⟨c, y_bit7 hS hc, hc⟩
theorem yPw_lt {N : zN} {S : Nat} (h : yPw N S) : S < 128 := by
  have := ySb_le h.2.1
  have := yall_lt N
  omega
theorem yPw_anti {N : zN} (x y : Nat) (hx : yPw N x) (hy : yPw N y) (h : x < y) : ¬ ySb x y := by
  intro q
  have y7 := yPw_lt hy
  have x7 := yPw_lt hx
  have sb := ySb_iff.mp q
  obtain ⟨u, hu⟩ := hx.2.2
  obtain ⟨w, hw⟩ := hy.2.2
  obtain ⟨z, hz⟩ := hw.2.2.2 u hu.1 (fun c hc hb => hu.2.1 c hc (fun e => hb (sb c e)))
  have : ∃ c, c < 7 ∧ y.testBit c = true ∧ ¬ x.testBit c = true := by
    apply Classical.byContradiction
    intro n
    have : ySb y x := ySb_iff.mpr (fun c hc => Classical.byContradiction (fun e => n ⟨c, y_bit7 y7 hc, hc, e⟩))
    have := ySb_le this
    omega
  obtain ⟨c, c1, c2, c3⟩ := this
  obtain ⟨e, e1, e2⟩ := y_bitex hx.1 x7
  have p1 := hu.2.2.1 e e1 e2
  have p2 := hw.2.2.1 c c1 c2
  have e3 := hz c c1
  rw [hu.2.1 c c1 c3] at e3
  rcases Int.mul_eq_zero.mp e3.symm with a | a
  · have := hz e e1
    rw [a, Int.zero_mul] at this
    omega
  · omega
theorem y_sw35 {N : zN} {S : Nat} (h : yPw N S) : (ysl (yPw N) S).length < 35 := by
  have := ysl_35 (P := yPw N) yPw_anti (m := S + 1) (by have := yPw_lt h; omega)
  rw [ysl_y h, List.length_append, List.length_singleton] at this
  omega
/-! Counting bits. -/
def ypb (S : Nat) : Nat → Nat
  | 0 => 0
  | n + 1 => ypb S n + if S.testBit n then 1 else 0
theorem ypb_cn (S : Nat) : ∀ n, ycn (fun c => S.testBit c = true) n = ypb S n
  | 0 => rfl
  | n + 1 => by
    have ih := ypb_cn S n
    show _ = ypb S n + if S.testBit n then 1 else 0
    by_cases h : S.testBit n = true
    · rw [ycn_y (p := fun c => S.testBit c = true) h, ih, if_pos h]
    · rw [ycn_n (p := fun c => S.testBit c = true) h, ih, if_neg h]; rfl
theorem ypc_pb (S : Nat) : ypc S = ypb S 7 := ypb_cn S 7
theorem ypc_1 {S : Nat} (h1 : 1 ≤ S) (hS : S < 128) : 1 ≤ ypc S := by
  obtain ⟨c, c1, c2⟩ := y_bitex h1 hS
  have := ycn_lt (p := fun _ => False) (q := fun c => S.testBit c = true) 7 (fun _ _ h => h.elim) ⟨c, c1, c2, fun h => h⟩
  unfold ypc
  omega
theorem ypc_7 (S : Nat) : ypc S ≤ 7 := ycn_le _ 7
variable {T : (Nat → Int) → Prop} {N : zN} {n d S f : Nat} {m s : Nat → Nat → Int} {p : Nat → Nat}
/-- a small vector of the line, whatever rows the elimination had -/
theorem yS_V (hG : yGood N) (h : yStg T (yKS (yKN N) S) n d 7 m s p) (hf : yOf S d p f) : ∃ v : Nat → Int, yKN N v ∧ (∀ c, c < 7 → ¬ S.testBit c = true → v c = 0) ∧ v f ≠ 0 ∧ ∀ c, c < 7 → (v c).natAbs ≤ 28 ^ 6 := by
  rw [yKN_m] at h ⊢
  obtain ⟨d2, m2, s2, p2, h2⟩ := yStg_ex (T := yT4) (K := yKS (yKm (yMu N N.2) N.2.length) S) (M := fun i => yms S (yMu N N.2 i)) (n := N.2.length) (fun w => by
    constructor
    · intro k i hi
      have := k i hi
      rw [ydt_ms] at this
      exact this
    · intro k i hi
      rw [ydt_ms]
      exact k i hi) (fun i hi => by
    unfold yMu
    rw [List.getD_eq_getElem?_getD, List.getElem?_eq_getElem hi]
    have g := hG.2.2.2.1 _ (List.getElem_mem hi)
    exact yDf_4 hG g.1 g.2 S) 7 (Nat.le_refl 7)
  have eK : yKm m n = yKm m2 N.2.length := funext (fun w => propext ((h.2.2.2.2.1 w).trans (h2.2.2.2.2.1 w).symm))
  have pe : ∀ c, c < 7 → (yPv d p c ↔ yPv d2 p2 c) := fun c hc => by
    rw [← yEc_piv h.1 hc, ← yEc_piv h2.1 hc, eK]
  exact yS_C h2 ⟨hf.1, hf.2.1, fun q => hf.2.2.1 ((pe f hf.1).mpr q), fun c hc hb => by
    rcases hf.2.2.2 c hc hb with q | q
    · exact Or.inl q
    · exact Or.inr ((pe c hc).mp q)⟩
theorem yS_U (hG : yGood N) (h : yStg T (yKS (yKN N) S) n d 7 m s p) (hf : yOf S d p f) : ∀ i, i ≤ d → ylc m p f i ≤ 28 ^ 6 := by
  obtain ⟨v, v1, v2, v3, v4⟩ := yS_V hG h hf
  intro i hi
  have hk := (yS_ker (yKN_o N) h v2).mp v1
  have hn := h.1.dn
  have dv : ylc m p f i ∣ (v f).natAbs := ylc_dv i (fun a ha => by
    have e := hk a (by omega)
    rw [yS_row (yKN_o N) h hf (by omega)] at e
    have := yne_dvd (h.1.nz a (by omega)) e
    rw [← Int.natAbs_dvd_natAbs, Int.natAbs_natCast] at this
    exact this)
  exact Nat.le_trans (Nat.le_of_dvd (by omega) dv) (v4 f hf.1)
theorem yIsW_ex (h : yEc n d 7 m p) (hf : ¬ yPv d p f) : ∃ w, yIsW m p d f w := by
  refine ⟨fun c => if c = f then (ylc m p f d : Int) else @dite Int (yPv d p c) (Classical.propDecidable _) (fun q => (-(ylc m p f d : Int) * m (Classical.choose q) f).tdiv (m (Classical.choose q) c)) (fun _ => 0), if_pos rfl, fun i hi => ?_, fun c _ h1 h2 => ?_⟩
  · have e : p i ≠ f := fun q => hf ⟨i, hi, q⟩
    have q : yPv d p (p i) := ⟨i, hi, rfl⟩
    have ei : Classical.choose q = i := h.inj (Classical.choose_spec q).1 hi (Classical.choose_spec q).2
    show (if p i = f then _ else _) = _
    rw [if_neg e, dif_pos q, ei]
  · show (if c = f then _ else _) = _
    rw [if_neg h1, dif_neg h2]
/-- the weights found are the generator's -/
theorem yS_W (h : yStg T (yKS (yKN N) S) n d 7 m s p) (hf : yOf S d p f) (ho : ∀ i, i < d → yOp (m i (p i)) (m i f)) {w : Nat → Int} (hw : yIsW m p d f w) : (∃ u, yWv (yKN N) S u) ∧ ∀ c, c < 7 → w c = yuS N S c := by
  have hW := yS_A (yKN_o N) h hf ho hw
  exact ⟨⟨w, hW⟩, yWv_uq hW (yuS_w ⟨w, hW⟩) hf.1 hf.2.1⟩
/-- no generator without the check -/
theorem yS_no (h : yStg T (yKS (yKN N) S) n d 7 m s p) (hp : yPw N S) : ∃ f, yOf S d p f ∧ ∀ i, i < d → yOp (m i (p i)) (m i f) := by
  obtain ⟨c, c1, c2⟩ := y_bitex hp.1 (yPw_lt hp)
  obtain ⟨u, hu⟩ := hp.2.2
  exact yS_B (yKN_o N) h c1 c2 hu
theorem yOf_uq {f f' : Nat} (h : yOf S d p f) (h' : yOf S d p f') : f = f' := by
  rcases h'.2.2.2 f h.1 h.2.1 with q | q
  · exact q
  · exact absurd q h.2.2.1
theorem y_lcm {u e : Nat} (he : 0 < e) (hu : u < 2 ^ 63) (he2 : e < 2 ^ 63) : Int64.ofInt u / Int64.ofInt (Nat.gcd u e) * Int64.ofInt e = Int64.ofInt (Nat.lcm u e) := by
  have g1 : Nat.gcd u e ≤ e := Nat.gcd_le_right _ he
  rw [y_div (by omega) (by omega), ← Int64.ofInt_mul]
  congr 1
  have h2 : ((u : Int).tdiv ((Nat.gcd u e : Nat) : Int)) = ((u / Nat.gcd u e : Nat) : Int) := rfl
  rw [h2]
  have h3 : u / Nat.gcd u e * e = Nat.lcm u e := by
    unfold Nat.lcm
    exact Nat.div_mul_right_comm (Nat.gcd_dvd_left u e) e
  rw [← h3]
  exact (Int.natCast_mul _ _).symm
theorem y_ned {a b : Int} (ha : a.natAbs ≤ 24 ^ 6) (hz : a ≠ 0) : Int64.ofInt (a.natAbs : Int) / Int64.ofInt (Int.gcd a b) = Int64.ofInt (yne a b) := by
  have g1 : Int.gcd a b ≤ a.natAbs := Nat.gcd_le_left _ (by omega)
  rw [y_div (by omega) (by omega)]
  rfl
theorem yne_le {a b : Int} : yne a b ≤ a.natAbs := Nat.div_le_self _ _
theorem y_op0 {a b : Int} (h : b = 0) : ¬ yOp a b := fun q => q.1 h
end YSQ

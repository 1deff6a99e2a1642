/-! Small solutions (pigeonhole). -/
section YSG
theorem y_pigeon {f : Nat → Nat} {n m : Nat} (hm : m < n) (h : ∀ x, x < n → f x < m) : ∃ x y, x < y ∧ y < n ∧ f x = f y := by
  apply Classical.byContradiction
  intro q
  have nd : ((List.range n).map f).Nodup := by
    unfold List.Nodup
    rw [List.pairwise_map]
    refine List.Pairwise.imp_of_mem (fun {a b} ha hb hab => ?_) (List.pairwise_lt_range (n := n))
    exact fun e => q ⟨a, b, hab, List.mem_range.mp hb, e⟩
  have := y_nodup_le m _ nd (fun x hx => by
    obtain ⟨a, ha, rfl⟩ := List.mem_map.mp hx
    exact h a (List.mem_range.mp ha))
  rw [List.length_map, List.length_range] at this
  omega
theorem y_sub_le : ∀ (l cs : List Nat), l.Nodup → (∀ x ∈ l, x ∈ cs) → l.length ≤ cs.length
  | [], cs, _, _ => Nat.zero_le _
  | a :: l, cs, hd, h => by
    have ha := h a List.mem_cons_self
    rw [List.nodup_cons] at hd
    have ih := y_sub_le l (cs.erase a) hd.2 (fun x hx => by
      have hx2 := h x (List.mem_cons_of_mem _ hx)
      exact (List.mem_erase_of_ne (fun e => hd.1 (by rw [← e]; exact hx))).mpr hx2)
    have h5 := List.length_erase_of_mem ha
    have h6 := List.length_pos_of_mem ha
    rw [List.length_cons]
    omega
/-- numbers of a base -/
def yenc (M : Nat) (v : Nat → Nat) : List Nat → Nat
  | [] => 0
  | c :: cs => v c + M * yenc M v cs
theorem yenc_lt {M : Nat} {v : Nat → Nat} : ∀ cs, (∀ c ∈ cs, v c < M) → yenc M v cs < M ^ cs.length
  | [], _ => Nat.one_pos
  | c :: cs, h => by
    have ih := yenc_lt cs (fun x hx => h x (List.mem_cons_of_mem _ hx))
    have h1 := h c List.mem_cons_self
    show v c + M * yenc M v cs < M ^ (cs.length + 1)
    rw [Nat.pow_succ, Nat.mul_comm (M ^ cs.length)]
    have h2 : M * (yenc M v cs + 1) ≤ M * M ^ cs.length := Nat.mul_le_mul_left M ih
    rw [Nat.mul_succ] at h2
    omega
theorem yenc_eq {M : Nat} {v w : Nat → Nat} : ∀ cs, (∀ c ∈ cs, v c < M) → (∀ c ∈ cs, w c < M) → yenc M v cs = yenc M w cs → ∀ c ∈ cs, v c = w c
  | [], _, _, _, c, hc => by simp at hc
  | a :: cs, h1, h2, e, c, hc => by
    have a1 := h1 a List.mem_cons_self
    have a2 := h2 a List.mem_cons_self
    have e : v a + M * yenc M v cs = w a + M * yenc M w cs := e
    have e1 : v a = w a := by
      have := congrArg (fun x => x % M) e
      simp only [Nat.add_mul_mod_self_left] at this
      rw [Nat.mod_eq_of_lt a1, Nat.mod_eq_of_lt a2] at this
      exact this
    have e2 : yenc M v cs = yenc M w cs := by
      have h3 : M * yenc M v cs = M * yenc M w cs := by omega
      exact Nat.eq_of_mul_eq_mul_left (by omega) h3
    rcases List.mem_cons.mp hc with q | q
    · rw [q]; exact e1
    · exact yenc_eq cs (fun x hx => h1 x (List.mem_cons_of_mem _ hx)) (fun x hx => h2 x (List.mem_cons_of_mem _ hx)) e2 c q
theorem y_digits {b : Nat} (hb : 0 < b) : ∀ (n x y : Nat), x < b ^ n → y < b ^ n → (∀ i, i < n → x / b ^ i % b = y / b ^ i % b) → x = y
  | 0, x, y, hx, hy, _ => by
    rw [Nat.pow_zero] at hx hy
    omega
  | n + 1, x, y, hx, hy, h => by
    have h0 := h 0 (by omega)
    rw [Nat.pow_zero, Nat.div_one, Nat.div_one] at h0
    have ih := y_digits hb n (x / b) (y / b) (by rw [Nat.div_lt_iff_lt_mul hb, ← Nat.pow_succ]; exact hx) (by rw [Nat.div_lt_iff_lt_mul hb, ← Nat.pow_succ]; exact hy) (fun i hi => by
      have := h (i + 1) (by omega)
      rw [Nat.pow_succ, Nat.mul_comm, ← Nat.div_div_eq_div_mul, ← Nat.div_div_eq_div_mul] at this
      exact this)
    have e1 := Nat.div_add_mod x b
    have e2 := Nat.div_add_mod y b
    rw [ih, h0] at e1
    omega
/-- sums of naturals -/
def ysn (f : Nat → Nat) : Nat → Nat
  | 0 => 0
  | n + 1 => ysn f n + f n
theorem ysn_le {f g : Nat → Nat} : ∀ n, (∀ i, i < n → f i ≤ g i) → ysn f n ≤ ysn g n
  | 0, _ => Nat.le_refl 0
  | n + 1, h => Nat.add_le_add (ysn_le n (fun i hi => h i (by omega))) (h n (by omega))
theorem ysn_const (a : Nat) : ∀ n, ysn (fun _ => a) n = n * a
  | 0 => by simp [ysn]
  | n + 1 => by
    show ysn (fun _ => a) n + a = _
    rw [ysn_const a n, Nat.succ_mul]
theorem ysm_abs {f : Nat → Int} {a : Nat} : ∀ n, (∀ i, i < n → (f i).natAbs ≤ a) → (ysm f n).natAbs ≤ n * a
  | 0, _ => by simp [ysm]
  | n + 1, h => by
    have ih := ysm_abs n (fun i hi => h i (by omega))
    have h1 := h n (by omega)
    have h2 := Int.natAbs_add_le (ysm f n) (f n)
    show (ysm f n + f n).natAbs ≤ (n + 1) * a
    rw [Nat.succ_mul]
    omega
/-- Siegel: of k + 1 rows with small numbers a small combination is 0 in k given columns -/
theorem y_siegel {k : Nat} {u : Nat → Nat → Int} {cs : List Nat} (hu : ∀ i c, i ≤ k → c ∈ cs → (u i c).natAbs ≤ 4) (hc : cs.length ≤ k) : ∃ x : Nat → Int, (∃ i, i ≤ k ∧ x i ≠ 0) ∧ (∀ c, c ∈ cs → ysm (fun i => x i * u i c) (k + 1) = 0) ∧ ∀ i, i ≤ k → (x i).natAbs ≤ (4 * (k + 1)) ^ k := by
  let B := (4 * (k + 1)) ^ k
  let b := B + 1
  let M := 4 * (k + 1) * B + 1
  have hB : B = (4 * (k + 1)) ^ k := rfl
  let dg : Nat → Nat → Nat := fun N i => N / b ^ i % b
  have dgB : ∀ N i, dg N i ≤ B := fun N i => by
    have : N / b ^ i % b < b := Nat.mod_lt _ (Nat.succ_pos B)
    show N / b ^ i % b ≤ B
    omega
  -- value of a column, moved so that it is no negative number
  let va : Nat → Nat → Nat := fun N c => ysn (fun i => if 0 ≤ u i c then dg N i * (u i c).natAbs else (B - dg N i) * (u i c).natAbs) (k + 1)
  have vaM : ∀ N c, c ∈ cs → va N c < M := by
    intro N c hcc
    have h1 : va N c ≤ ysn (fun _ => B * 4) (k + 1) := ysn_le (k + 1) (fun i hi => by
      have h4 := hu i c (by omega) hcc
      show (if 0 ≤ u i c then dg N i * (u i c).natAbs else (B - dg N i) * (u i c).natAbs) ≤ B * 4
      split
      · exact Nat.mul_le_mul (dgB N i) h4
      · exact Nat.mul_le_mul (Nat.sub_le _ _) h4)
    rw [ysn_const] at h1
    show va N c < 4 * (k + 1) * B + 1
    have h2 : (k + 1) * (B * 4) = 4 * (k + 1) * B := by
      rw [Nat.mul_comm B 4, ← Nat.mul_assoc, Nat.mul_comm (k + 1) 4]
    omega
  have key : ∀ N N' c, va N c = va N' c → ysm (fun i => ((dg N i : Int) - dg N' i) * u i c) (k + 1) = 0 := by
    intro N N' c e
    have gen : ∀ n, ((ysn (fun i => if 0 ≤ u i c then dg N i * (u i c).natAbs else (B - dg N i) * (u i c).natAbs) n : Nat) : Int) - (ysn (fun i => if 0 ≤ u i c then dg N' i * (u i c).natAbs else (B - dg N' i) * (u i c).natAbs) n : Nat) = ysm (fun i => ((dg N i : Int) - dg N' i) * u i c) n := by
      intro n
      induction n with
      | zero => rfl
      | succ n ih =>
        have b1 := dgB N n
        have b2 := dgB N' n
        show ((ysn _ n + (if 0 ≤ u n c then dg N n * (u n c).natAbs else (B - dg N n) * (u n c).natAbs) : Nat) : Int) - (ysn _ n + (if 0 ≤ u n c then dg N' n * (u n c).natAbs else (B - dg N' n) * (u n c).natAbs) : Nat) = ysm _ n + ((dg N n : Int) - dg N' n) * u n c
        rw [← ih]
        split
        · rename_i h0
          have e1 : ((u n c).natAbs : Int) = u n c := Int.natAbs_of_nonneg h0
          push_cast
          rw [e1]
          grind
        · rename_i h0
          have e1 : ((u n c).natAbs : Int) = -(u n c) := by omega
          push_cast [Int.ofNat_sub b1, Int.ofNat_sub b2]
          rw [e1]
          grind
    rw [← gen (k + 1)]
    have e : ysn _ (k + 1) = ysn _ (k + 1) := e
    rw [e]
    omega
  obtain ⟨N, N', h1, h2, h3⟩ := y_pigeon (f := fun N => yenc M (va N) cs) (n := b ^ (k + 1)) (m := M ^ k) (by
    have s1 : M ≤ 4 * (k + 1) * b := by
      show 4 * (k + 1) * B + 1 ≤ 4 * (k + 1) * (B + 1)
      rw [Nat.mul_add (4 * (k + 1)) B 1, Nat.mul_one]
      exact Nat.add_le_add_left (by omega) _
    have s2 : M ^ k ≤ (4 * (k + 1) * b) ^ k := Nat.pow_le_pow_left s1 k
    rw [Nat.mul_pow] at s2
    have s3 : (4 * (k + 1)) ^ k * b ^ k < b * b ^ k := Nat.mul_lt_mul_of_pos_right (Nat.lt_succ_self B) (Nat.pow_pos (Nat.succ_pos B))
    rw [Nat.pow_succ, Nat.mul_comm (b ^ k)]
    exact Nat.lt_of_le_of_lt s2 s3) (fun N hN => by
    have := yenc_lt (M := M) (v := va N) cs (vaM N)
    exact Nat.lt_of_lt_of_le this (Nat.pow_le_pow_right (Nat.succ_pos _) hc))
  refine ⟨fun i => (dg N i : Int) - dg N' i, ?_, fun c hcc => key N N' c (yenc_eq cs (vaM N) (vaM N') h3 c hcc), fun i hi => ?_⟩
  · apply Classical.byContradiction
    intro q
    have : N = N' := y_digits (b := b) (Nat.succ_pos B) (k + 1) N N' (by omega) h2 (fun i hi => by
      apply Classical.byContradiction
      intro z
      exact q ⟨i, by omega, fun e => z (by
        have e : (dg N i : Int) - dg N' i = 0 := e
        show dg N i = dg N' i
        omega)⟩)
    omega
  · have b1 := dgB N i
    have b2 := dgB N' i
    show ((dg N i : Int) - dg N' i).natAbs ≤ B
    omega
/-- rows such that small vectors lie on all lines that the elimination meets -/
def ySP (T : (Nat → Int) → Prop) : Prop := ∀ (k : Nat) (u : Nat → Nat → Int) (cs : List Nat), k ≤ 6 → (∀ i, i ≤ k → T (u i)) → cs.Nodup → cs.length = k → (∀ c ∈ cs, c < 7) → ∃ (x : Nat → Int) (t : Int) (V : Nat → Int), t ≠ 0 ∧ (∃ i, i ≤ k ∧ x i ≠ 0) ∧ (∀ c, c < 7 → t * V c = ysm (fun i => x i * u i c) (k + 1)) ∧ (∀ c, c ∈ cs → V c = 0) ∧ ∀ c, c < 7 → (V c).natAbs ≤ 24 ^ 6
def yT4 (v : Nat → Int) : Prop := ∀ c, c < 7 → (v c).natAbs ≤ 4
theorem y_pw : ∀ k, k ≤ 5 → (k + 1) * ((4 * (k + 1)) ^ k * 4) ≤ 24 ^ 6 := by decide
theorem ySP_4 : ySP yT4 := by
  intro k u cs hk hu hnd hcs h7
  obtain ⟨x, x1, x2, x3⟩ := y_siegel (k := k) (u := u) (cs := cs) (fun i c hi hc => hu i hi c (h7 c hc)) (Nat.le_of_eq hcs)
  rcases Nat.lt_or_ge k 6 with h6 | h6
  · refine ⟨x, 1, fun c => ysm (fun i => x i * u i c) (k + 1), by decide, x1, fun c _ => Int.one_mul _, x2, fun c hc => ?_⟩
    refine Nat.le_trans (ysm_abs (a := (4 * (k + 1)) ^ k * 4) (k + 1) (fun i hi => ?_)) (y_pw k (by omega))
    rw [Int.natAbs_mul]
    exact Nat.mul_le_mul (x3 i (by omega)) (hu i (by omega) c hc)
  · have e : k = 6 := by omega
    subst e
    by_cases hz : ∃ c, c < 7 ∧ ysm (fun i => x i * u i c) 7 ≠ 0
    · obtain ⟨c0, c1, c2⟩ := hz
      refine ⟨x, ysm (fun i => x i * u i c0) 7, fun c => if c = c0 then 1 else 0, c2, x1, fun c hc => ?_, fun c hc => ?_, fun c hc => ?_⟩
      · show _ * (if c = c0 then 1 else 0) = ysm (fun i => x i * u i c) 7
        split
        · rename_i e
          rw [e, Int.mul_one]
        · rename_i e
          rw [Int.mul_zero]
          apply Classical.byContradiction
          intro q
          have nd : (c :: c0 :: cs).Nodup := by
            rw [List.nodup_cons, List.nodup_cons]
            refine ⟨fun z => ?_, fun z => c2 (x2 c0 z), hnd⟩
            rcases List.mem_cons.mp z with z | z
            · exact e z
            · exact q (x2 c z).symm
          have := y_nodup_le 7 _ nd (fun y hy => by
            rcases List.mem_cons.mp hy with z | z
            · rw [z]; exact hc
            · rcases List.mem_cons.mp z with z | z
              · rw [z]; exact c1
              · exact h7 y z)
          rw [List.length_cons, List.length_cons] at this
          omega
      · show (if c = c0 then (1 : Int) else 0) = 0
        rw [if_neg]
        intro e
        rw [e] at hc
        exact c2 (x2 c0 hc)
      · show (if c = c0 then (1 : Int) else 0).natAbs ≤ 24 ^ 6
        split <;> decide
    · refine ⟨x, 1, fun _ => 0, by decide, x1, fun c hc => ?_, fun _ _ => rfl, fun c _ => by show (0 : Int).natAbs ≤ 24 ^ 6; decide⟩
      rw [Int.mul_zero]
      apply Classical.byContradiction
      intro q
      exact hz ⟨c, hc, fun e => q e.symm⟩
end YSG

/-! The text: type and clear, of the class and of the reference. -/
section ZTX
/-- the class's text: n characters t -/
def zTx (σ : List zC) (n : Nat) (t : List Int32) : Prop := σ[1]? = some (.inl (1, [.ref 3, .int (nI n)])) ∧ σ[2]? = some (.inr (.inl (.char, t)))
/-- the reference's own fields -/
def zMf (size seen given many arrows siphons sums rows : Int32) : List Value := [.ref 125, .int size, .int seen, .ref 126, .ref 127, .int given, .ref 128, .ref 129, .int many, .int arrows, .ref 130, .ref 131, .ref 132, .ref 133, .int siphons, .ref 134, .int sums, .ref 135, .ref 136, .int rows, .ref 137, .ref 138]
theorem z_char {x : Int32} (h1 : ¬ x < 32) (h2 : ¬ 126 < x) : vp_nar .char x = x := by
  obtain ⟨j, hj, rfl⟩ := nI_of2 (x := x) (M := 126) (n := 126) (by decide +kernel) (fun h => h1 (Int32.lt_trans h (by decide +kernel))) (k2_le h2)
  unfold vp_nar
  rw [(pk_charN (q := j) (by omega)).1]
theorem z_100 {n : Nat} (h : n < 2 ^ 31) : nI n < (Int8.ofInt 100).toInt32 ↔ n < 100 := by
  rw [show (Int8.ofInt 100).toInt32 = nI 100 by decide +kernel]
  exact nI_ltI h (by omega)
variable {σ : List zC} {n : Nat} {t : List Int32} {x : Int32}
theorem zc_append0 (h1 : σ[1]? = some (.inl (1, [.ref 3, .int (nI n)]))) (hn : n ≤ 100) (h : x < 32 ∨ 126 < x ∨ n = 100) : zR none 11 (0, zent [.ref 2, .int x] 2, [], σ, 0, 0) (some (.int 0), σ, 0, 0) := by
  refine zRn_n 3 rfl ?_
  refine zR_lt (fun _ => zRn_n 1 rfl (zRn_ret rfl)) (fun g1 => ?_)
  refine zRn_n 3 rfl ?_
  refine zR_gt (fun _ => zRn_n 1 rfl (zRn_ret rfl)) (fun g2 => ?_)
  refine zRn_n 1 rfl ?_
  refine zR_getf rfl h1 rfl ?_
  refine zRn_n 2 rfl ?_
  refine zR_lt (fun g3 => ?_) (fun _ => zRn_n 1 rfl (zRn_ret rfl))
  have g4 := (z_100 (by omega)).mp g3
  rcases h with h | h | h
  · exact absurd h g1
  · exact absurd h g2
  · omega
theorem zc_append1 (h1 : σ[1]? = some (.inl (1, [.ref 3, .int (nI n)]))) (h2 : σ[2]? = some (.inr (.inl (.char, t)))) (ht : t.length = 100) (hn : n < 100) (g1 : ¬ x < 32) (g2 : ¬ 126 < x) : zR none 11 (0, zent [.ref 2, .int x] 2, [], σ, 0, 0) (some (.int 1), (σ.set 2 (.inr (.inl (.char, t.set n x)))).set 1 (.inl (1, [.ref 3, .int (nI (n + 1))])), 0, 0) := by
  refine zRn_n 3 rfl ?_
  refine zR_lt (fun h => absurd h g1) (fun _ => ?_)
  refine zRn_n 3 rfl ?_
  refine zR_gt (fun h => absurd h g2) (fun _ => ?_)
  refine zRn_n 1 rfl ?_
  refine zR_getf rfl h1 rfl ?_
  refine zRn_n 2 rfl ?_
  refine zR_lt (fun _ => ?_) (fun h => absurd ((z_100 (by omega)).mpr hn) h)
  refine zRn_n 1 rfl ?_
  refine zR_getf rfl h1 rfl ?_
  refine zRn_n 1 rfl ?_
  refine zR_getf rfl h1 rfl ?_
  refine zRn_n 1 rfl ?_
  refine zR_cast rfl h2 (zix_nI (by omega)) (zblt (by omega)) ?_
  rw [z_char g1 g2]
  have h1' := zset_ne (c' := .inr (.inl (.char, t.set n x))) h1 (show 2 ≠ 1 by decide)
  refine zRn_n 2 rfl ?_
  refine zR_getf rfl h1' rfl ?_
  refine zRn_n 2 rfl ?_
  refine zR_putf rfl h1' rfl rfl ?_
  rw [show nI (n + 1) = nI n + Int32.ofInt 1 from nI_succ n]
  exact zRn_n 1 rfl (zRn_ret rfl)
theorem zc_type0 {fs : List Value} (h0 : σ[0]? = some (.inl (0, .ref 2 :: fs))) (h1 : σ[1]? = some (.inl (1, [.ref 3, .int (nI n)]))) (hn : n ≤ 100) (h : x < 32 ∨ 126 < x ∨ n = 100) : zR none 12 (0, zent [.ref 1, .int x] 2, [], σ, 0, 0) (some (.int 0), σ, 0, 0) := by
  refine zRn_n 1 rfl ?_
  refine zR_getf rfl h0 rfl ?_
  refine zRn_n 1 rfl ?_
  exact zR_callv rfl rfl rfl h1 rfl (zc_append0 h1 hn h) rfl (zRn_ret rfl)
theorem zc_type1 {fs : List Value} (h0 : σ[0]? = some (.inl (0, .ref 2 :: fs))) (h1 : σ[1]? = some (.inl (1, [.ref 3, .int (nI n)]))) (h2 : σ[2]? = some (.inr (.inl (.char, t)))) (ht : t.length = 100) (hn : n < 100) (g1 : ¬ x < 32) (g2 : ¬ 126 < x) : zR none 12 (0, zent [.ref 1, .int x] 2, [], σ, 0, 0) (some (.int 1), (σ.set 2 (.inr (.inl (.char, t.set n x)))).set 1 (.inl (1, [.ref 3, .int (nI (n + 1))])), 0, 0) := by
  refine zRn_n 1 rfl ?_
  refine zR_getf rfl h0 rfl ?_
  refine zRn_n 1 rfl ?_
  exact zR_callv rfl rfl rfl h1 rfl (zc_append1 h1 h2 ht hn g1 g2) rfl (zRn_ret rfl)
theorem zc_clear {fs : List Value} {m : Int32} (h0 : σ[0]? = some (.inl (0, .ref 2 :: fs))) (h1 : σ[1]? = some (.inl (1, [.ref 3, .int m]))) : zR none 14 (0, zent [.ref 1] 1, [], σ, 0, 0) (none, σ.set 1 (.inl (1, [.ref 3, .int 0])), 0, 0) := by
  refine zRn_n 1 rfl ?_
  refine zR_getf rfl h0 rfl ?_
  refine zRn_n 1 rfl ?_
  refine zR_putf rfl h1 rfl rfl ?_
  exact zRn_ret rfl
variable {seen given many arrows siphons sums rows : Int32}
theorem zm_type0 (h1 : σ[123]? = some (.inl (10, zMf (nI n) seen given many arrows siphons sums rows))) (hn : n ≤ 100) (h : x < 32 ∨ 126 < x ∨ n = 100) : zR none 13 (0, zent [.ref 124, .int x] 2, [], σ, 0, 0) (some (.int 0), σ, 0, 0) := by
  refine zRn_n 3 rfl ?_
  refine zR_lt (fun _ => zRn_n 1 rfl (zRn_ret rfl)) (fun g1 => ?_)
  refine zRn_n 3 rfl ?_
  refine zR_gt (fun _ => zRn_n 1 rfl (zRn_ret rfl)) (fun g2 => ?_)
  refine zRn_n 1 rfl ?_
  refine zR_getf rfl h1 rfl ?_
  refine zRn_n 2 rfl ?_
  refine zR_ne (fun _ => zRn_n 1 rfl (zRn_ret rfl)) (fun g3 => ?_)
  rcases h with h | h | h
  · exact absurd h g1
  · exact absurd h g2
  · subst h
    exact absurd (show nI 100 = (Int8.ofInt 100).toInt32 by decide +kernel) g3
theorem zm_type1 (h1 : σ[123]? = some (.inl (10, zMf (nI n) seen given many arrows siphons sums rows))) (h2 : σ[124]? = some (.inr (.inl (.char, t)))) (ht : t.length = 100) (hn : n < 100) (g1 : ¬ x < 32) (g2 : ¬ 126 < x) : zR none 13 (0, zent [.ref 124, .int x] 2, [], σ, 0, 0) (some (.int 1), (σ.set 124 (.inr (.inl (.char, t.set n x)))).set 123 (.inl (10, zMf (nI (n + 1)) seen given many arrows siphons sums rows)), 0, 0) := by
  refine zRn_n 3 rfl ?_
  refine zR_lt (fun h => absurd h g1) (fun _ => ?_)
  refine zRn_n 3 rfl ?_
  refine zR_gt (fun h => absurd h g2) (fun _ => ?_)
  refine zRn_n 1 rfl ?_
  refine zR_getf rfl h1 rfl ?_
  refine zRn_n 2 rfl ?_
  refine zR_ne (fun h => ?_) (fun _ => ?_)
  · rw [show (Int8.ofInt 100).toInt32 = nI 100 by decide +kernel, nI_eq (by omega) (by omega)] at h
    omega
  refine zRn_n 1 rfl ?_
  refine zR_getf rfl h1 rfl ?_
  refine zRn_n 1 rfl ?_
  refine zR_getf rfl h1 rfl ?_
  refine zRn_n 1 rfl ?_
  refine zR_cast rfl h2 (zix_nI (by omega)) (zblt (by omega)) ?_
  rw [z_char g1 g2]
  have h1' := zset_ne (c' := .inr (.inl (.char, t.set n x))) h1 (show 124 ≠ 123 by decide)
  refine zRn_n 2 rfl ?_
  refine zR_getf rfl h1' rfl ?_
  refine zRn_n 2 rfl ?_
  refine zR_putf rfl h1' rfl rfl ?_
  rw [show nI (n + 1) = nI n + Int32.ofInt 1 from nI_succ n]
  exact zRn_n 1 rfl (zRn_ret rfl)
theorem zm_clear {m : Int32} (h1 : σ[123]? = some (.inl (10, zMf m seen given many arrows siphons sums rows))) : zR none 15 (0, zent [.ref 124] 1, [], σ, 0, 0) (none, σ.set 123 (.inl (10, zMf 0 seen given many arrows siphons sums rows)), 0, 0) := by
  refine zRn_n 2 rfl ?_
  refine zR_putf rfl h1 rfl rfl ?_
  exact zRn_ret rfl
end ZTX

/-! The state at the start. -/
section YIN
theorem yi_14 : ∀ i, i < 10 → zσ0[16 + i]? = some (.inr (.inr (.inl (List.replicate 7 0)))) := by
  intro i hi
  have h : i = 0 ∨ i = 1 ∨ i = 2 ∨ i = 3 ∨ i = 4 ∨ i = 5 ∨ i = 6 ∨ i = 7 ∨ i = 8 ∨ i = 9 := by omega
  rcases h with rfl | rfl | rfl | rfl | rfl | rfl | rfl | rfl | rfl | rfl <;> rfl
theorem yi_27 : ∀ i, i < 10 → zσ0[29 + i]? = some (.inr (.inr (.inl (List.replicate 7 0)))) := by
  intro i hi
  have h : i = 0 ∨ i = 1 ∨ i = 2 ∨ i = 3 ∨ i = 4 ∨ i = 5 ∨ i = 6 ∨ i = 7 ∨ i = 8 ∨ i = 9 := by omega
  rcases h with rfl | rfl | rfl | rfl | rfl | rfl | rfl | rfl | rfl | rfl <;> rfl
theorem yi_82 : ∀ i, i < 10 → zσ0[84 + i]? = some (.inr (.inr (.inl (List.replicate 7 0)))) := by
  intro i hi
  have h : i = 0 ∨ i = 1 ∨ i = 2 ∨ i = 3 ∨ i = 4 ∨ i = 5 ∨ i = 6 ∨ i = 7 ∨ i = 8 ∨ i = 9 := by omega
  rcases h with rfl | rfl | rfl | rfl | rfl | rfl | rfl | rfl | rfl | rfl <;> rfl
theorem yr_14 : ∀ i, i < 10 → ([17, 18, 19, 20, 21, 22, 23, 24, 25, 26] : List Nat)[i]? = some (16 + i + 1) := by
  intro i hi
  have h : i = 0 ∨ i = 1 ∨ i = 2 ∨ i = 3 ∨ i = 4 ∨ i = 5 ∨ i = 6 ∨ i = 7 ∨ i = 8 ∨ i = 9 := by omega
  rcases h with rfl | rfl | rfl | rfl | rfl | rfl | rfl | rfl | rfl | rfl <;> rfl
theorem yr_27 : ∀ i, i < 10 → ([30, 31, 32, 33, 34, 35, 36, 37, 38, 39] : List Nat)[i]? = some (29 + i + 1) := by
  intro i hi
  have h : i = 0 ∨ i = 1 ∨ i = 2 ∨ i = 3 ∨ i = 4 ∨ i = 5 ∨ i = 6 ∨ i = 7 ∨ i = 8 ∨ i = 9 := by omega
  rcases h with rfl | rfl | rfl | rfl | rfl | rfl | rfl | rfl | rfl | rfl <;> rfl
theorem yr_82 : ∀ i, i < 10 → ([85, 86, 87, 88, 89, 90, 91, 92, 93, 94] : List Nat)[i]? = some (84 + i + 1) := by
  intro i hi
  have h : i = 0 ∨ i = 1 ∨ i = 2 ∨ i = 3 ∨ i = 4 ∨ i = 5 ∨ i = 6 ∨ i = 7 ∨ i = 8 ∨ i = 9 := by omega
  rcases h with rfl | rfl | rfl | rfl | rfl | rfl | rfl | rfl | rfl | rfl <;> rfl
theorem yi_47 : ∀ i, i < 35 → zσ0[47 + i]? = some (.inr (.inl (.int, List.replicate 7 0))) := by
  intro i hi
  have h : i = 0 ∨ i = 1 ∨ i = 2 ∨ i = 3 ∨ i = 4 ∨ i = 5 ∨ i = 6 ∨ i = 7 ∨ i = 8 ∨ i = 9 ∨ i = 10 ∨ i = 11 ∨ i = 12 ∨ i = 13 ∨ i = 14 ∨ i = 15 ∨ i = 16 ∨ i = 17 ∨ i = 18 ∨ i = 19 ∨ i = 20 ∨ i = 21 ∨ i = 22 ∨ i = 23 ∨ i = 24 ∨ i = 25 ∨ i = 26 ∨ i = 27 ∨ i = 28 ∨ i = 29 ∨ i = 30 ∨ i = 31 ∨ i = 32 ∨ i = 33 ∨ i = 34 := by omega
  rcases h with rfl | rfl | rfl | rfl | rfl | rfl | rfl | rfl | rfl | rfl | rfl | rfl | rfl | rfl | rfl | rfl | rfl | rfl | rfl | rfl | rfl | rfl | rfl | rfl | rfl | rfl | rfl | rfl | rfl | rfl | rfl | rfl | rfl | rfl | rfl <;> rfl
theorem yi_95 : ∀ i, i < 9 → zσ0[95 + 2 + i]? = some (.inr (.inl (.int, List.replicate 7 0))) := by
  intro i hi
  have h : i = 0 ∨ i = 1 ∨ i = 2 ∨ i = 3 ∨ i = 4 ∨ i = 5 ∨ i = 6 ∨ i = 7 ∨ i = 8 := by omega
  rcases h with rfl | rfl | rfl | rfl | rfl | rfl | rfl | rfl | rfl <;> rfl
theorem yi_109 : ∀ i, i < 9 → zσ0[109 + 2 + i]? = some (.inr (.inl (.int, List.replicate 7 0))) := by
  intro i hi
  have h : i = 0 ∨ i = 1 ∨ i = 2 ∨ i = 3 ∨ i = 4 ∨ i = 5 ∨ i = 6 ∨ i = 7 ∨ i = 8 := by omega
  rcases h with rfl | rfl | rfl | rfl | rfl | rfl | rfl | rfl | rfl <;> rfl
theorem yi_mat {o : Nat} {rf : List Nat} (h0 : zσ0[o]? = some (.inl (7, [.ref (o + 2), .ref (o + 13), .int 0]))) (h1 : zσ0[o + 1]? = some (.inr (.inr (.inr (.long, rf))))) (hl : rf.length = 10) (hr : ∀ i, i < 10 → rf[i]? = some (o + 2 + i + 1)) (hi : ∀ i, i < 10 → zσ0[o + 2 + i]? = some (.inr (.inr (.inl (List.replicate 7 0))))) : yXg o (fun i => o + 2 + i) ∧ yXo zσ0 o (fun i => o + 2 + i) (nI 0) ∧ ∀ m, yXr zσ0 (fun i => o + 2 + i) 0 m := ⟨⟨fun i hi => ⟨by show o + 2 ≤ o + 2 + i; omega, by show o + 2 + i ≤ o + 11; omega⟩, fun i j _ _ e => by
  have e : o + 2 + i = o + 2 + j := e
  omega⟩, ⟨h0, rf, h1, hl, hr⟩, fun m => ⟨by omega, fun i hi2 => ⟨_, hi i hi2, rfl, fun q => absurd q (Nat.not_lt_zero i)⟩⟩⟩
theorem yi_net {b : Nat} (h0 : zσ0[b]? = some (.inl (4, [.ref (b + 2), .ref (b + 12), .ref (b + 13), .ref (b + 14), .int (nI 0), .int (nI 0)]))) (h1 : zσ0[b + 1]? = some (.inr (.inr (.inr (.int, (List.range 9).map (fun j => b + 3 + j)))))) (hi : ∀ i, i < 9 → zσ0[b + 2 + i]? = some (.inr (.inl (.int, List.replicate 7 0)))) (h3 : zσ0[b + 11]? = some (.inr (.inl (.int, List.replicate 9 0)))) (h4 : zσ0[b + 12]? = some (.inr (.inl (.int, List.replicate 10 0)))) (h5 : zσ0[b + 13]? = some (.inr (.inl (.int, List.replicate 10 0)))) : zNA zσ0 b [] [] := zNA_0 (cs := List.replicate 9 (List.replicate 7 0)) (sp := List.replicate 9 0) (so := List.replicate 10 0) (ta := List.replicate 10 0) ⟨h0, h1, fun i hi2 => ⟨List.replicate 7 0, by rw [List.getElem?_replicate, if_pos hi2], rfl, hi i hi2⟩, h3, h4, h5, rfl, rfl, rfl, rfl⟩
theorem yi_rk (P : Nat × Nat → Prop) : yrk (yKp ([], []) P) = 0 := ycn_z 7 (fun c _ q => q ⟨fun x => if x = c then 1 else 0, fun q hq => by simp at hq, by
  show (if c = c then (1 : Int) else 0) ≠ 0
  rw [if_pos rfl]; decide, fun j hj _ => by
  show (if j = c then (1 : Int) else 0) = 0
  rw [if_neg (by omega)]⟩)
theorem ysl_none {P : Nat → Prop} (h : ∀ x, ¬ P x) : ∀ m, ysl P m = []
  | 0 => rfl
  | m + 1 => by rw [ysl_n (h m)]; exact ysl_none h m
theorem yi_all {S : Nat} (h1 : 1 ≤ S) (h : ySb S (yall ([], []))) : False := by
  have h : S &&& 0 = S := h
  rw [Nat.and_zero] at h
  omega
theorem yi_si (m : Nat) : ysl (yPs ([], [])) m = [] := ysl_none (fun x q => yi_all q.1 q.2.1) m
theorem yi_su (m : Nat) : ysl (yPw ([], [])) m = [] := ysl_none (fun x q => yi_all q.1 q.2.1) m
theorem yi_good : yGood ([], []) := ⟨by simp, by simp, fun _ h => by simp at h, fun _ h => by simp at h, by simp⟩
theorem yi_cls : yCls 0 (List.replicate 100 0) ([], []) zσ0 := by
  obtain ⟨a1, a2, a3⟩ := yi_mat (o := 14) rfl rfl rfl yr_14 yi_14
  obtain ⟨b1, b2, b3⟩ := yi_mat (o := 27) rfl rfl rfl yr_27 yi_27
  obtain ⟨c1, c2, c3⟩ := yi_mat (o := 82) rfl rfl rfl yr_82 yi_82
  refine ⟨95, 109, Or.inl ⟨rfl, rfl⟩, rfl, rfl, rfl, ⟨0, 0, 0, rfl⟩, ⟨(List.replicate 7 0, List.replicate 7 0, 0, 0), rfl, rfl, rfl, rfl, rfl⟩, yi_net rfl rfl yi_95 rfl rfl rfl, (yi_net rfl rfl yi_109 rfl rfl rfl).sh, ?_, ?_, ?_, ?_⟩
  · exact ⟨_, _, _, _, _, rfl, rfl, rfl, rfl, rfl, rfl, rfl, ⟨rfl, fun i hi => absurd hi (Nat.not_lt_zero i)⟩, rfl, rfl, rfl, fun x hx => absurd hx (Nat.not_lt_zero x), fun k hk => absurd hk (Nat.not_lt_zero k)⟩
  · refine ⟨List.replicate 9 0, ?_, rfl, rfl, fun i hi => absurd hi (Nat.not_lt_zero i), ⟨_, _, _, b1, b2, b3 _, rfl, rfl⟩, 0, 0, _, fun _ _ => 0, fun _ _ => 0, fun _ => 0, _, a1, a2, a3 _, rfl, rfl, ?_⟩
    · rw [yi_rk]; rfl
    · exact ⟨⟨Nat.le_refl 0, fun i h => by omega, fun i j _ h => by omega, fun i h => by omega, fun i c h => by omega, fun i j h => by omega, fun j c _ h => by omega⟩, fun j h => by omega, fun x _ q h => by omega, fun j h => by omega, fun w => ⟨fun _ q hq => by simp at hq, fun _ i hi => by omega⟩, fun w => ⟨fun _ q hq => by simp at hq, fun _ i hi => by omega⟩, fun i h => by omega⟩
  · rw [yi_si]
    exact ⟨rfl, _, rfl, rfl, by simp, fun k hk => by simp at hk⟩
  · unfold ySu
    rw [yi_su]
    exact ⟨rfl, ⟨rfl, _, rfl, rfl, by simp, fun k hk => by simp at hk⟩, ⟨rfl, fun k hk => ⟨_, yi_47 k hk, rfl, fun q => by simp at q⟩⟩, _, _, _, c1, c2, c3 _, rfl, rfl⟩
theorem yi_ref : yRef 0 (List.replicate 100 0) ([], []) zσ0 := by
  refine ⟨rfl, rfl, by omega, ?_, yi_good, ⟨0, 0, ?_⟩, ⟨_, _, rfl, rfl, rfl, rfl⟩, _, _, rfl, rfl, rfl, rfl⟩
  · intro c hc
    simp at hc
  · unfold yRT yTq
    rw [yi_su, yi_si]
    exact ⟨⟨⟨_, rfl⟩, ⟨_, rfl, rfl, by simp, fun k hk => by simp at hk⟩, ⟨_, rfl, List.length_replicate, fun k c hk => by simp at hk⟩, ⟨_, rfl, List.length_replicate⟩, _, rfl, rfl⟩, ⟨_, _, _, _, rfl, rfl, rfl, rfl, List.length_replicate, fun c hc => absurd hc (Nat.not_lt_zero c), ⟨rfl, fun a b ha => absurd ha (Nat.not_lt_zero a)⟩, ⟨rfl, fun a b ha => absurd ha (Nat.not_lt_zero a)⟩, rfl, fun a ha => absurd ha (Nat.not_lt_zero a), fun a => yL_self⟩, _, rfl, rfl, by simp, fun k hk => by simp at hk⟩
end YIN

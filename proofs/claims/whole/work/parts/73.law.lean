/-! The law's loop. -/
section YLW
/-- the law comes to 1 from here -/
def yLw (xs : List Int32) (a : zS) : Prop := ∃ σ', zR (some xs) 128 a (some (.int 1), σ', 138, 1998)
variable {xs : List Int32} {σ : List zC} {N : zN} {n : Nat} {t : List Int32}
theorem yLw_n (k : Nat) {a a' : zS} (h : zsts zP zFT zCD (some xs) 128 k a = some a') (q : yLw xs a') : yLw xs a := by
  obtain ⟨σ', r⟩ := q
  exact ⟨σ', zRn_n k h r⟩
theorem yLw_scr {pc : Nat} {L : List (Option Value)} {st : List Value} {len x1 x2 x3 j : Nat} {i v : Int32} (h : zins zP 128 pc = some (.iaload, len, x1, x2, x3)) (hi : zix i = some j) (hv : xs[j]? = some v) (q : yLw xs (pc + 1, L, .int v :: st, σ, 138, 1998)) : yLw xs (pc, L, .int i :: .ref 0 :: st, σ, 138, 1998) := by
  obtain ⟨σ', r⟩ := q
  exact ⟨σ', zR_scr h hi hv r⟩
theorem yLw_call {pc : Nat} {L : List (Option Value)} {st : List Value} {len x1 x2 x3 i k mz : Nat} {as rest : List Value} {fs : List Value} {R : Option Value → List zC → Prop} (h : zins zP 128 pc = some (.invokevirtual i, len, x1, x2, x3)) (ht : ztake x2 st = some (.ref (k + 1) :: as, rest)) (hM : (zP[x1]?).map (fun M => M.2.2.1) = some mz) (hc : σ[k]? = some (.inl (x3, fs))) (hl : Nat.ble (zent0 (.ref (k + 1) :: as)).length mz = true) (hr : zU x1 (0, zent (.ref (k + 1) :: as) mz, [], σ, 0, 0) R) (q : ∀ v σ', R v σ' → znrO v = true ∧ yLw xs (pc + 3, L, v.toList ++ rest, σ', 138, 1998)) : yLw xs (pc, L, st, σ, 138, 1998) := by
  obtain ⟨v, σ', r, w⟩ := hr
  obtain ⟨hv, σ2, r2⟩ := q v σ' w
  exact ⟨σ2, zR_callv h ht hM hc hl r hv r2⟩
theorem yLw_eq {u f : Nat} {L : List (Option Value)} {st : List Value} {x w : Int32} (h : x = w) (q : yLw xs (u, L, st, σ, 138, 1998)) : yLw xs (zbr .eq x w u f, L, st, σ, 138, 1998) := by
  rw [show zbr .eq x w u f = u from if_pos h]
  exact q
/-! What one side does the other doesn't see. -/
theorem yCls_kp {K : Nat → Prop} {σ' : List zC} (h : yCls n t N σ) (k : zkp K σ σ') (hK : ∀ j, j < 123 → ¬ K j) : yCls n t N σ' := by
  obtain ⟨b, b2, hb, h0, h1, h2, ⟨s, r, f, h3⟩, ⟨q, h4⟩, h5, h6, h7, h8, h9, h10⟩ := h
  exact ⟨b, b2, hb, zkp_at k h0 (hK _ (by omega)), zkp_at k h1 (hK _ (by omega)), zkp_at k h2 (hK _ (by omega)), ⟨s, r, f, zkp_at k h3 (hK _ (by omega))⟩, ⟨q, zLsh_kp h4 k (fun j _ _ => hK j (by omega))⟩, zNA_kp h5 k (fun j _ _ => hK j (by omega)), zNsh_kp h6 k (fun j _ _ => hK j (by omega)), yCl_kp h7 k (fun j _ _ => hK j (by omega)), yRn_kp h8 k (fun j _ _ => hK j (by omega)), ySo_kp h9 k (hK _ (by omega)) (hK _ (by omega)), ySu_kp h10 k (fun j _ _ => hK j (by omega))⟩
theorem yTq_kp {K : Nat → Prop} {σ' : List zC} {size seen given arrows siphons size' : Int32} {S : Nat} (h : yTq N size seen given arrows siphons S σ) (k : zkp K σ σ') (hK : ∀ j, 134 ≤ j → j ≤ 137 → ¬ K j) (ho : ∀ sums rows, σ[123]? = some (.inl (10, zMf size seen given (nI N.1.length) arrows siphons sums rows)) → σ'[123]? = some (.inl (10, zMf size' seen given (nI N.1.length) arrows siphons sums rows))) : yTq N size' seen given arrows siphons S σ' := by
  obtain ⟨⟨rows, o⟩, ⟨a, a1, a2⟩, ⟨b, b1, b2⟩, ⟨c, c1, c2⟩, d, d1, d2⟩ := h
  exact ⟨⟨rows, ho _ _ o⟩, ⟨a, zkp_at k a1 (hK _ (by omega) (by omega)), a2⟩, ⟨b, zkp_at k b1 (hK _ (by omega) (by omega)), b2⟩, ⟨c, zkp_at k c1 (hK _ (by omega) (by omega)), c2⟩, d, zkp_at k d1 (hK _ (by omega) (by omega)), d2⟩
theorem yRT_kp {K : Nat → Prop} {σ' : List zC} {size seen given size' : Int32} (h : yRT N size seen given 128 σ) (k : zkp K σ σ') (hK : ∀ j, 129 ≤ j → j ≤ 137 → ¬ K j) (ho : ∀ arrows siphons sums rows, σ[123]? = some (.inl (10, zMf size seen given (nI N.1.length) arrows siphons sums rows)) → σ'[123]? = some (.inl (10, zMf size' seen given (nI N.1.length) arrows siphons sums rows))) : yRT N size' seen given 128 σ' := by
  obtain ⟨h1, h2, l, h3, h4⟩ := h
  exact ⟨yTq_kp h1 k (fun j _ _ => hK j (by omega) (by omega)) (fun sums rows => ho _ _ sums rows), yMN_kp h2 k (fun j _ _ => hK j (by omega) (by omega)), l, zkp_at k h3 (hK _ (by omega) (by omega)), h4⟩
theorem yRef_rest {K : Nat → Prop} {σ' : List zC} {t' : List Int32} {n' : Nat} (h : yRef n t N σ) (k : zkp K σ σ') (hK : ∀ j, 125 ≤ j → j ≤ 137 → ¬ K j) (ht : σ'[124]? = some (.inr (.inl (.char, t')))) (hl : t'.length = 100) (hn : n' ≤ 100) (hc : zchs (t'.take n')) (ho : ∀ seen given arrows siphons sums rows, σ[123]? = some (.inl (10, zMf (nI n) seen given (nI N.1.length) arrows siphons sums rows)) → σ'[123]? = some (.inl (10, zMf (nI n') seen given (nI N.1.length) arrows siphons sums rows))) : yRef n' t' N σ' := by
  obtain ⟨-, -, -, -, hG, ⟨seen, given, hR⟩, ⟨sd, gv, m1, m2, m3⟩, l, r, l1, l2, l3⟩ := h
  exact ⟨ht, hl, hn, hc, hG, ⟨seen, given, yRT_kp hR k (fun j _ _ => hK j (by omega) (by omega)) (fun a b c d => ho seen given a b c d)⟩, ⟨sd, gv, zkp_at k m1 (hK _ (by omega) (by omega)), zkp_at k m2 (hK _ (by omega) (by omega)), m3⟩, l, r, zkp_at k l1 (hK _ (by omega) (by omega)), zkp_at k l2 (hK _ (by omega) (by omega)), l3⟩
theorem yRef_kp {K : Nat → Prop} {σ' : List zC} (h : yRef n t N σ) (k : zkp K σ σ') (hK : ∀ j, 123 ≤ j → ¬ K j) : yRef n t N σ' := yRef_rest h k (fun j _ _ => hK j (by omega)) (zkp_at k h.1 (hK _ (by omega))) h.2.1 h.2.2.1 h.2.2.2.1 (fun _ _ _ _ _ _ o => zkp_at k o (hK _ (by omega)))
/-- after a call that leaves the reference's results as they are -/
theorem yRef_q {σ' : List zC} {seen given V : Int32} {v : Option Value} (h : yRef n t N σ) (hq : yRq N (nI n) seen given σ V v σ') : yRef n t N σ' := by
  obtain ⟨-, k, hR⟩ := hq
  obtain ⟨h1, h2, h3, h4, hG, -, ⟨sd, gv, m1, m2, m3⟩, l, r, l1, l2, l3⟩ := h
  have kk : ∀ {j : Nat} {c : zC}, 124 ≤ j → j ≤ 128 → σ[j]? = some c → σ'[j]? = some c := fun a b e => zkp_at k e (by rintro (q | q | q) <;> omega)
  exact ⟨kk (by omega) (by omega) h1, h2, h3, h4, hG, ⟨seen, given, hR⟩, ⟨sd, gv, kk (by omega) (by omega) m1, kk (by omega) (by omega) m2, m3⟩, l, r, kk (by omega) (by omega) l1, kk (by omega) (by omega) l2, l3⟩
theorem yCls_txt {σ' : List zC} {n' : Nat} {t' : List Int32} (h : yCls n t N σ) (k : zkp (fun j => j = 1 ∨ j = 2) σ σ') (h1 : σ'[1]? = some (.inl (1, [.ref 3, .int (nI n')]))) (h2 : σ'[2]? = some (.inr (.inl (.char, t')))) : yCls n' t' N σ' := by
  obtain ⟨b, b2, hb, h0, -, -, ⟨s, r, f, h3⟩, ⟨q, h4⟩, h5, h6, h7, h8, h9, h10⟩ := h
  exact ⟨b, b2, hb, zkp_at k h0 (by omega), h1, h2, ⟨s, r, f, zkp_at k h3 (by omega)⟩, ⟨q, zLsh_kp h4 k (fun j _ _ => by omega)⟩, zNA_kp h5 k (fun j _ _ => by omega), zNsh_kp h6 k (fun j _ _ => by omega), yCl_kp h7 k (fun j _ _ => by omega), yRn_kp h8 k (fun j _ _ => by omega), ySo_kp h9 k (by omega) (by omega), ySu_kp h10 k (fun j _ _ => by omega)⟩
/-! The calls. -/
variable {j : Nat} {v1 v2 : Int32}
abbrev yFr4 (j : Nat) : List (Option Value) := [some (.ref 0), some (.ref 1), some (.ref 124), some (.int (nI j))]
set_option maxRecDepth 100000 in
theorem yl_3 (hC : yCls n t N σ) (hR : yRef n t N σ) (nx : ∀ n t N σ, yCls n t N σ → yRef n t N σ → yLw xs (498, yFr4 j, [], σ, 138, 1998)) : yLw xs (177, yFr4 j, [], σ, 138, 1998) := by
  have hG := hR.2.2.2.2.1
  have h0 : ∃ b b2, σ[0]? = some (.inl (0, yXf b b2)) := by
    obtain ⟨b, b2, -, h0, -⟩ := hC
    exact ⟨b, b2, h0⟩
  obtain ⟨b, b2, h0⟩ := h0
  obtain ⟨seen, given, hT⟩ := hR.2.2.2.2.2.1
  obtain ⟨rows, o⟩ := hT.1.1
  refine yLw_n 1 rfl ?_
  refine yLw_call rfl rfl rfl h0 rfl (yc_reactions hC) ?_
  rintro _ _ ⟨rfl, rfl⟩
  refine ⟨rfl, ?_⟩
  refine yLw_n 1 rfl ?_
  refine yLw_call rfl rfl rfl o rfl (ym_reactions hT) ?_
  rintro _ _ ⟨rfl, rfl⟩
  refine ⟨rfl, ?_⟩
  refine yLw_n 1 rfl ?_
  exact yLw_eq rfl (nx n t N σ hC hR)
set_option maxRecDepth 100000 in
theorem yl_4 (hC : yCls n t N σ) (hR : yRef n t N σ) (nx : ∀ n t N σ, yCls n t N σ → yRef n t N σ → yLw xs (498, yFr4 j, [], σ, 138, 1998)) : yLw xs (190, yFr4 j, [], σ, 138, 1998) := by
  have hG := hR.2.2.2.2.1
  have h0 : ∃ b b2, σ[0]? = some (.inl (0, yXf b b2)) := by
    obtain ⟨b, b2, -, h0, -⟩ := hC
    exact ⟨b, b2, h0⟩
  obtain ⟨b, b2, h0⟩ := h0
  obtain ⟨seen, given, hT⟩ := hR.2.2.2.2.2.1
  obtain ⟨rows, o⟩ := hT.1.1
  refine yLw_n 1 rfl ?_
  refine yLw_call rfl rfl rfl h0 rfl (yc_complexes hC) ?_
  rintro _ _ ⟨rfl, rfl⟩
  refine ⟨rfl, ?_⟩
  refine yLw_n 1 rfl ?_
  refine yLw_call rfl rfl rfl o rfl (ym_complexes hT) ?_
  rintro _ _ ⟨rfl, rfl⟩
  refine ⟨rfl, ?_⟩
  refine yLw_n 1 rfl ?_
  exact yLw_eq rfl (nx n t N σ hC hR)
set_option maxRecDepth 100000 in
theorem yl_5 (hC : yCls n t N σ) (hR : yRef n t N σ) (i1 : zix (nI j + Int32.ofInt 1) = some (j + 1)) (x1 : xs[j + 1]? = some v1) (i2 : zix (nI j + Int32.ofInt 2) = some (j + 2)) (x2 : xs[j + 2]? = some v2) (nx : ∀ n t N σ, yCls n t N σ → yRef n t N σ → yLw xs (498, yFr4 j, [], σ, 138, 1998)) : yLw xs (203, yFr4 j, [], σ, 138, 1998) := by
  have hG := hR.2.2.2.2.1
  have h0 : ∃ b b2, σ[0]? = some (.inl (0, yXf b b2)) := by
    obtain ⟨b, b2, -, h0, -⟩ := hC
    exact ⟨b, b2, h0⟩
  obtain ⟨b, b2, h0⟩ := h0
  obtain ⟨seen, given, hT⟩ := hR.2.2.2.2.2.1
  obtain ⟨rows, o⟩ := hT.1.1
  refine yLw_n 5 rfl ?_
  refine yLw_scr rfl i1 x1 ?_
  refine yLw_n 4 rfl ?_
  refine yLw_scr rfl i2 x2 ?_
  refine yLw_call rfl rfl rfl h0 rfl (yc_coef hC hG) ?_
  rintro _ _ ⟨rfl, rfl⟩
  refine ⟨rfl, ?_⟩
  refine yLw_n 5 rfl ?_
  refine yLw_scr rfl i1 x1 ?_
  refine yLw_n 4 rfl ?_
  refine yLw_scr rfl i2 x2 ?_
  refine yLw_call rfl rfl rfl o rfl (ym_coef hT hG) ?_
  rintro _ _ ⟨rfl, rfl⟩
  refine ⟨rfl, ?_⟩
  refine yLw_n 1 rfl ?_
  exact yLw_eq rfl (nx n t N σ hC hR)
set_option maxRecDepth 100000 in
theorem yl_6 (hC : yCls n t N σ) (hR : yRef n t N σ) (nx : ∀ n t N σ, yCls n t N σ → yRef n t N σ → yLw xs (498, yFr4 j, [], σ, 138, 1998)) : yLw xs (236, yFr4 j, [], σ, 138, 1998) := by
  have hG := hR.2.2.2.2.1
  have h0 : ∃ b b2, σ[0]? = some (.inl (0, yXf b b2)) := by
    obtain ⟨b, b2, -, h0, -⟩ := hC
    exact ⟨b, b2, h0⟩
  obtain ⟨b, b2, h0⟩ := h0
  obtain ⟨seen, given, hT⟩ := hR.2.2.2.2.2.1
  obtain ⟨rows, o⟩ := hT.1.1
  refine yLw_n 1 rfl ?_
  refine yLw_call rfl rfl rfl h0 rfl (yc_occ hC hG) ?_
  rintro _ _ ⟨rfl, rfl⟩
  refine ⟨rfl, ?_⟩
  refine yLw_n 1 rfl ?_
  refine yLw_call rfl rfl rfl o rfl (ym_occurring o hT.2.1 hG.1) ?_
  rintro _ _ ⟨rfl, rfl⟩
  refine ⟨rfl, ?_⟩
  refine yLw_n 1 rfl ?_
  exact yLw_eq rfl (nx n t N σ hC hR)
set_option maxRecDepth 100000 in
theorem yl_7 (hC : yCls n t N σ) (hR : yRef n t N σ) (nx : ∀ n t N σ, yCls n t N σ → yRef n t N σ → yLw xs (498, yFr4 j, [], σ, 138, 1998)) : yLw xs (249, yFr4 j, [], σ, 138, 1998) := by
  have hG := hR.2.2.2.2.1
  have h0 : ∃ b b2, σ[0]? = some (.inl (0, yXf b b2)) := by
    obtain ⟨b, b2, -, h0, -⟩ := hC
    exact ⟨b, b2, h0⟩
  obtain ⟨b, b2, h0⟩ := h0
  obtain ⟨seen, given, hT⟩ := hR.2.2.2.2.2.1
  obtain ⟨rows, o⟩ := hT.1.1
  refine yLw_n 1 rfl ?_
  refine yLw_call rfl rfl rfl h0 rfl (yc_linkage hC) ?_
  rintro _ _ ⟨rfl, rfl⟩
  refine ⟨rfl, ?_⟩
  refine yLw_n 1 rfl ?_
  refine yLw_call rfl rfl rfl o rfl (ym_linkage hT hG) ?_
  rintro _ _ ⟨rfl, rfl⟩
  refine ⟨rfl, ?_⟩
  refine yLw_n 1 rfl ?_
  exact yLw_eq rfl (nx n t N σ hC hR)
set_option maxRecDepth 100000 in
theorem yl_8 (hC : yCls n t N σ) (hR : yRef n t N σ) (i1 : zix (nI j + Int32.ofInt 1) = some (j + 1)) (x1 : xs[j + 1]? = some v1) (nx : ∀ n t N σ, yCls n t N σ → yRef n t N σ → yLw xs (498, yFr4 j, [], σ, 138, 1998)) : yLw xs (262, yFr4 j, [], σ, 138, 1998) := by
  have hG := hR.2.2.2.2.1
  have h0 : ∃ b b2, σ[0]? = some (.inl (0, yXf b b2)) := by
    obtain ⟨b, b2, -, h0, -⟩ := hC
    exact ⟨b, b2, h0⟩
  obtain ⟨b, b2, h0⟩ := h0
  obtain ⟨seen, given, hT⟩ := hR.2.2.2.2.2.1
  obtain ⟨rows, o⟩ := hT.1.1
  refine yLw_n 5 rfl ?_
  refine yLw_scr rfl i1 x1 ?_
  refine yLw_call rfl rfl rfl h0 rfl (yc_classOf hC hG) ?_
  rintro _ _ ⟨rfl, rfl⟩
  refine ⟨rfl, ?_⟩
  refine yLw_n 5 rfl ?_
  refine yLw_scr rfl i1 x1 ?_
  refine yLw_call rfl rfl rfl o rfl (ym_classOf hT hG) ?_
  rintro _ _ ⟨rfl, rfl⟩
  refine ⟨rfl, ?_⟩
  refine yLw_n 1 rfl ?_
  exact yLw_eq rfl (nx n t N σ hC hR)
set_option maxRecDepth 100000 in
theorem yl_9 (hC : yCls n t N σ) (hR : yRef n t N σ) (nx : ∀ n t N σ, yCls n t N σ → yRef n t N σ → yLw xs (498, yFr4 j, [], σ, 138, 1998)) : yLw xs (285, yFr4 j, [], σ, 138, 1998) := by
  have hG := hR.2.2.2.2.1
  have h0 : ∃ b b2, σ[0]? = some (.inl (0, yXf b b2)) := by
    obtain ⟨b, b2, -, h0, -⟩ := hC
    exact ⟨b, b2, h0⟩
  obtain ⟨b, b2, h0⟩ := h0
  obtain ⟨seen, given, hT⟩ := hR.2.2.2.2.2.1
  obtain ⟨rows, o⟩ := hT.1.1
  refine yLw_n 1 rfl ?_
  refine yLw_call rfl rfl rfl h0 rfl (yc_strongN hC) ?_
  rintro _ _ ⟨rfl, rfl⟩
  refine ⟨rfl, ?_⟩
  refine yLw_n 1 rfl ?_
  refine yLw_call rfl rfl rfl o rfl (ym_strong hT hG) ?_
  rintro _ _ ⟨rfl, rfl⟩
  refine ⟨rfl, ?_⟩
  refine yLw_n 1 rfl ?_
  exact yLw_eq rfl (nx n t N σ hC hR)
set_option maxRecDepth 100000 in
theorem yl_10 (hC : yCls n t N σ) (hR : yRef n t N σ) (i1 : zix (nI j + Int32.ofInt 1) = some (j + 1)) (x1 : xs[j + 1]? = some v1) (nx : ∀ n t N σ, yCls n t N σ → yRef n t N σ → yLw xs (498, yFr4 j, [], σ, 138, 1998)) : yLw xs (298, yFr4 j, [], σ, 138, 1998) := by
  have hG := hR.2.2.2.2.1
  have h0 : ∃ b b2, σ[0]? = some (.inl (0, yXf b b2)) := by
    obtain ⟨b, b2, -, h0, -⟩ := hC
    exact ⟨b, b2, h0⟩
  obtain ⟨b, b2, h0⟩ := h0
  obtain ⟨seen, given, hT⟩ := hR.2.2.2.2.2.1
  obtain ⟨rows, o⟩ := hT.1.1
  refine yLw_n 5 rfl ?_
  refine yLw_scr rfl i1 x1 ?_
  refine yLw_call rfl rfl rfl h0 rfl (yc_terminal hC hG) ?_
  rintro _ _ ⟨rfl, rfl⟩
  refine ⟨rfl, ?_⟩
  refine yLw_n 5 rfl ?_
  refine yLw_scr rfl i1 x1 ?_
  refine yLw_call rfl rfl rfl o rfl (ym_terminal hT hG) ?_
  rintro _ _ ⟨rfl, rfl⟩
  refine ⟨rfl, ?_⟩
  refine yLw_n 1 rfl ?_
  exact yLw_eq rfl (nx n t N σ hC hR)
set_option maxRecDepth 100000 in
theorem yl_11 (hC : yCls n t N σ) (hR : yRef n t N σ) (nx : ∀ n t N σ, yCls n t N σ → yRef n t N σ → yLw xs (498, yFr4 j, [], σ, 138, 1998)) : yLw xs (321, yFr4 j, [], σ, 138, 1998) := by
  have hG := hR.2.2.2.2.1
  have h0 : ∃ b b2, σ[0]? = some (.inl (0, yXf b b2)) := by
    obtain ⟨b, b2, -, h0, -⟩ := hC
    exact ⟨b, b2, h0⟩
  obtain ⟨b, b2, h0⟩ := h0
  obtain ⟨seen, given, hT⟩ := hR.2.2.2.2.2.1
  obtain ⟨rows, o⟩ := hT.1.1
  refine yLw_n 1 rfl ?_
  refine yLw_call rfl rfl rfl h0 rfl (yc_rank hC) ?_
  rintro _ _ ⟨rfl, rfl⟩
  refine ⟨rfl, ?_⟩
  refine yLw_n 1 rfl ?_
  refine yLw_call rfl rfl rfl o rfl (ym_rank hT hG) ?_
  intro v τ hq
  have hR2 := yRef_q hR hq
  obtain ⟨rfl, k, hT2⟩ := hq
  refine ⟨rfl, ?_⟩
  refine yLw_n 1 rfl ?_
  exact yLw_eq rfl (nx n t N τ (yCls_kp hC k (fun j hj => by rintro (q | q | q) <;> omega)) hR2)
set_option maxRecDepth 100000 in
theorem yl_12 (hC : yCls n t N σ) (hR : yRef n t N σ) (i1 : zix (nI j + Int32.ofInt 1) = some (j + 1)) (x1 : xs[j + 1]? = some v1) (nx : ∀ n t N σ, yCls n t N σ → yRef n t N σ → yLw xs (498, yFr4 j, [], σ, 138, 1998)) : yLw xs (334, yFr4 j, [], σ, 138, 1998) := by
  have hG := hR.2.2.2.2.1
  have h0 : ∃ b b2, σ[0]? = some (.inl (0, yXf b b2)) := by
    obtain ⟨b, b2, -, h0, -⟩ := hC
    exact ⟨b, b2, h0⟩
  obtain ⟨b, b2, h0⟩ := h0
  obtain ⟨seen, given, hT⟩ := hR.2.2.2.2.2.1
  obtain ⟨rows, o⟩ := hT.1.1
  refine yLw_n 5 rfl ?_
  refine yLw_scr rfl i1 x1 ?_
  refine yLw_call rfl rfl rfl h0 rfl (yc_def hC hG) ?_
  rintro _ _ ⟨rfl, rfl⟩
  refine ⟨rfl, ?_⟩
  refine yLw_n 5 rfl ?_
  refine yLw_scr rfl i1 x1 ?_
  refine yLw_call rfl rfl rfl o rfl (ym_def hT hG) ?_
  intro v τ hq
  have hR2 := yRef_q hR hq
  obtain ⟨rfl, k, hT2⟩ := hq
  refine ⟨rfl, ?_⟩
  refine yLw_n 1 rfl ?_
  exact yLw_eq rfl (nx n t N τ (yCls_kp hC k (fun j hj => by rintro (q | q | q) <;> omega)) hR2)
set_option maxRecDepth 100000 in
theorem yl_13 (hC : yCls n t N σ) (hR : yRef n t N σ) (nx : ∀ n t N σ, yCls n t N σ → yRef n t N σ → yLw xs (498, yFr4 j, [], σ, 138, 1998)) : yLw xs (357, yFr4 j, [], σ, 138, 1998) := by
  have hG := hR.2.2.2.2.1
  have h0 : ∃ b b2, σ[0]? = some (.inl (0, yXf b b2)) := by
    obtain ⟨b, b2, -, h0, -⟩ := hC
    exact ⟨b, b2, h0⟩
  obtain ⟨b, b2, h0⟩ := h0
  obtain ⟨seen, given, hT⟩ := hR.2.2.2.2.2.1
  obtain ⟨rows, o⟩ := hT.1.1
  refine yLw_n 1 rfl ?_
  refine yLw_call rfl rfl rfl h0 rfl (yc_siphons hC) ?_
  rintro _ _ ⟨rfl, rfl⟩
  refine ⟨rfl, ?_⟩
  refine yLw_n 1 rfl ?_
  refine yLw_call rfl rfl rfl o rfl (ym_siphons hT) ?_
  rintro _ _ ⟨rfl, rfl⟩
  refine ⟨rfl, ?_⟩
  refine yLw_n 1 rfl ?_
  exact yLw_eq rfl (nx n t N σ hC hR)
set_option maxRecDepth 100000 in
theorem yl_14 (hC : yCls n t N σ) (hR : yRef n t N σ) (i1 : zix (nI j + Int32.ofInt 1) = some (j + 1)) (x1 : xs[j + 1]? = some v1) (nx : ∀ n t N σ, yCls n t N σ → yRef n t N σ → yLw xs (498, yFr4 j, [], σ, 138, 1998)) : yLw xs (370, yFr4 j, [], σ, 138, 1998) := by
  have hG := hR.2.2.2.2.1
  have h0 : ∃ b b2, σ[0]? = some (.inl (0, yXf b b2)) := by
    obtain ⟨b, b2, -, h0, -⟩ := hC
    exact ⟨b, b2, h0⟩
  obtain ⟨b, b2, h0⟩ := h0
  obtain ⟨seen, given, hT⟩ := hR.2.2.2.2.2.1
  obtain ⟨rows, o⟩ := hT.1.1
  refine yLw_n 5 rfl ?_
  refine yLw_scr rfl i1 x1 ?_
  refine yLw_call rfl rfl rfl h0 rfl (yc_siphon hC) ?_
  rintro _ _ ⟨rfl, rfl⟩
  refine ⟨rfl, ?_⟩
  refine yLw_n 5 rfl ?_
  refine yLw_scr rfl i1 x1 ?_
  refine yLw_call rfl rfl rfl o rfl (ym_siphon hT) ?_
  rintro _ _ ⟨rfl, rfl⟩
  refine ⟨rfl, ?_⟩
  refine yLw_n 1 rfl ?_
  exact yLw_eq rfl (nx n t N σ hC hR)
set_option maxRecDepth 100000 in
theorem yl_15 (hC : yCls n t N σ) (hR : yRef n t N σ) (i1 : zix (nI j + Int32.ofInt 1) = some (j + 1)) (x1 : xs[j + 1]? = some v1) (nx : ∀ n t N σ, yCls n t N σ → yRef n t N σ → yLw xs (498, yFr4 j, [], σ, 138, 1998)) : yLw xs (393, yFr4 j, [], σ, 138, 1998) := by
  have hG := hR.2.2.2.2.1
  have h0 : ∃ b b2, σ[0]? = some (.inl (0, yXf b b2)) := by
    obtain ⟨b, b2, -, h0, -⟩ := hC
    exact ⟨b, b2, h0⟩
  obtain ⟨b, b2, h0⟩ := h0
  obtain ⟨seen, given, hT⟩ := hR.2.2.2.2.2.1
  obtain ⟨rows, o⟩ := hT.1.1
  refine yLw_n 5 rfl ?_
  refine yLw_scr rfl i1 x1 ?_
  refine yLw_call rfl rfl rfl h0 rfl (yc_conserved hC) ?_
  rintro _ _ ⟨rfl, rfl⟩
  refine ⟨rfl, ?_⟩
  refine yLw_n 5 rfl ?_
  refine yLw_scr rfl i1 x1 ?_
  refine yLw_call rfl rfl rfl o rfl (ym_conserved hT) ?_
  rintro _ _ ⟨rfl, rfl⟩
  refine ⟨rfl, ?_⟩
  refine yLw_n 1 rfl ?_
  exact yLw_eq rfl (nx n t N σ hC hR)
set_option maxRecDepth 100000 in
theorem yl_16 (hC : yCls n t N σ) (hR : yRef n t N σ) (nx : ∀ n t N σ, yCls n t N σ → yRef n t N σ → yLw xs (498, yFr4 j, [], σ, 138, 1998)) : yLw xs (416, yFr4 j, [], σ, 138, 1998) := by
  have hG := hR.2.2.2.2.1
  have h0 : ∃ b b2, σ[0]? = some (.inl (0, yXf b b2)) := by
    obtain ⟨b, b2, -, h0, -⟩ := hC
    exact ⟨b, b2, h0⟩
  obtain ⟨b, b2, h0⟩ := h0
  obtain ⟨seen, given, hT⟩ := hR.2.2.2.2.2.1
  obtain ⟨rows, o⟩ := hT.1.1
  refine yLw_n 1 rfl ?_
  refine yLw_call rfl rfl rfl h0 rfl (yc_sumsN hC) ?_
  rintro _ _ ⟨rfl, rfl⟩
  refine ⟨rfl, ?_⟩
  refine yLw_n 1 rfl ?_
  refine yLw_call rfl rfl rfl o rfl (ym_sumsN hT) ?_
  rintro _ _ ⟨rfl, rfl⟩
  refine ⟨rfl, ?_⟩
  refine yLw_n 1 rfl ?_
  exact yLw_eq rfl (nx n t N σ hC hR)
set_option maxRecDepth 100000 in
theorem yl_17 (hC : yCls n t N σ) (hR : yRef n t N σ) (i1 : zix (nI j + Int32.ofInt 1) = some (j + 1)) (x1 : xs[j + 1]? = some v1) (nx : ∀ n t N σ, yCls n t N σ → yRef n t N σ → yLw xs (498, yFr4 j, [], σ, 138, 1998)) : yLw xs (429, yFr4 j, [], σ, 138, 1998) := by
  have hG := hR.2.2.2.2.1
  have h0 : ∃ b b2, σ[0]? = some (.inl (0, yXf b b2)) := by
    obtain ⟨b, b2, -, h0, -⟩ := hC
    exact ⟨b, b2, h0⟩
  obtain ⟨b, b2, h0⟩ := h0
  obtain ⟨seen, given, hT⟩ := hR.2.2.2.2.2.1
  obtain ⟨rows, o⟩ := hT.1.1
  refine yLw_n 5 rfl ?_
  refine yLw_scr rfl i1 x1 ?_
  refine yLw_call rfl rfl rfl h0 rfl (yc_support hC) ?_
  rintro _ _ ⟨rfl, rfl⟩
  refine ⟨rfl, ?_⟩
  refine yLw_n 5 rfl ?_
  refine yLw_scr rfl i1 x1 ?_
  refine yLw_call rfl rfl rfl o rfl (ym_support hT) ?_
  rintro _ _ ⟨rfl, rfl⟩
  refine ⟨rfl, ?_⟩
  refine yLw_n 1 rfl ?_
  exact yLw_eq rfl (nx n t N σ hC hR)
set_option maxRecDepth 100000 in
theorem yl_18 (hC : yCls n t N σ) (hR : yRef n t N σ) (i1 : zix (nI j + Int32.ofInt 1) = some (j + 1)) (x1 : xs[j + 1]? = some v1) (i2 : zix (nI j + Int32.ofInt 2) = some (j + 2)) (x2 : xs[j + 2]? = some v2) (nx : ∀ n t N σ, yCls n t N σ → yRef n t N σ → yLw xs (498, yFr4 j, [], σ, 138, 1998)) : yLw xs (452, yFr4 j, [], σ, 138, 1998) := by
  have hG := hR.2.2.2.2.1
  have h0 : ∃ b b2, σ[0]? = some (.inl (0, yXf b b2)) := by
    obtain ⟨b, b2, -, h0, -⟩ := hC
    exact ⟨b, b2, h0⟩
  obtain ⟨b, b2, h0⟩ := h0
  obtain ⟨seen, given, hT⟩ := hR.2.2.2.2.2.1
  obtain ⟨rows, o⟩ := hT.1.1
  refine yLw_n 5 rfl ?_
  refine yLw_scr rfl i1 x1 ?_
  refine yLw_n 4 rfl ?_
  refine yLw_scr rfl i2 x2 ?_
  refine yLw_call rfl rfl rfl h0 rfl (yc_weight hC) ?_
  rintro _ _ ⟨rfl, rfl⟩
  refine ⟨rfl, ?_⟩
  refine yLw_n 5 rfl ?_
  refine yLw_scr rfl i1 x1 ?_
  refine yLw_n 4 rfl ?_
  refine yLw_scr rfl i2 x2 ?_
  refine yLw_call rfl rfl rfl o rfl (ym_weight hT) ?_
  rintro _ _ ⟨rfl, rfl⟩
  refine ⟨rfl, ?_⟩
  refine yLw_n 1 rfl ?_
  exact yLw_eq rfl (nx n t N σ hC hR)
set_option maxRecDepth 100000 in
theorem yl_19 (hC : yCls n t N σ) (hR : yRef n t N σ) (nx : ∀ n t N σ, yCls n t N σ → yRef n t N σ → yLw xs (498, yFr4 j, [], σ, 138, 1998)) : yLw xs (485, yFr4 j, [], σ, 138, 1998) := by
  have hG := hR.2.2.2.2.1
  have h0 : ∃ b b2, σ[0]? = some (.inl (0, yXf b b2)) := by
    obtain ⟨b, b2, -, h0, -⟩ := hC
    exact ⟨b, b2, h0⟩
  obtain ⟨b, b2, h0⟩ := h0
  obtain ⟨seen, given, hT⟩ := hR.2.2.2.2.2.1
  obtain ⟨rows, o⟩ := hT.1.1
  refine yLw_n 1 rfl ?_
  refine yLw_call rfl rfl rfl h0 rfl (yc_flags hC hG) ?_
  rintro _ _ ⟨rfl, rfl⟩
  refine ⟨rfl, ?_⟩
  refine yLw_n 1 rfl ?_
  refine yLw_call rfl rfl rfl o rfl (ym_flags hT hG) ?_
  intro v τ hq
  have hR2 := yRef_q hR hq
  obtain ⟨rfl, k, hT2⟩ := hq
  refine ⟨rfl, ?_⟩
  refine yLw_n 1 rfl ?_
  exact yLw_eq rfl (nx n t N τ (yCls_kp hC k (fun j hj => by rintro (q | q | q) <;> omega)) hR2)
theorem yl_2 (hC : yCls n t N σ) (hR : yRef n t N σ) (nx : ∀ n t N σ, yCls n t N σ → yRef n t N σ → yLw xs (498, yFr4 j, [], σ, 138, 1998)) : yLw xs (164, yFr4 j, [], σ, 138, 1998) := by
  have hG := hR.2.2.2.2.1
  have h0 : ∃ b b2, σ[0]? = some (.inl (0, yXf b b2)) := by
    obtain ⟨b, b2, -, h0, -⟩ := hC
    exact ⟨b, b2, h0⟩
  obtain ⟨b, b2, h0⟩ := h0
  refine yLw_n 1 rfl ?_
  refine yLw_call rfl rfl rfl h0 rfl (yc_read hC hR.2.1 hR.2.2.1 hR.2.2.2.1 hG) ?_
  rintro _ τ ⟨rfl, k1, hC1⟩
  refine ⟨rfl, ?_⟩
  have hR1 := yRef_kp hR k1 (fun j hj q => by have q : j < 123 := q; omega)
  have o := hR1.2.2.2.2.2.1
  obtain ⟨seen, given, hT⟩ := o
  obtain ⟨rows, o⟩ := hT.1.1
  refine yLw_n 1 rfl ?_
  refine yLw_call rfl rfl rfl o rfl (ym_read hR1) ?_
  rintro _ τ2 ⟨rfl, k2, hR2⟩
  refine ⟨rfl, ?_⟩
  refine yLw_n 1 rfl ?_
  exact yLw_eq rfl (nx n t _ τ2 (yCls_kp hC1 k2 (fun j hj q => by have q : 123 ≤ j := q; omega)) hR2)
theorem yl_1 (hC : yCls n t N σ) (hR : yRef n t N σ) (nx : ∀ n t N σ, yCls n t N σ → yRef n t N σ → yLw xs (498, yFr4 j, [], σ, 138, 1998)) : yLw xs (153, yFr4 j, [], σ, 138, 1998) := by
  have hc := hC
  obtain ⟨b, b2, hb, h0, h1, h2, hrest⟩ := hc
  obtain ⟨seen, given, hT⟩ := hR.2.2.2.2.2.1
  obtain ⟨rows, o⟩ := hT.1.1
  refine yLw_n 1 rfl ?_
  refine yLw_call rfl rfl rfl h0 rfl (zU_of (zc_clear (fs := [.ref 4, .ref 5, .ref 8, .ref 14, .ref 42, .ref 44, .ref (b + 1), .ref (b2 + 1)]) h0 h1) (Q := fun v' τ => v' = none ∧ τ = σ.set 1 (.inl (1, [.ref 3, .int 0]))) ⟨rfl, rfl⟩) ?_
  rintro _ _ ⟨rfl, rfl⟩
  refine ⟨rfl, ?_⟩
  have o1 := zset_ne (k := 1) (c' := .inl (1, [.ref 3, .int 0])) o (by decide)
  refine yLw_n 1 rfl ?_
  refine yLw_call rfl rfl rfl o1 rfl (zU_of (zm_clear o1) (Q := fun v' τ => v' = none ∧ τ = (σ.set 1 (.inl (1, [.ref 3, .int 0]))).set 123 (.inl (10, zMf 0 seen given (nI N.1.length) (nI N.2.length) (nI (ysl (yPs N) 128).length) (nI (ysl (yPw N) 128).length) rows))) ⟨rfl, rfl⟩) ?_
  rintro _ _ ⟨rfl, rfl⟩
  refine ⟨rfl, ?_⟩
  refine yLw_n 1 rfl ?_
  have kA : zkp (fun j => j = 1 ∨ j = 2) σ (σ.set 1 (.inl (1, [.ref 3, .int 0]))) := zkp_set zkp_rf (Or.inl rfl)
  have C1 : yCls 0 t N (σ.set 1 (.inl (1, [.ref 3, .int 0]))) := yCls_txt hC kA (zset_at h1) (zset_ne h2 (by decide))
  have R1 : yRef n t N (σ.set 1 (.inl (1, [.ref 3, .int 0]))) := yRef_kp hR kA (fun j hj => by omega)
  have kB : zkp (fun j => j = 123) (σ.set 1 (.inl (1, [.ref 3, .int 0]))) ((σ.set 1 (.inl (1, [.ref 3, .int 0]))).set 123 (.inl (10, zMf 0 seen given (nI N.1.length) (nI N.2.length) (nI (ysl (yPs N) 128).length) (nI (ysl (yPw N) 128).length) rows))) := y_kp1
  exact nx 0 t N _ (yCls_kp C1 kB (fun j hj => by omega)) (yRef_rest R1 kB (fun j _ _ => by omega) (zset_ne R1.1 (by decide)) R1.2.1 (by omega) (fun c hc => by simp at hc) (fun a b c d e f h => by
    rw [o1] at h
    cases h
    exact zset_at o1))
theorem yl_0 (hC : yCls n t N σ) (hR : yRef n t N σ) (i1 : zix (nI j + Int32.ofInt 1) = some (j + 1)) (x1 : xs[j + 1]? = some v1) (nx : ∀ n t N σ, yCls n t N σ → yRef n t N σ → yLw xs (498, yFr4 j, [], σ, 138, 1998)) : yLw xs (128, yFr4 j, [], σ, 138, 1998) := by
  have hc := hC
  obtain ⟨b, b2, hb, h0, h1, h2, hrest⟩ := hc
  obtain ⟨seen, given, hT⟩ := hR.2.2.2.2.2.1
  obtain ⟨rows, o⟩ := hT.1.1
  have ht := hR.2.1
  have hn := hR.2.2.1
  have hch := hR.2.2.2.1
  generalize hx : (v1.toUInt32 % 65536).toInt32 = x
  refine yLw_n 5 rfl ?_
  refine yLw_scr rfl i1 x1 ?_
  refine yLw_n 1 rfl ?_
  rw [hx]
  by_cases hq : x < 32 ∨ 126 < x ∨ n = 100
  · refine yLw_call rfl rfl rfl h0 rfl (yRet_of (zc_type0 (fs := [.ref 4, .ref 5, .ref 8, .ref 14, .ref 42, .ref 44, .ref (b + 1), .ref (b2 + 1)]) h0 h1 hn hq)) ?_
    rintro _ _ ⟨rfl, rfl⟩
    refine ⟨rfl, ?_⟩
    refine yLw_n 5 rfl ?_
    refine yLw_scr rfl i1 x1 ?_
    refine yLw_n 1 rfl ?_
    rw [hx]
    refine yLw_call rfl rfl rfl o rfl (yRet_of (zm_type0 o hn hq)) ?_
    rintro _ _ ⟨rfl, rfl⟩
    refine ⟨rfl, ?_⟩
    refine yLw_n 1 rfl ?_
    exact nx n t N σ hC hR
  · have g1 : ¬ x < 32 := fun z => hq (Or.inl z)
    have g2 : ¬ 126 < x := fun z => hq (Or.inr (Or.inl z))
    have g3 : n < 100 := by
      rcases Nat.lt_or_ge n 100 with z | z
      · exact z
      · exact absurd (Or.inr (Or.inr (by omega))) hq
    refine yLw_call rfl rfl rfl h0 rfl (zU_of (zc_type1 (fs := [.ref 4, .ref 5, .ref 8, .ref 14, .ref 42, .ref 44, .ref (b + 1), .ref (b2 + 1)]) h0 h1 h2 ht g3 g1 g2) (Q := fun v' τ => v' = some (.int 1) ∧ τ = (σ.set 2 (.inr (.inl (.char, t.set n x)))).set 1 (.inl (1, [.ref 3, .int (nI (n + 1))]))) ⟨rfl, rfl⟩) ?_
    rintro _ _ ⟨rfl, rfl⟩
    refine ⟨rfl, ?_⟩
    have kA : zkp (fun j => j = 1 ∨ j = 2) σ ((σ.set 2 (.inr (.inl (.char, t.set n x)))).set 1 (.inl (1, [.ref 3, .int (nI (n + 1))]))) := zkp_set (zkp_set zkp_rf (Or.inr rfl)) (Or.inl rfl)
    have C1 : yCls (n + 1) (t.set n x) N ((σ.set 2 (.inr (.inl (.char, t.set n x)))).set 1 (.inl (1, [.ref 3, .int (nI (n + 1))]))) := yCls_txt hC kA (zset_at (zset_ne h1 (by decide))) (zset_ne (zset_at h2) (by decide))
    have R1 := yRef_kp hR kA (fun j hj => by omega)
    have o1 := zkp_at kA o (by omega)
    have p1 := zkp_at kA hR.1 (by omega)
    generalize (σ.set 2 (.inr (.inl (.char, t.set n x)))).set 1 (.inl (1, [.ref 3, .int (nI (n + 1))])) = τ at *
    refine yLw_n 5 rfl ?_
    refine yLw_scr rfl i1 x1 ?_
    refine yLw_n 1 rfl ?_
    rw [hx]
    refine yLw_call rfl rfl rfl o1 rfl (zU_of (zm_type1 o1 p1 ht g3 g1 g2) (Q := fun v' τ' => v' = some (.int 1) ∧ τ' = (τ.set 124 (.inr (.inl (.char, t.set n x)))).set 123 (.inl (10, zMf (nI (n + 1)) seen given (nI N.1.length) (nI N.2.length) (nI (ysl (yPs N) 128).length) (nI (ysl (yPw N) 128).length) rows))) ⟨rfl, rfl⟩) ?_
    rintro _ _ ⟨rfl, rfl⟩
    refine ⟨rfl, ?_⟩
    have kB : zkp (fun j => j = 123 ∨ j = 124) τ ((τ.set 124 (.inr (.inl (.char, t.set n x)))).set 123 (.inl (10, zMf (nI (n + 1)) seen given (nI N.1.length) (nI N.2.length) (nI (ysl (yPs N) 128).length) (nI (ysl (yPw N) 128).length) rows))) := zkp_set (zkp_set zkp_rf (Or.inr rfl)) (Or.inl rfl)
    refine yLw_n 1 rfl ?_
    refine nx (n + 1) (t.set n x) N _ (yCls_kp C1 kB (fun j hj => by omega)) (yRef_rest R1 kB (fun j _ _ => by omega) (zset_ne (zset_at p1) (by decide)) (by rw [List.length_set]; exact ht) (by omega) ?_ (fun a b c d e f h => ?_))
    · rw [List.take_succ, List.getElem?_set_self (by omega), List.take_set_of_le (Nat.le_refl n)]
      intro c hc
      rcases List.mem_append.mp hc with z | z
      · exact hch c z
      · rw [List.mem_singleton.mp z]; exact ⟨g1, g2⟩
    · rw [o1] at h
      cases h
      exact zset_at (zset_ne o1 (by decide))
theorem yl_sw {k u : Nat} (h : zsw (nI k).toInt 0 19 466 #[96, 121, 132, 145, 158, 171, 204, 217, 230, 253, 266, 289, 302, 325, 338, 361, 384, 397, 420, 453] = some (u : Int)) {x : Int32} (hx : x = nI k) (q : yLw xs (32 + u, yFr4 j, [], σ, 138, 1998)) : yLw xs (32, yFr4 j, [.int x], σ, 138, 1998) := by
  subst hx
  obtain ⟨σ', q⟩ := q
  refine ⟨σ', zRn_1 ?_ q⟩
  show (zsw (nI k).toInt 0 19 466 #[96, 121, 132, 145, 158, 171, 204, 217, 230, 253, 266, 289, 302, 325, 338, 361, 384, 397, 420, 453]).bind (fun off => (zjmp 32 off).bind fun t => some ((t, yFr4 j, [], σ, 138, 1998) : zS)) = some (32 + u, yFr4 j, [], σ, 138, 1998)
  rw [h]
  rfl
theorem yl_bound {len j : Nat} (hl : len ≤ 1536) (hj : j ≤ 1536) : (nI len - Int32.ofInt 3) < nI j ↔ len < j + 3 := by
  rcases Nat.lt_or_ge len 3 with q | q
  · have key : ∀ len, len < 3 → (nI len - Int32.ofInt 3) < 0 := by decide +kernel
    constructor
    · intro _; omega
    · intro _
      exact Int32.lt_of_lt_of_le (key len q) (nI_pos' (by omega))
  · have e : nI len - Int32.ofInt 3 = nI (len - 3) := by
      obtain ⟨m, rfl⟩ : ∃ m, len = m + 3 := ⟨len - 3, by omega⟩
      rw [← nI_add m 3, Nat.add_sub_cancel]
      show nI m + nI 3 - nI 3 = nI m
      exact Int32.add_sub_cancel _ _
    rw [e, nI_ltI (by omega) (by omega)]
    omega
set_option maxRecDepth 100000 in
theorem yl_loop (hl : xs.length ≤ 1536) : ∀ (m j n : Nat) (t : List Int32) (N : zN) (σ : List zC), xs.length ≤ j + 3 * m → j ≤ xs.length → yCls n t N σ → yRef n t N σ → yLw xs (18, yFr4 j, [], σ, 138, 1998) := by
  intro m
  induction m with
  | zero =>
    intro j n t N σ h1 h2 hC hR
    refine yLw_n 6 rfl ?_
    refine ⟨σ, zR_gt (fun _ => zRn_n 1 rfl (zRn_ret rfl)) (fun z => absurd ((yl_bound hl (by omega)).mpr (by omega)) z)⟩
  | succ m ih =>
    intro j n t N σ h1 h2 hC hR
    rcases Nat.lt_or_ge xs.length (j + 3) with q | q
    · refine yLw_n 6 rfl ?_
      exact ⟨σ, zR_gt (fun _ => zRn_n 1 rfl (zRn_ret rfl)) (fun z => absurd ((yl_bound hl (by omega)).mpr q) z)⟩
    · have nx : ∀ n t N σ, yCls n t N σ → yRef n t N σ → yLw xs (498, yFr4 j, [], σ, 138, 1998) := by
        intro n t N σ hC hR
        have k := ih (j + 3) n t N σ (by omega) (by omega) hC hR
        refine yLw_n 2 rfl ?_
        rw [show yFr4 (j + 3) = [some (.ref 0), some (.ref 1), some (.ref 124), some (.int (nI j + Int32.ofInt 3))] by
          unfold yFr4
          rw [show nI (j + 3) = nI j + Int32.ofInt 3 from (nI_add j 3).symm]] at k
        exact k
      obtain ⟨v0, x0⟩ : ∃ v, xs[j]? = some v := ⟨xs[j], List.getElem?_eq_getElem (by omega)⟩
      obtain ⟨v1, x1⟩ : ∃ v, xs[j + 1]? = some v := ⟨xs[j + 1], List.getElem?_eq_getElem (by omega)⟩
      obtain ⟨v2, x2⟩ : ∃ v, xs[j + 2]? = some v := ⟨xs[j + 2], List.getElem?_eq_getElem (by omega)⟩
      have i0 : zix (nI j) = some j := zix_nI (by omega)
      have i1 : zix (nI j + Int32.ofInt 1) = some (j + 1) := by
        rw [show nI j + Int32.ofInt 1 = nI (j + 1) from nI_add j 1]
        exact zix_nI (by omega)
      have i2 : zix (nI j + Int32.ofInt 2) = some (j + 2) := by
        rw [show nI j + Int32.ofInt 2 = nI (j + 2) from nI_add j 2]
        exact zix_nI (by omega)
      obtain ⟨k, hk, hx⟩ := pk_andE v0 (m := 31) 5 (by decide +kernel)
      have key : yLw xs (32, yFr4 j, [.int (v0 &&& 31)], σ, 138, 1998) := by
        match k, hk, hx with
        | 0, hk, hx => exact yl_sw (k := 0) (u := 96) (by decide +kernel) hx (yl_0 hC hR i1 x1 nx)
        | 1, hk, hx => exact yl_sw (k := 1) (u := 121) (by decide +kernel) hx (yl_1 hC hR nx)
        | 2, hk, hx => exact yl_sw (k := 2) (u := 132) (by decide +kernel) hx (yl_2 hC hR nx)
        | 3, hk, hx => exact yl_sw (k := 3) (u := 145) (by decide +kernel) hx (yl_3 hC hR nx)
        | 4, hk, hx => exact yl_sw (k := 4) (u := 158) (by decide +kernel) hx (yl_4 hC hR nx)
        | 5, hk, hx => exact yl_sw (k := 5) (u := 171) (by decide +kernel) hx (yl_5 hC hR i1 x1 i2 x2 nx)
        | 6, hk, hx => exact yl_sw (k := 6) (u := 204) (by decide +kernel) hx (yl_6 hC hR nx)
        | 7, hk, hx => exact yl_sw (k := 7) (u := 217) (by decide +kernel) hx (yl_7 hC hR nx)
        | 8, hk, hx => exact yl_sw (k := 8) (u := 230) (by decide +kernel) hx (yl_8 hC hR i1 x1 nx)
        | 9, hk, hx => exact yl_sw (k := 9) (u := 253) (by decide +kernel) hx (yl_9 hC hR nx)
        | 10, hk, hx => exact yl_sw (k := 10) (u := 266) (by decide +kernel) hx (yl_10 hC hR i1 x1 nx)
        | 11, hk, hx => exact yl_sw (k := 11) (u := 289) (by decide +kernel) hx (yl_11 hC hR nx)
        | 12, hk, hx => exact yl_sw (k := 12) (u := 302) (by decide +kernel) hx (yl_12 hC hR i1 x1 nx)
        | 13, hk, hx => exact yl_sw (k := 13) (u := 325) (by decide +kernel) hx (yl_13 hC hR nx)
        | 14, hk, hx => exact yl_sw (k := 14) (u := 338) (by decide +kernel) hx (yl_14 hC hR i1 x1 nx)
        | 15, hk, hx => exact yl_sw (k := 15) (u := 361) (by decide +kernel) hx (yl_15 hC hR i1 x1 nx)
        | 16, hk, hx => exact yl_sw (k := 16) (u := 384) (by decide +kernel) hx (yl_16 hC hR nx)
        | 17, hk, hx => exact yl_sw (k := 17) (u := 397) (by decide +kernel) hx (yl_17 hC hR i1 x1 nx)
        | 18, hk, hx => exact yl_sw (k := 18) (u := 420) (by decide +kernel) hx (yl_18 hC hR i1 x1 i2 x2 nx)
        | 19, hk, hx => exact yl_sw (k := 19) (u := 453) (by decide +kernel) hx (yl_19 hC hR nx)
        | 20, hk, hx => exact yl_sw (k := 20) (u := 466) (by decide +kernel) hx (nx n t N σ hC hR)
        | 21, hk, hx => exact yl_sw (k := 21) (u := 466) (by decide +kernel) hx (nx n t N σ hC hR)
        | 22, hk, hx => exact yl_sw (k := 22) (u := 466) (by decide +kernel) hx (nx n t N σ hC hR)
        | 23, hk, hx => exact yl_sw (k := 23) (u := 466) (by decide +kernel) hx (nx n t N σ hC hR)
        | 24, hk, hx => exact yl_sw (k := 24) (u := 466) (by decide +kernel) hx (nx n t N σ hC hR)
        | 25, hk, hx => exact yl_sw (k := 25) (u := 466) (by decide +kernel) hx (nx n t N σ hC hR)
        | 26, hk, hx => exact yl_sw (k := 26) (u := 466) (by decide +kernel) hx (nx n t N σ hC hR)
        | 27, hk, hx => exact yl_sw (k := 27) (u := 466) (by decide +kernel) hx (nx n t N σ hC hR)
        | 28, hk, hx => exact yl_sw (k := 28) (u := 466) (by decide +kernel) hx (nx n t N σ hC hR)
        | 29, hk, hx => exact yl_sw (k := 29) (u := 466) (by decide +kernel) hx (nx n t N σ hC hR)
        | 30, hk, hx => exact yl_sw (k := 30) (u := 466) (by decide +kernel) hx (nx n t N σ hC hR)
        | 31, hk, hx => exact yl_sw (k := 31) (u := 466) (by decide +kernel) hx (nx n t N σ hC hR)
        | k + 32, hk, hx => exact absurd hk (by omega)
      refine yLw_n 6 rfl ?_
      obtain ⟨σ', key⟩ := key
      refine ⟨σ', zR_gt (fun z => absurd ((yl_bound hl (by omega)).mp z) (by omega)) (fun _ => ?_)⟩
      refine zRn_n 2 rfl ?_
      refine zR_scr rfl i0 x0 ?_
      exact zRn_n 2 rfl key
theorem z_law : ∀ xs : List Int32, xs.length ≤ 1536 → ∃ (σ' : List zC) (nc ns : Nat), nc ≤ 600000 ∧ ns ≤ 7302250 ∧ zR (some xs) 128 (0, zent [.ref 0] 4, [], [], 0, 0) (some (.int 1), σ', nc, ns) := by
  intro xs hl
  obtain ⟨σ', r⟩ := yl_loop hl xs.length 0 0 (List.replicate 100 0) ([], []) zσ0 (by omega) (Nat.zero_le _) yi_cls yi_ref
  exact ⟨σ', 138, 1998, by omega, by omega, z0_start (some xs) r⟩
end YLW

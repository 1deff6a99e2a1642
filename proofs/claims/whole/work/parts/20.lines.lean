/-! The class's lines: leaves. -/
section ZLN
/-- too high a number among them: 1 -/
def zhi (l : List Int32) : Int32 := match l with
  | [] => 0
  | x :: t => if x ≤ 4 then zhi t else 1
def zsm (a b : List Int32) : Int32 := match a, b with
  | x :: s, w :: t => if x = w then zsm s t else 0
  | _, _ => 1
variable {σ : List zC}
theorem z_drop {α : Type} {l : List α} {i : Nat} (h : i < l.length) : ∃ x, l[i]? = some x ∧ l.drop i = x :: l.drop (i + 1) := ⟨l[i], List.getElem?_eq_getElem h, List.drop_eq_getElem_cons h⟩
theorem zc_high_loop {k : Nat} {l : List Int32} (h : σ[k]? = some (.inr (.inl (.int, l)))) (hl : l.length = 7) : ∀ (d i : Nat), 7 - i = d → i ≤ 7 → zR none 27 (2, [some (.ref (k + 1)), some (.int (nI i))], [], σ, 0, 0) (some (.int (zhi (l.drop i))), σ, 0, 0) := by
  intro d
  induction d with
  | zero =>
    intro i hd hi
    have e : i = 7 := by omega
    subst e
    rw [List.drop_eq_nil_iff.mpr (by omega)]
    refine zRn_n 3 rfl ?_
    refine zR_ge (fun _ => ?_) (fun g => absurd (show (7 : Int32) ≤ nI 7 by decide +kernel) g)
    exact zRn_n 1 rfl (zRn_ret rfl)
  | succ d ih =>
    intro i hd hi
    obtain ⟨x, hx, e⟩ := z_drop (l := l) (i := i) (by omega)
    rw [e]
    simp only [zhi]
    refine zRn_n 3 rfl ?_
    refine zR_ge (fun (g : nI 7 ≤ nI i) => absurd g (nI_ge (by omega) (by omega))) (fun _ => ?_)
    refine zRn_n 2 rfl ?_
    refine zR_iald rfl h (zix_nI (by omega)) hx ?_
    refine zRn_n 2 rfl ?_
    refine zR_le (fun (g : x ≤ 4) => ?_) (fun (g : ¬ x ≤ 4) => ?_)
    · rw [if_pos g]
      have K := ih (i + 1) (by omega) (by omega)
      rw [show nI (i + 1) = nI i + Int32.ofInt 1 from nI_succ i] at K
      exact zRn_n 2 rfl K
    · rw [if_neg g]
      exact zRn_n 1 rfl (zRn_ret rfl)
theorem zc_high {k : Nat} {l : List Int32} (h : σ[k]? = some (.inr (.inl (.int, l)))) (hl : l.length = 7) : zR none 27 (0, zent [.ref (k + 1)] 2, [], σ, 0, 0) (some (.int (zhi l)), σ, 0, 0) := by
  have K := zc_high_loop h hl 7 0 rfl (by omega)
  rw [List.drop_zero] at K
  exact zRn_n 2 rfl K
theorem zc_same_loop {k m : Nat} {a b : List Int32} (h : σ[k]? = some (.inr (.inl (.int, a)))) (h' : σ[m]? = some (.inr (.inl (.int, b)))) (hl : a.length = 7) (hl' : b.length = 7) : ∀ (d i : Nat), 7 - i = d → i ≤ 7 → zR none 28 (2, [some (.ref (k + 1)), some (.ref (m + 1)), some (.int (nI i))], [], σ, 0, 0) (some (.int (zsm (a.drop i) (b.drop i))), σ, 0, 0) := by
  intro d
  induction d with
  | zero =>
    intro i hd hi
    have e : i = 7 := by omega
    subst e
    rw [List.drop_eq_nil_iff.mpr (by omega : a.length ≤ 7)]
    refine zRn_n 3 rfl ?_
    refine zR_ge (fun _ => ?_) (fun g => absurd (show (7 : Int32) ≤ nI 7 by decide +kernel) g)
    exact zRn_n 1 rfl (zRn_ret rfl)
  | succ d ih =>
    intro i hd hi
    obtain ⟨x, hx, e⟩ := z_drop (l := a) (i := i) (by omega)
    obtain ⟨w, hw, e'⟩ := z_drop (l := b) (i := i) (by omega)
    rw [e, e']
    simp only [zsm]
    refine zRn_n 3 rfl ?_
    refine zR_ge (fun (g : nI 7 ≤ nI i) => absurd g (nI_ge (by omega) (by omega))) (fun _ => ?_)
    refine zRn_n 2 rfl ?_
    refine zR_iald rfl h (zix_nI (by omega)) hx ?_
    refine zRn_n 2 rfl ?_
    refine zR_iald rfl h' (zix_nI (by omega)) hw ?_
    refine zRn_n 1 rfl ?_
    refine zR_eq (fun g => ?_) (fun g => ?_)
    · rw [if_pos g]
      have K := ih (i + 1) (by omega) (by omega)
      rw [show nI (i + 1) = nI i + Int32.ofInt 1 from nI_succ i] at K
      exact zRn_n 2 rfl K
    · rw [if_neg g]
      exact zRn_n 1 rfl (zRn_ret rfl)
theorem zc_same {k m : Nat} {a b : List Int32} (h : σ[k]? = some (.inr (.inl (.int, a)))) (h' : σ[m]? = some (.inr (.inl (.int, b)))) (hl : a.length = 7) (hl' : b.length = 7) : zR none 28 (0, zent [.ref (k + 1), .ref (m + 1)] 3, [], σ, 0, 0) (some (.int (zsm a b)), σ, 0, 0) := by
  have K := zc_same_loop h h' hl hl' 7 0 rfl (by omega)
  rw [List.drop_zero, List.drop_zero] at K
  exact zRn_n 2 rfl K
theorem zsm_eq : ∀ (a b : List Int32), a.length = b.length → (zsm a b = 1 ∧ a = b) ∨ (zsm a b = 0 ∧ a ≠ b)
  | [], [], _ => Or.inl ⟨rfl, rfl⟩
  | [], _ :: _, h => by cases h
  | _ :: _, [], h => by cases h
  | x :: s, w :: t, h => by
    simp only [zsm]
    by_cases e : x = w
    · rw [if_pos e]
      rcases zsm_eq s t (by simpa using h) with ⟨h1, h2⟩ | ⟨h1, h2⟩
      · exact Or.inl ⟨h1, by rw [e, h2]⟩
      · exact Or.inr ⟨h1, fun q => h2 (List.cons.inj q).2⟩
    · rw [if_neg e]
      exact Or.inr ⟨rfl, fun q => e (List.cons.inj q).1⟩
theorem zhi_eq : ∀ l : List Int32, (zhi l = 1 ∧ ∃ x ∈ l, ¬ x ≤ 4) ∨ (zhi l = 0 ∧ ∀ x ∈ l, x ≤ 4)
  | [] => Or.inr ⟨rfl, fun x h => by cases h⟩
  | x :: t => by
    simp only [zhi]
    by_cases e : x ≤ 4
    · rw [if_pos e]
      rcases zhi_eq t with ⟨h1, y, h2, h3⟩ | ⟨h1, h2⟩
      · exact Or.inl ⟨h1, y, List.mem_cons_of_mem _ h2, h3⟩
      · exact Or.inr ⟨h1, fun y hy => by
          rcases List.mem_cons.mp hy with rfl | h9
          · exact e
          · exact h2 y h9⟩
    · rw [if_neg e]
      exact Or.inl ⟨rfl, x, List.mem_cons_self, e⟩
/-- the lines' own cells -/
def zLc (digit arrow : Int32) : zC := .inl (3, [.ref 6, .ref 7, .int digit, .int arrow])
def zz (i : Nat) (l : List Int32) : List Int32 := List.replicate i 0 ++ l.drop i
theorem zz_set {i : Nat} {l : List Int32} (h : i < l.length) : (zz i l).set i 0 = zz (i + 1) l := by
  apply List.ext_getElem?
  intro j
  have hL : (zz i l).length = l.length := by simp [zz]; omega
  by_cases e : i = j
  · subst e
    rw [List.getElem?_set_self (by rw [hL]; exact h)]
    simp [zz, List.getElem?_append, List.getElem?_replicate]
  · rw [List.getElem?_set_ne e]
    simp only [zz, List.getElem?_append, List.length_replicate, List.getElem?_replicate, List.getElem?_drop]
    by_cases h1 : j < i
    · rw [if_pos h1, if_pos h1, if_pos (by omega), if_pos (by omega)]
    · rw [if_neg h1, if_neg (by omega)]
      congr 1
      omega
theorem zz_len {i : Nat} {l : List Int32} (h : i ≤ l.length) : (zz i l).length = l.length := by simp [zz]; omega
theorem zc_start_loop {a b : List Int32} {dg ar : Int32} (h4 : σ[4]? = some (zLc dg ar)) (h5 : ∃ c, σ[5]? = some c) (h6 : ∃ c, σ[6]? = some c) (ha : a.length = 7) (hb : b.length = 7) : ∀ (d i : Nat), 7 - i = d → i ≤ 7 → zR none 26 (2, [some (.ref 5), some (.int (nI i))], [], (σ.set 5 (.inr (.inl (.int, zz i a)))).set 6 (.inr (.inl (.int, zz i b))), 0, 0) (none, ((σ.set 5 (.inr (.inl (.int, List.replicate 7 0)))).set 6 (.inr (.inl (.int, List.replicate 7 0)))).set 4 (zLc 1 32), 0, 0) := by
  obtain ⟨c5, h5⟩ := h5
  obtain ⟨c6, h6⟩ := h6
  intro d
  induction d with
  | zero =>
    intro i hd hi
    have e : i = 7 := by omega
    subst e
    have e7 : ∀ l : List Int32, l.length = 7 → zz 7 l = List.replicate 7 0 := fun l hl => by
      simp only [zz]
      rw [List.drop_eq_nil_iff.mpr (by omega), List.append_nil]
    rw [e7 a ha, e7 b hb]
    refine zRn_n 3 rfl ?_
    refine zR_ge (fun _ => ?_) (fun g => absurd (show (7 : Int32) ≤ nI 7 by decide +kernel) g)
    have a4 := zset_ne (c' := .inr (.inl (.int, List.replicate 7 0))) (zset_ne (c' := .inr (.inl (.int, List.replicate 7 0))) h4 (show 5 ≠ 4 by decide)) (show 6 ≠ 4 by decide)
    refine zRn_n 2 rfl ?_
    refine zR_putf rfl a4 rfl rfl ?_
    have b4 := zset_at (c' := zLc 1 ar) a4
    refine zRn_n 2 rfl ?_
    refine zR_putf rfl b4 rfl rfl ?_
    rw [List.set_set]
    exact zRn_ret rfl
  | succ d ih =>
    intro i hd hi
    refine zRn_n 3 rfl ?_
    refine zR_ge (fun (g : nI 7 ≤ nI i) => absurd g (nI_ge (by omega) (by omega))) (fun _ => ?_)
    have a4 : ∀ x w : zC, ((σ.set 5 x).set 6 w)[4]? = some (zLc dg ar) := fun x w => zset_ne (zset_ne h4 (by decide)) (by decide)
    have a5 : ∀ x w : zC, ((σ.set 5 x).set 6 w)[5]? = some x := fun x w => zset_ne (zset_at h5) (by decide)
    have a6 : ∀ x w : zC, ((σ.set 5 x).set 6 w)[6]? = some w := fun x w => zset_at (zset_ne (c' := x) h6 (by decide))
    have sw : ∀ x w x' : zC, ((σ.set 5 x).set 6 w).set 5 x' = (σ.set 5 x').set 6 w := fun x w x' => by
      rw [List.set_comm _ _ (by decide : (6 : Nat) ≠ 5), List.set_set]
    refine zRn_n 1 rfl ?_
    refine zR_getf rfl (a4 _ _) rfl ?_
    refine zRn_n 2 rfl ?_
    refine zR_iast rfl (a5 _ _) (zix_nI (by omega)) (zblt (by rw [zz_len (by omega)]; omega)) ?_
    rw [sw, show (zz i a).set i (Int32.ofInt 0) = zz (i + 1) a from zz_set (by omega)]
    refine zRn_n 1 rfl ?_
    refine zR_getf rfl (a4 _ _) rfl ?_
    refine zRn_n 2 rfl ?_
    refine zR_iast rfl (a6 _ _) (zix_nI (by omega)) (zblt (by rw [zz_len (by omega)]; omega)) ?_
    rw [List.set_set, show (zz i b).set i (Int32.ofInt 0) = zz (i + 1) b from zz_set (by omega)]
    have K := ih (i + 1) (by omega) (by omega)
    rw [show nI (i + 1) = nI i + Int32.ofInt 1 from nI_succ i] at K
    exact zRn_n 2 rfl K
end ZLN

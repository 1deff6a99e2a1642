/-! Form.follow and Form.isRight as a whole; the reference's fault. -/
section ZRT
variable {σ : List zC} {n : Nat} {t : List Int32} {s r f : Int32}
theorem zc_follow (h1 : σ[1]? = some (.inl (1, [.ref 3, .int (nI n)]))) (h2 : σ[2]? = some (.inr (.inl (.char, t)))) (h3 : σ[3]? = some (zFm s r f)) (hn : n ≤ 100) (ht : t.length = 100) : zR none 24 (0, zent [.ref 4, .ref 2] 3, [], σ, 0, 0) (some (.int (nI (zct (t.take n) 0 0))), σ.set 3 (zFm (zls (t.take n) 0 0).1 (zls (t.take n) 0 0).2 (zrf (t.take n) 0 0)), 0, 0) := by
  have K := zc_follow_loop h1 h2 h3 hn ht n 0 0 0 (Nat.sub_zero n) (Nat.zero_le n) (Or.inl rfl)
  rw [List.drop_zero, Nat.zero_add] at K
  refine zRn_n 2 rfl ?_
  refine zR_putf rfl h3 rfl rfl ?_
  have a1 := zset_at (c' := zFm 0 r f) h3
  refine zRn_n 2 rfl ?_
  refine zR_putf rfl a1 rfl rfl ?_
  rw [List.set_set]
  have a2 := zset_at (c' := zFm 0 0 f) h3
  refine zRn_n 2 rfl ?_
  refine zR_putf rfl a2 rfl rfl ?_
  rw [List.set_set]
  exact zRn_n 2 rfl K
def zrT (s r f w : Int32) : Int32 := if f = 0 then (if s = 0 then 1 else if r = 0 then 0 else if w = 0 then 0 else 1) else 0
def zright (s r f : Int32) : Int32 := if s = 4 then zrT s r f 1 else if s = 5 then zrT s r f 1 else zrT s r f 0
theorem zc_right (h3 : σ[3]? = some (zFm s r f)) : zR none 25 (0, zent [.ref 4] 2, [], σ, 0, 0) (some (.int (zright s r f)), σ, 0, 0) := by
  have tail : ∀ (w : Int32) (a : zS), a = (22, [some (.ref 4), some (.int w)], [], σ, 0, 0) → zR none 25 a (some (.int (zrT s r f w)), σ, 0, 0) := by
    intro w a ha
    subst ha
    unfold zrT
    refine zRn_n 1 rfl ?_
    refine zR_getf rfl h3 rfl ?_
    refine zRn_n 1 rfl ?_
    refine zR_ne (fun g1 => ?_) (fun g1 => ?_)
    · rw [if_pos g1]
      refine zRn_n 1 rfl ?_
      refine zR_getf rfl h3 rfl ?_
      refine zRn_n 1 rfl ?_
      refine zR_eq (fun g2 => ?_) (fun g2 => ?_)
      · rw [if_pos g2]
        exact zRn_n 2 rfl (zRn_ret rfl)
      · rw [if_neg g2]
        refine zRn_n 1 rfl ?_
        refine zR_getf rfl h3 rfl ?_
        refine zRn_n 1 rfl ?_
        refine zR_eq (fun g3 => ?_) (fun g3 => ?_)
        · rw [if_pos g3]
          exact zRn_n 1 rfl (zRn_ret rfl)
        · rw [if_neg g3]
          refine zRn_n 2 rfl ?_
          refine zR_eq (fun g4 => ?_) (fun g4 => ?_)
          · rw [if_pos g4]
            exact zRn_n 1 rfl (zRn_ret rfl)
          · rw [if_neg g4]
            exact zRn_n 2 rfl (zRn_ret rfl)
    · rw [if_neg g1]
      exact zRn_n 1 rfl (zRn_ret rfl)
  unfold zright
  refine zRn_n 1 rfl ?_
  refine zR_getf rfl h3 rfl ?_
  refine zRn_n 2 rfl ?_
  refine zR_eq (fun (g1 : s = 4) => ?_) (fun (g1 : ¬ s = 4) => ?_)
  · rw [if_pos g1]
    exact zRn_n 3 rfl (tail 1 _ rfl)
  · rw [if_neg g1]
    refine zRn_n 1 rfl ?_
    refine zR_getf rfl h3 rfl ?_
    refine zRn_n 2 rfl ?_
    refine zR_ne (fun (g2 : s = 5) => ?_) (fun (g2 : ¬ s = 5) => ?_)
    · rw [if_pos g2]
      exact zRn_n 3 rfl (tail 1 _ rfl)
    · rw [if_neg g2]
      exact zRn_n 2 rfl (tail 0 _ rfl)
/-- the reference's fault from a character on -/
def zflt (cs : List Int32) (st no : Int32) (k n : Nat) : Int32 := match cs with
  | [] => if no = 0 then (if st = 10 then -1 else if st = 11 then -1 else nI n) else -1
  | c :: cs => if c = 32 then zflt cs st no (k + 1) n else if 0 ≤ zf_64 st c then zflt cs (zf_64 st c) 0 (k + 1) n else nI k
variable {seen given many arrows siphons sums rows : Int32}
theorem zm_fault_loop (h1 : σ[123]? = some (.inl (10, zMf (nI n) seen given many arrows siphons sums rows))) (h2 : σ[124]? = some (.inr (.inl (.char, t)))) (hn : n ≤ 100) (ht : t.length = 100) : ∀ (d i : Nat) (st no : Int32), n - i = d → i ≤ n →
    zR none 65 (6, [some (.ref 124), some (.int st), some (.int no), some (.int (nI i))], [], σ, 0, 0) (some (.int (zflt ((t.take n).drop i) st no i n)), σ, 0, 0) := by
  intro d
  induction d with
  | zero =>
    intro i st no hd hi
    have e : i = n := by omega
    subst e
    have hz : (t.take i).drop i = [] := by
      rw [List.drop_eq_nil_iff, List.length_take]
      omega
    rw [hz]
    simp only [zflt]
    refine zRn_n 2 rfl ?_
    refine zR_getf rfl h1 rfl ?_
    refine zRn_n 1 rfl ?_
    refine zR_ge (fun _ => ?_) (fun g => absurd (nI_le (Nat.le_refl i) (by omega)) g)
    refine zRn_n 2 rfl ?_
    refine zR_ne (fun g1 => ?_) (fun g1 => ?_)
    · rw [if_pos g1]
      refine zRn_n 3 rfl ?_
      refine zR_eq (fun (g2 : st = 10) => ?_) (fun (g2 : ¬ st = 10) => ?_)
      · rw [if_pos g2]
        exact zRn_n 2 rfl (zRn_ret rfl)
      · rw [if_neg g2]
        refine zRn_n 3 rfl ?_
        refine zR_ne (fun (g3 : st = 11) => ?_) (fun (g3 : ¬ st = 11) => ?_)
        · rw [if_pos g3]
          exact zRn_n 2 rfl (zRn_ret rfl)
        · rw [if_neg g3]
          refine zRn_n 1 rfl ?_
          refine zR_getf rfl h1 rfl ?_
          exact zRn_ret rfl
    · rw [if_neg g1]
      exact zRn_n 2 rfl (zRn_ret rfl)
  | succ d ih =>
    intro i st no hd hi
    have hlt : i < n := by omega
    have hlt2 : i < (t.take n).length := by rw [List.length_take]; omega
    have hz : (t.take n).drop i = (t.take n)[i] :: (t.take n).drop (i + 1) := List.drop_eq_getElem_cons hlt2
    have hti : t[i]? = some (t.take n)[i] := by
      rw [List.getElem_take, List.getElem?_eq_getElem]
    generalize (t.take n)[i] = c at hz hti
    rw [hz]
    simp only [zflt]
    refine zRn_n 2 rfl ?_
    refine zR_getf rfl h1 rfl ?_
    refine zRn_n 1 rfl ?_
    refine zR_ge (fun g => absurd g (nI_ge hlt (by omega))) (fun _ => ?_)
    refine zRn_n 1 rfl ?_
    refine zR_getf rfl h1 rfl ?_
    refine zRn_n 1 rfl ?_
    refine zR_cald rfl h2 (zix_nI (by omega)) hti ?_
    refine zRn_n 2 rfl ?_
    refine zR_eq (fun (g : c = 32) => ?_) (fun (g : ¬ c = 32) => ?_)
    · rw [if_pos g]
      have K := ih (i + 1) st no (by omega) (by omega)
      rw [show nI (i + 1) = nI i + Int32.ofInt 1 from nI_succ i] at K
      exact zRn_n 2 rfl K
    · rw [if_neg g]
      refine zRn_n 4 rfl ?_
      refine zR_getf rfl h1 rfl ?_
      refine zRn_n 1 rfl ?_
      refine zR_cald rfl h2 (zix_nI (by omega)) hti ?_
      refine zR_calls rfl rfl rfl rfl (zr_64 σ st c) rfl ?_
      refine zRn_n 3 rfl ?_
      refine zR_ge (fun g2 => ?_) (fun g2 => ?_)
      · rw [if_pos g2]
        have K := ih (i + 1) (zf_64 st c) 0 (by omega) (by omega)
        rw [show nI (i + 1) = nI i + Int32.ofInt 1 from nI_succ i] at K
        exact zRn_n 2 rfl K
      · rw [if_neg g2]
        exact zRn_n 1 rfl (zRn_ret rfl)
theorem zm_fault (h1 : σ[123]? = some (.inl (10, zMf (nI n) seen given many arrows siphons sums rows))) (h2 : σ[124]? = some (.inr (.inl (.char, t)))) (hn : n ≤ 100) (ht : t.length = 100) : zR none 65 (0, zent [.ref 124] 4, [], σ, 0, 0) (some (.int (zflt (t.take n) 0 1 0 n)), σ, 0, 0) := by
  have K := zm_fault_loop h1 h2 hn ht n 0 0 1 (Nat.sub_zero n) (Nat.zero_le n)
  rw [List.drop_zero] at K
  exact zRn_n 6 rfl K
end ZRT

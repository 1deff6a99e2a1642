/-! Form.accepts: the automaton's step. -/
section ZAC
theorem zR_sw {scr : Option (List Int32)} {y pc t : Nat} {L : List (Option Value)} {st : List Value} {σ : List zC} {nc ns : Nat} {o : zO} {len x1 x2 x3 : Nat} {x : Int32} {dflt lo hi off : Int} {offs : Array Int} (h : zins zP y pc = some (.tableswitch dflt lo hi offs, len, x1, x2, x3)) (hs : zsw x.toInt lo hi dflt offs = some off) (hj : zjmp pc off = some t) (n : zR scr y (t, L, st, σ, nc, ns) o) : zR scr y (pc, L, .int x :: st, σ, nc, ns) o := by
  refine zRn_1 ?_ n
  rw [zst_of h]
  simp only [zstep, zp1i, Option.bind_some, hs, hj]
theorem zset_id {σ : List zC} {k : Nat} {c : zC} (h : σ[k]? = some c) : σ.set k c = σ := by
  apply List.ext_getElem?
  intro j
  by_cases e : k = j
  · subst e
    rw [List.getElem?_set_self (List.getElem?_eq_some_iff.mp h).1, h]
  · rw [List.getElem?_set_ne e]
def zAs (s r c : Int32) : Option (Int32 × Int32) := if c = 32 then some (s, r) else if s = 0 then (zsd c).map (fun s' => (s', r)) else if s = 1 then (zsd c).map (fun s' => (s', r)) else if s = 2 then (ztm c).map (fun s' => (s', r)) else if s = 3 then (if zspec c = 0 then none else some (4, r)) else if s = 4 then (if c = 43 then some (2, r) else (zen r c).map (fun r' => (1, r'))) else (zen r c).map (fun r' => (1, r'))
variable {σ : List zC} {s r f c : Int32}
def zAok (σ : List zC) (s r f c : Int32) (q : Option (Int32 × Int32)) : Prop := (∀ s' r', q = some (s', r') → zR none 23 (0, zent [.ref 4, .int c] 2, [], σ, 0, 0) (some (.int 1), σ.set 3 (zFm s' r' f), 0, 0)) ∧ (q = none → zR none 23 (0, zent [.ref 4, .int c] 2, [], σ, 0, 0) (some (.int 0), σ, 0, 0))
theorem zc_acc_in {o : zO} (hF : σ[3]? = some (zFm s r f)) (h : ¬ c = 32) (k : zR none 23 (12, zent [.ref 4, .int c] 2, [.int s], σ, 0, 0) o) : zR none 23 (0, zent [.ref 4, .int c] 2, [], σ, 0, 0) o := by
  refine zRn_n 3 rfl (zR_ne (fun g => absurd g h) (fun _ => ?_))
  refine zRn_n 1 rfl ?_
  exact zR_getf rfl hF rfl k
theorem zc_acc_side {q : Option Int32} {pcs : Nat} (hF : σ[3]? = some (zFm s r f)) (h : ¬ c = 32) (hq : (∀ s', q = some s' → zR none 23 (pcs, zent [.ref 4, .int c] 2, [], σ, 0, 0) (some (.int 1), σ.set 3 (zFm s' r f), 0, 0)) ∧ (q = none → zR none 23 (pcs, zent [.ref 4, .int c] 2, [], σ, 0, 0) (some (.int 0), σ, 0, 0))) (hk : ∀ o : zO, zR none 23 (pcs, zent [.ref 4, .int c] 2, [], σ, 0, 0) o → zR none 23 (12, zent [.ref 4, .int c] 2, [.int s], σ, 0, 0) o) : zAok σ s r f c (q.map (fun s' => (s', r))) := by
  refine ⟨fun s' r' e => ?_, fun e => ?_⟩
  · obtain ⟨w, hw, e2⟩ := Option.map_eq_some_iff.mp e
    cases e2
    exact zc_acc_in hF h (hk _ (hq.1 _ hw))
  · cases q with
    | none => exact zc_acc_in hF h (hk _ (hq.2 rfl))
    | some w => cases e
theorem zc_side23 (hF : σ[3]? = some (zFm s r f)) : (∀ s', zsd c = some s' → zR none 23 (48, zent [.ref 4, .int c] 2, [], σ, 0, 0) (some (.int 1), σ.set 3 (zFm s' r f), 0, 0)) ∧ (zsd c = none → zR none 23 (48, zent [.ref 4, .int c] 2, [], σ, 0, 0) (some (.int 0), σ, 0, 0)) :=
  ⟨fun s' g => zRn_n 2 rfl (zR_callv rfl rfl rfl hF rfl ((zc_side hF).1 s' g) rfl (zRn_ret rfl)), fun g => zRn_n 2 rfl (zR_callv rfl rfl rfl hF rfl ((zc_side hF).2 g) rfl (zRn_ret rfl))⟩
theorem zc_term23 (hF : σ[3]? = some (zFm s r f)) : (∀ s', ztm c = some s' → zR none 23 (54, zent [.ref 4, .int c] 2, [], σ, 0, 0) (some (.int 1), σ.set 3 (zFm s' r f), 0, 0)) ∧ (ztm c = none → zR none 23 (54, zent [.ref 4, .int c] 2, [], σ, 0, 0) (some (.int 0), σ, 0, 0)) :=
  ⟨fun s' g => zRn_n 2 rfl (zR_callv rfl rfl rfl hF rfl ((zc_term hF).1 s' g) rfl (zRn_ret rfl)), fun g => zRn_n 2 rfl (zR_callv rfl rfl rfl hF rfl ((zc_term hF).2 g) rfl (zRn_ret rfl))⟩
theorem zc_acc (hF : σ[3]? = some (zFm s r f)) (hs : s = 0 ∨ s = 1 ∨ s = 2 ∨ s = 3 ∨ s = 4 ∨ s = 5) : zAok σ s r f c (zAs s r c) := by
  unfold zAs
  by_cases h : c = 32
  · rw [if_pos h]
    refine ⟨fun s' r' e => ?_, fun e => (by cases e)⟩
    cases e
    rw [zset_id hF]
    exact zRn_n 3 rfl (zR_ne (fun _ => zRn_n 1 rfl (zRn_ret rfl)) (fun g => absurd h g))
  · rw [if_neg h]
    rcases hs with rfl | rfl | rfl | rfl | rfl | rfl
    · rw [if_pos rfl]
      exact zc_acc_side hF h (zc_side23 hF) (fun o k => zR_sw (off := 36) rfl (by decide +kernel) rfl k)
    · rw [if_neg (by decide), if_pos rfl]
      exact zc_acc_side hF h (zc_side23 hF) (fun o k => zR_sw (off := 36) rfl (by decide +kernel) rfl k)
    · rw [if_neg (by decide), if_neg (by decide), if_pos rfl]
      exact zc_acc_side hF h (zc_term23 hF) (fun o k => zR_sw (off := 42) rfl (by decide +kernel) rfl k)
    · rw [if_neg (by decide), if_neg (by decide), if_neg (by decide), if_pos rfl]
      have hk : ∀ o : zO, zR none 23 (60, zent [.ref 4, .int c] 2, [], σ, 0, 0) o → zR none 23 (0, zent [.ref 4, .int c] 2, [], σ, 0, 0) o := fun o k => zc_acc_in hF h (zR_sw (off := 48) rfl (by decide +kernel) rfl k)
      by_cases h2 : zspec c = 0
      · rw [if_pos h2]
        refine ⟨fun _ _ e => (by cases e), fun _ => hk _ ?_⟩
        exact zRn_n 2 rfl (zR_callv rfl rfl rfl hF rfl (zc_spec0 h2) rfl (zRn_ret rfl))
      · rw [if_neg h2]
        refine ⟨fun _ _ e => ?_, fun e => (by cases e)⟩
        cases e
        exact hk _ (zRn_n 2 rfl (zR_callv rfl rfl rfl hF rfl (zc_spec1 hF h2) rfl (zRn_ret rfl)))
    · rw [if_neg (by decide), if_neg (by decide), if_neg (by decide), if_neg (by decide), if_pos rfl]
      have hk : ∀ o : zO, zR none 23 (66, zent [.ref 4, .int c] 2, [], σ, 0, 0) o → zR none 23 (0, zent [.ref 4, .int c] 2, [], σ, 0, 0) o := fun o k => zc_acc_in hF h (zR_sw (off := 54) rfl (by decide +kernel) rfl k)
      by_cases h2 : c = 43
      · rw [if_pos h2]
        refine ⟨fun _ _ e => ?_, fun e => (by cases e)⟩
        cases e
        exact hk _ (zRn_n 2 rfl (zR_callv rfl rfl rfl hF rfl (zc_plus1 hF h2) rfl (zRn_n 3 rfl (zRn_ret rfl))))
      · rw [if_neg h2]
        have E := zc_end (c := c) hF
        refine ⟨fun s' r' e => ?_, fun e => ?_⟩
        · obtain ⟨w, hw, e2⟩ := Option.map_eq_some_iff.mp e
          cases e2
          refine hk _ (zRn_n 2 rfl (zR_callv rfl rfl rfl hF rfl (zc_plus0 h2) rfl (zRn_n 3 rfl ?_)))
          exact zR_callv rfl rfl rfl hF rfl (E.1 _ hw) rfl (zRn_n 3 rfl (zRn_ret rfl))
        · have e' : zen r c = none := by
            cases hz : zen r c with
            | none => rfl
            | some w => rw [hz] at e; cases e
          refine hk _ (zRn_n 2 rfl (zR_callv rfl rfl rfl hF rfl (zc_plus0 h2) rfl (zRn_n 3 rfl ?_)))
          exact zR_callv rfl rfl rfl hF rfl (E.2 e') rfl (zRn_n 2 rfl (zRn_ret rfl))
    · rw [if_neg (by decide), if_neg (by decide), if_neg (by decide), if_neg (by decide), if_neg (by decide)]
      have hk : ∀ o : zO, zR none 23 (88, zent [.ref 4, .int c] 2, [], σ, 0, 0) o → zR none 23 (0, zent [.ref 4, .int c] 2, [], σ, 0, 0) o := fun o k => zc_acc_in hF h (zR_sw (off := 76) rfl (by decide +kernel) rfl k)
      have E := zc_end (c := c) hF
      refine ⟨fun s' r' e => ?_, fun e => ?_⟩
      · obtain ⟨w, hw, e2⟩ := Option.map_eq_some_iff.mp e
        cases e2
        exact hk _ (zRn_n 2 rfl (zR_callv rfl rfl rfl hF rfl (E.1 _ hw) rfl (zRn_ret rfl)))
      · have e' : zen r c = none := by
          cases hz : zen r c with
          | none => rfl
          | some w => rw [hz] at e; cases e
        exact hk _ (zRn_n 2 rfl (zR_callv rfl rfl rfl hF rfl (E.2 e') rfl (zRn_ret rfl)))
end ZAC

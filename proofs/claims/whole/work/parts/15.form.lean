/-! The class's Form: a character is accepted or not. zFm s r f: the object's cell. -/
section ZFO
def zFm (s r f : Int32) : zC := .inl (2, [.int s, .int r, .int f])
def zspec (c : Int32) : Int32 := zf_17 (c - (Int8.ofInt 65).toInt32)
variable {σ : List zC} {s r f c : Int32}
theorem zc_move (h : σ[3]? = some (zFm s r f)) (n : Int32) : zR none 16 (0, zent [.ref 4, .int n] 2, [], σ, 0, 0) (some (.int 1), σ.set 3 (zFm n r f), 0, 0) := by
  refine zRn_n 2 rfl ?_
  refine zR_putf rfl h rfl rfl ?_
  exact zRn_n 1 rfl (zRn_ret rfl)
theorem zc_spec0 (h : zspec c = 0) : zR none 18 (0, zent [.ref 4, .int c] 2, [], σ, 0, 0) (some (.int 0), σ, 0, 0) := by
  refine zRn_n 3 rfl ?_
  refine zR_calls rfl rfl rfl rfl (zr_17 σ _) rfl ?_
  refine zRn_n 1 rfl ?_
  refine zR_eq (fun _ => ?_) (fun g => absurd h g)
  exact zRn_n 1 rfl (zRn_ret rfl)
theorem zc_spec1 (hF : σ[3]? = some (zFm s r f)) (h : ¬ zspec c = 0) : zR none 18 (0, zent [.ref 4, .int c] 2, [], σ, 0, 0) (some (.int 1), σ.set 3 (zFm 4 r f), 0, 0) := by
  refine zRn_n 3 rfl ?_
  refine zR_calls rfl rfl rfl rfl (zr_17 σ _) rfl ?_
  refine zRn_n 1 rfl ?_
  refine zR_eq (fun g => absurd g h) (fun _ => ?_)
  refine zRn_n 2 rfl ?_
  refine zR_callv rfl rfl rfl hF rfl (zc_move hF _) rfl ?_
  exact zRn_n 3 rfl (zRn_ret rfl)
/-- a term's beginning: the state behind it -/
def ztm (c : Int32) : Option Int32 := if c < 49 then (if zspec c = 0 then none else some 4) else if 57 < c then (if zspec c = 0 then none else some 4) else some 3
theorem zc_term (hF : σ[3]? = some (zFm s r f)) : (∀ s', ztm c = some s' → zR none 19 (0, zent [.ref 4, .int c] 2, [], σ, 0, 0) (some (.int 1), σ.set 3 (zFm s' r f), 0, 0)) ∧ (ztm c = none → zR none 19 (0, zent [.ref 4, .int c] 2, [], σ, 0, 0) (some (.int 0), σ, 0, 0)) := by
  have tail : ∀ (a : zS), a = (20, zent [.ref 4, .int c] 2, [], σ, 0, 0) → ((¬ zspec c = 0 → zR none 19 a (some (.int 1), σ.set 3 (zFm 4 r f), 0, 0)) ∧ (zspec c = 0 → zR none 19 a (some (.int 0), σ, 0, 0))) := by
    intro a ha
    subst ha
    refine ⟨fun h => ?_, fun h => ?_⟩
    · refine zRn_n 2 rfl ?_
      exact zR_callv rfl rfl rfl hF rfl (zc_spec1 hF h) rfl (zRn_ret rfl)
    · refine zRn_n 2 rfl ?_
      exact zR_callv rfl rfl rfl hF rfl (zc_spec0 h) rfl (zRn_ret rfl)
  have t1 := (tail _ rfl).1
  have t0 := (tail _ rfl).2
  unfold ztm
  by_cases h1 : c < 49
  · rw [if_pos h1]
    by_cases h2 : zspec c = 0
    · rw [if_pos h2]
      exact ⟨fun _ h => (by cases h), fun _ => zRn_n 3 rfl (zR_lt (fun _ => t0 h2) (fun g => absurd h1 g))⟩
    · rw [if_neg h2]
      exact ⟨fun _ h => by cases h; exact zRn_n 3 rfl (zR_lt (fun _ => t1 h2) (fun g => absurd h1 g)), fun h => by cases h⟩
  · rw [if_neg h1]
    by_cases h3 : 57 < c
    · rw [if_pos h3]
      by_cases h2 : zspec c = 0
      · rw [if_pos h2]
        exact ⟨fun _ h => (by cases h), fun _ => zRn_n 3 rfl (zR_lt (fun g => absurd g h1) (fun _ => zRn_n 3 rfl (zR_gt (fun _ => t0 h2) (fun g => absurd h3 g))))⟩
      · rw [if_neg h2]
        exact ⟨fun _ h => by cases h; exact zRn_n 3 rfl (zR_lt (fun g => absurd g h1) (fun _ => zRn_n 3 rfl (zR_gt (fun _ => t1 h2) (fun g => absurd h3 g)))), fun h => by cases h⟩
    · rw [if_neg h3]
      refine ⟨fun _ h => ?_, fun h => by cases h⟩
      cases h
      refine zRn_n 3 rfl (zR_lt (fun g => absurd g h1) (fun _ => zRn_n 3 rfl (zR_gt (fun g => absurd g h3) (fun _ => ?_))))
      refine zRn_n 2 rfl ?_
      refine zR_callv rfl rfl rfl hF rfl (zc_move hF _) rfl ?_
      exact zRn_n 1 rfl (zRn_ret rfl)
/-- a side's beginning -/
def zsd (c : Int32) : Option Int32 := if c = 48 then some 5 else ztm c
theorem zc_side (hF : σ[3]? = some (zFm s r f)) : (∀ s', zsd c = some s' → zR none 20 (0, zent [.ref 4, .int c] 2, [], σ, 0, 0) (some (.int 1), σ.set 3 (zFm s' r f), 0, 0)) ∧ (zsd c = none → zR none 20 (0, zent [.ref 4, .int c] 2, [], σ, 0, 0) (some (.int 0), σ, 0, 0)) := by
  have T := zc_term (c := c) hF
  unfold zsd
  by_cases h : c = 48
  · rw [if_pos h]
    refine ⟨fun _ g => ?_, fun g => (by cases g)⟩
    cases g
    refine zRn_n 3 rfl (zR_ne (fun _ => ?_) (fun g => absurd h g))
    refine zRn_n 2 rfl ?_
    refine zR_callv rfl rfl rfl hF rfl (zc_move hF _) rfl ?_
    exact zRn_n 1 rfl (zRn_ret rfl)
  · rw [if_neg h]
    refine ⟨fun s' g => ?_, fun g => ?_⟩
    · refine zRn_n 3 rfl (zR_ne (fun g => absurd g h) (fun _ => ?_))
      refine zRn_n 2 rfl ?_
      exact zR_callv rfl rfl rfl hF rfl (T.1 s' g) rfl (zRn_ret rfl)
    · refine zRn_n 3 rfl (zR_ne (fun g => absurd g h) (fun _ => ?_))
      refine zRn_n 2 rfl ?_
      exact zR_callv rfl rfl rfl hF rfl (T.2 g) rfl (zRn_ret rfl)
theorem zc_plus1 (hF : σ[3]? = some (zFm s r f)) (h : c = 43) : zR none 21 (0, zent [.ref 4, .int c] 2, [], σ, 0, 0) (some (.int 1), σ.set 3 (zFm 2 r f), 0, 0) := by
  refine zRn_n 3 rfl (zR_ne (fun _ => ?_) (fun g => absurd h g))
  refine zRn_n 2 rfl ?_
  refine zR_callv rfl rfl rfl hF rfl (zc_move hF _) rfl ?_
  exact zRn_n 3 rfl (zRn_ret rfl)
theorem zc_plus0 (h : ¬ c = 43) : zR none 21 (0, zent [.ref 4, .int c] 2, [], σ, 0, 0) (some (.int 0), σ, 0, 0) := by
  refine zRn_n 3 rfl (zR_ne (fun g => absurd g h) (fun _ => ?_))
  exact zRn_n 1 rfl (zRn_ret rfl)
/-- a side's end: which side comes -/
def zen (r c : Int32) : Option Int32 := if r = 0 then (if c = 62 then some 1 else if c = 61 then some 1 else none) else if c = 59 then some 0 else none
theorem zc_end (hF : σ[3]? = some (zFm s r f)) : (∀ r', zen r c = some r' → zR none 22 (0, zent [.ref 4, .int c] 3, [], σ, 0, 0) (some (.int 1), σ.set 3 (zFm 1 r' f), 0, 0)) ∧ (zen r c = none → zR none 22 (0, zent [.ref 4, .int c] 3, [], σ, 0, 0) (some (.int 0), σ, 0, 0)) := by
  have no : ∀ (a : zS), a = (38, zent [.ref 4, .int c] 3, [.int 0], σ, 0, 0) → zR none 22 a (some (.int 0), σ, 0, 0) := by
    intro a ha
    subst ha
    exact zRn_n 4 rfl (zRn_ret rfl)
  have yes : ∀ (r' : Int32) (a : zS), a = (38, zent [.ref 4, .int c] 3, [.int 1], σ, 0, 0) → (r = 0 ∧ r' = 1) ∨ (¬ r = 0 ∧ r' = 0) → zR none 22 a (some (.int 1), σ.set 3 (zFm 1 r' f), 0, 0) := by
    intro r' a ha hr
    subst ha
    refine zRn_n 5 rfl ?_
    refine zR_getf rfl hF rfl ?_
    refine zRn_n 1 rfl ?_
    refine zR_ne (fun g => ?_) (fun g => ?_)
    · rcases hr with ⟨_, h2⟩ | ⟨h1, _⟩
      · subst h2
        refine zRn_n 2 rfl ?_
        refine zR_putf rfl hF rfl rfl ?_
        have hF' := zset_at (c' := zFm s 1 f) hF
        refine zRn_n 2 rfl ?_
        refine zR_putf rfl hF' rfl rfl ?_
        rw [List.set_set]
        exact zRn_n 1 rfl (zRn_ret rfl)
      · exact absurd g h1
    · rcases hr with ⟨h1, _⟩ | ⟨_, h2⟩
      · exact absurd h1 g
      · subst h2
        refine zRn_n 1 rfl ?_
        refine zR_putf rfl hF rfl rfl ?_
        have hF' := zset_at (c' := zFm s 0 f) hF
        refine zRn_n 2 rfl ?_
        refine zR_putf rfl hF' rfl rfl ?_
        rw [List.set_set]
        exact zRn_n 1 rfl (zRn_ret rfl)
  have start : ∀ (a : zS) (o : zO), a = (0, zent [.ref 4, .int c] 3, [], σ, 0, 0) → (r = 0 → zR none 22 (21, zent [.ref 4, .int c] 3, [], σ, 0, 0) o) → (¬ r = 0 → zR none 22 (7, zent [.ref 4, .int c] 3, [], σ, 0, 0) o) → zR none 22 a o := by
    intro a o ha k1 k2
    subst ha
    refine zRn_n 1 rfl ?_
    refine zR_getf rfl hF rfl ?_
    exact zRn_n 1 rfl (zR_eq k1 k2)
  unfold zen
  by_cases hr : r = 0
  · rw [if_pos hr]
    by_cases h2 : c = 62
    · rw [if_pos h2]
      refine ⟨fun r' g => ?_, fun g => (by cases g)⟩
      cases g
      refine start _ _ rfl (fun _ => ?_) (fun g => absurd hr g)
      refine zRn_n 3 rfl (zR_eq (fun _ => ?_) (fun g => absurd h2 g))
      exact zRn_n 2 rfl (yes 1 _ rfl (Or.inl ⟨hr, rfl⟩))
    · rw [if_neg h2]
      by_cases h3 : c = 61
      · rw [if_pos h3]
        refine ⟨fun r' g => ?_, fun g => (by cases g)⟩
        cases g
        refine start _ _ rfl (fun _ => ?_) (fun g => absurd hr g)
        refine zRn_n 3 rfl (zR_eq (fun g => absurd g h2) (fun _ => ?_))
        refine zRn_n 3 rfl (zR_ne (fun _ => ?_) (fun g => absurd h3 g))
        exact zRn_n 2 rfl (yes 1 _ rfl (Or.inl ⟨hr, rfl⟩))
      · rw [if_neg h3]
        refine ⟨fun r' g => (by cases g), fun _ => ?_⟩
        refine start _ _ rfl (fun _ => ?_) (fun g => absurd hr g)
        refine zRn_n 3 rfl (zR_eq (fun g => absurd g h2) (fun _ => ?_))
        refine zRn_n 3 rfl (zR_ne (fun g => absurd g h3) (fun _ => ?_))
        exact zRn_n 1 rfl (no _ rfl)
  · rw [if_neg hr]
    by_cases h2 : c = 59
    · rw [if_pos h2]
      refine ⟨fun r' g => ?_, fun g => (by cases g)⟩
      cases g
      refine start _ _ rfl (fun g => absurd g hr) (fun _ => ?_)
      refine zRn_n 3 rfl (zR_ne (fun _ => ?_) (fun g => absurd h2 g))
      exact zRn_n 2 rfl (yes 0 _ rfl (Or.inr ⟨hr, rfl⟩))
    · rw [if_neg h2]
      refine ⟨fun r' g => (by cases g), fun _ => ?_⟩
      refine start _ _ rfl (fun g => absurd g hr) (fun _ => ?_)
      refine zRn_n 3 rfl (zR_ne (fun g => absurd g h2) (fun _ => ?_))
      exact zRn_n 2 rfl (no _ rfl)
end ZFO

/-! A line's end, as a value; the class's endLine. -/
section ZEL
def zpla (comps : List (List Int32)) (side : List Int32) : List (List Int32) × Nat := match zfd comps side with
  | some j => (comps, j)
  | none => (comps ++ [side], comps.length)
def zjoi (rs : List (Nat × Nat)) (q : Nat × Nat) : List (Nat × Nat) := if q ∈ rs then rs else rs ++ [q]
abbrev zN : Type := List (List Int32) × List (Nat × Nat)
/-- what a line does: a fault, or the network behind it -/
def zline (N : zN) (l r : List Int32) (both : Bool) : Int32 ⊕ zN :=
  if zhi l = 1 ∨ zhi r = 1 then .inl (-200) else if l = r then .inl (-201) else
  if 9 < (zpla (zpla N.1 l).1 r).1.length then .inl (-202) else
  if 10 < (if both then zjoi (zjoi N.2 ((zpla N.1 l).2, (zpla (zpla N.1 l).1 r).2)) ((zpla (zpla N.1 l).1 r).2, (zpla N.1 l).2) else zjoi N.2 ((zpla N.1 l).2, (zpla (zpla N.1 l).1 r).2)).length then .inl (-203) else
  .inr ((zpla (zpla N.1 l).1 r).1, if both then zjoi (zjoi N.2 ((zpla N.1 l).2, (zpla (zpla N.1 l).1 r).2)) ((zpla (zpla N.1 l).1 r).2, (zpla N.1 l).2) else zjoi N.2 ((zpla N.1 l).2, (zpla (zpla N.1 l).1 r).2))
theorem zpla_len (comps : List (List Int32)) (side : List Int32) : comps.length ≤ (zpla comps side).1.length := by
  unfold zpla
  split
  · exact Nat.le_refl _
  · rw [List.length_append]; exact Nat.le_add_right _ _
theorem zjoi_len (rs : List (Nat × Nat)) (q : Nat × Nat) : rs.length ≤ (zjoi rs q).length := by
  unfold zjoi
  split
  · exact Nat.le_refl _
  · rw [List.length_append]; exact Nat.le_add_right _ _
variable {σ : List zC} {b k : Nat} {comps : List (List Int32)} {rs : List (Nat × Nat)} {side : List Int32}
theorem zn_place (h : zNA σ b comps rs) (hk : σ[k]? = some (.inr (.inl (.int, side)))) (hkb : k < b) (hs : side.length = 7) : (9 < (zpla comps side).1.length ∧ zR none 29 (0, zent [.ref (b + 1), .ref (k + 1)] 4, [], σ, 0, 0) (some (.int (-1)), σ, 0, 0)) ∨ ∃ σ', zR none 29 (0, zent [.ref (b + 1), .ref (k + 1)] 4, [], σ, 0, 0) (some (.int (nI (zpla comps side).2)), σ', 0, 0) ∧ zNA σ' b (zpla comps side).1 rs ∧ zkp (zNk b) σ σ' ∧ (zpla comps side).2 < 9 := by
  have h5 : comps.length ≤ 9 := by obtain ⟨_, _, _, _, _, _, _, _, h5, _⟩ := h; exact h5
  cases hf : zfd comps side with
  | some j =>
    have e : zpla comps side = (comps, j) := by unfold zpla; rw [hf]
    rw [e]
    have hj : j < comps.length := (List.getElem?_eq_some_iff.mp (zfd_lt hf)).1
    exact Or.inr ⟨σ, zn_place_in h hk hs hf, h, zkp_rf, by show j < 9; omega⟩
  | none =>
    have e : zpla comps side = (comps ++ [side], comps.length) := by unfold zpla; rw [hf]
    rw [e]
    rcases Nat.lt_or_ge comps.length 9 with h9 | h9
    · obtain ⟨σ', r1, r2, r3⟩ := zn_place_new h hk hkb hs hf h9
      exact Or.inr ⟨σ', r1, r2, r3, h9⟩
    · have e9 : comps.length = 9 := by omega
      refine Or.inl ⟨?_, zn_place_no h hk hs hf e9⟩
      show 9 < (comps ++ [side]).length
      rw [List.length_append, e9, List.length_singleton]
      omega
theorem zn_join (h : zNA σ b comps rs) {f g : Nat} (hf : f < 9) (hg : g < 9) : (10 < (zjoi rs (f, g)).length ∧ zR none 30 (0, zent [.ref (b + 1), .int (nI f), .int (nI g)] 4, [], σ, 0, 0) (some (.int 0), σ, 0, 0)) ∨ ∃ σ', zR none 30 (0, zent [.ref (b + 1), .int (nI f), .int (nI g)] 4, [], σ, 0, 0) (some (.int 1), σ', 0, 0) ∧ zNA σ' b comps (zjoi rs (f, g)) ∧ zkp (zNk b) σ σ' := by
  have h6 : rs.length ≤ 10 := by obtain ⟨_, _, _, _, _, _, _, _, _, h6⟩ := h; exact h6
  by_cases hin : (f, g) ∈ rs
  · have e : zjoi rs (f, g) = rs := by unfold zjoi; rw [if_pos hin]
    rw [e]
    exact Or.inr ⟨σ, zn_join_in h hf hg hin, h, zkp_rf⟩
  · have e : zjoi rs (f, g) = rs ++ [(f, g)] := by unfold zjoi; rw [if_neg hin]
    rw [e]
    rcases Nat.lt_or_ge rs.length 10 with h9 | h9
    · obtain ⟨σ', r1, r2, r3⟩ := zn_join_new h hf hg hin h9
      exact Or.inr ⟨σ', r1, r2, r3⟩
    · have e9 : rs.length = 10 := by omega
      refine Or.inl ⟨?_, zn_join_no h hf hg hin e9⟩
      rw [List.length_append, e9, List.length_singleton]
      omega
/-- a line's end on the store -/
def zEnd (σ : List zC) (b : Nat) (v : Int32) (σ' : List zC) (q : Int32 ⊕ zN) : Prop := zkp (zNk b) σ σ' ∧ match q with
  | .inl e => v = e ∧ zNsh σ' b
  | .inr N => v = 0 ∧ zNA σ' b N.1 N.2
theorem zc_endLine {dg ar : Int32} {l r : List Int32} (h : zNA σ b comps rs) (h4 : σ[4]? = some (zLc dg ar)) (h5 : σ[5]? = some (.inr (.inl (.int, l)))) (h6 : σ[6]? = some (.inr (.inl (.int, r)))) (hb : 6 < b) (hl : l.length = 7) (hr : r.length = 7) : ∃ v σ', zR none 31 (0, zent [.ref 5, .ref (b + 1)] 5, [], σ, 0, 0) (some (.int v), σ', 0, 0) ∧ zEnd σ b v σ' (zline (comps, rs) l r (decide (¬ ar = 62))) := by
  have keep : ∀ {τ : List zC}, zkp (zNk b) σ τ → τ[4]? = some (zLc dg ar) ∧ τ[5]? = some (.inr (.inl (.int, l))) ∧ τ[6]? = some (.inr (.inl (.int, r))) := fun {τ} q => ⟨(q.2 4 (fun z => by have := z.1; omega)).trans h4, (q.2 5 (fun z => by have := z.1; omega)).trans h5, (q.2 6 (fun z => by have := z.1; omega)).trans h6⟩
  have hN0 : ∀ {τ : List zC} {c : List (List Int32)} {s : List (Nat × Nat)}, zNA τ b c s → ∃ fs, τ[b]? = some (.inl (4, fs)) := fun {τ c s} q => by
    obtain ⟨_, _, _, _, q1, _⟩ := q
    exact ⟨_, q1.1⟩
  have high : zhi l = 1 ∨ zhi r = 1 → zR none 31 (0, zent [.ref 5, .ref (b + 1)] 5, [], σ, 0, 0) (some (.int (-200)), σ, 0, 0) := by
    intro hh
    refine zRn_n 1 rfl ?_
    refine zR_getf rfl h4 rfl ?_
    refine zR_calls rfl rfl rfl rfl (zc_high h5 hl) rfl ?_
    refine zRn_n 1 rfl ?_
    refine zR_ne (fun g => ?_) (fun _ => zRn_n 1 rfl (zRn_ret rfl))
    refine zRn_n 1 rfl ?_
    refine zR_getf rfl h4 rfl ?_
    refine zR_calls rfl rfl rfl rfl (zc_high h6 hr) rfl ?_
    refine zRn_n 1 rfl ?_
    refine zR_eq (fun g2 => ?_) (fun _ => zRn_n 1 rfl (zRn_ret rfl))
    rcases hh with hh | hh
    · rw [hh] at g; exact absurd g (by decide)
    · rw [hh] at g2; exact absurd g2 (by decide)
  have low : ∀ o : zO, ¬ (zhi l = 1 ∨ zhi r = 1) → zR none 31 (24, zent [.ref 5, .ref (b + 1)] 5, [], σ, 0, 0) o → zR none 31 (0, zent [.ref 5, .ref (b + 1)] 5, [], σ, 0, 0) o := by
    intro o hh K
    have a1 : zhi l = 0 := by
      rcases zhi_eq l with ⟨q, _⟩ | ⟨q, _⟩
      · exact absurd (Or.inl q) hh
      · exact q
    have a2 : zhi r = 0 := by
      rcases zhi_eq r with ⟨q, _⟩ | ⟨q, _⟩
      · exact absurd (Or.inr q) hh
      · exact q
    refine zRn_n 1 rfl ?_
    refine zR_getf rfl h4 rfl ?_
    refine zR_calls rfl rfl rfl rfl (zc_high h5 hl) rfl ?_
    rw [a1]
    refine zRn_n 1 rfl ?_
    refine zR_ne (fun _ => ?_) (fun g => absurd rfl g)
    refine zRn_n 1 rfl ?_
    refine zR_getf rfl h4 rfl ?_
    refine zR_calls rfl rfl rfl rfl (zc_high h6 hr) rfl ?_
    rw [a2]
    refine zRn_n 1 rfl ?_
    exact zR_eq (fun _ => K) (fun g => absurd rfl g)
  unfold zline
  by_cases hh : zhi l = 1 ∨ zhi r = 1
  · rw [if_pos hh]
    exact ⟨-200, σ, high hh, zkp_rf, rfl, h.sh⟩
  · rw [if_neg hh]
    by_cases hlr : l = r
    · rw [if_pos hlr]
      refine ⟨-201, σ, low _ hh ?_, zkp_rf, rfl, h.sh⟩
      refine zRn_n 1 rfl ?_
      refine zR_getf rfl h4 rfl ?_
      refine zRn_n 1 rfl ?_
      refine zR_getf rfl h4 rfl ?_
      refine zR_calls rfl rfl rfl rfl (zc_same h5 h6 hl hr) rfl ?_
      rcases zsm_eq l r (by omega) with ⟨e1, _⟩ | ⟨_, e2⟩
      · rw [e1]
        refine zRn_n 1 rfl ?_
        exact zR_eq (fun g => absurd g (by decide)) (fun _ => zRn_n 1 rfl (zRn_ret rfl))
      · exact absurd hlr e2
    · rw [if_neg hlr]
      have two : ∀ o : zO, zR none 31 (42, zent [.ref 5, .ref (b + 1)] 5, [], σ, 0, 0) o → zR none 31 (0, zent [.ref 5, .ref (b + 1)] 5, [], σ, 0, 0) o := by
        intro o K
        refine low _ hh ?_
        refine zRn_n 1 rfl ?_
        refine zR_getf rfl h4 rfl ?_
        refine zRn_n 1 rfl ?_
        refine zR_getf rfl h4 rfl ?_
        refine zR_calls rfl rfl rfl rfl (zc_same h5 h6 hl hr) rfl ?_
        rcases zsm_eq l r (by omega) with ⟨_, e2⟩ | ⟨e1, _⟩
        · exact absurd e2 hlr
        · rw [e1]
          refine zRn_n 1 rfl ?_
          exact zR_eq (fun _ => K) (fun g => absurd rfl g)
      -- behind both places
      have tailC : ∀ {τ : List zC} {v2 v3 : Int32}, v2 < 0 ∨ v3 < 0 → zR none 31 (60, [some (.ref 5), some (.ref (b + 1)), some (.int v2), some (.int v3), none], [], τ, 0, 0) (some (.int (-202)), τ, 0, 0) := by
        intro τ v2 v3 hv
        refine zRn_n 2 rfl ?_
        refine zR_lt (fun _ => zRn_n 1 rfl (zRn_ret rfl)) (fun g => ?_)
        refine zRn_n 2 rfl ?_
        refine zR_ge (fun g2 => ?_) (fun _ => zRn_n 1 rfl (zRn_ret rfl))
        rcases hv with hv | hv
        · exact absurd hv g
        · exact absurd hv (k2_nlt g2)
      have tailR : ∀ {τ : List zC} {v2 v3 : Int32}, zR none 31 (103, [some (.ref 5), some (.ref (b + 1)), some (.int v2), some (.int v3), none], [], τ, 0, 0) (some (.int (-203)), τ, 0, 0) := fun {τ v2 v3} => zRn_n 5 rfl (zRn_ret rfl)
      have tailY : ∀ {τ : List zC} {v2 v3 : Int32}, zR none 31 (99, [some (.ref 5), some (.ref (b + 1)), some (.int v2), some (.int v3), none], [], τ, 0, 0) (some (.int 0), τ, 0, 0) := fun {τ v2 v3} => zRn_n 7 rfl (zRn_ret rfl)
      -- the first place
      obtain ⟨fs0, g0⟩ := hN0 h
      rcases zn_place h h5 (by omega) hl with ⟨p1, p2⟩ | ⟨σ1, p1, p2, p3, p4⟩
      · have big : 9 < (zpla (zpla comps l).1 r).1.length := Nat.lt_of_lt_of_le p1 (zpla_len _ _)
        rw [if_pos big]
        have done : ∀ (v3 : Int32) (σ2 : List zC), zR none 29 (0, zent [.ref (b + 1), .ref 7] 4, [], σ, 0, 0) (some (.int v3), σ2, 0, 0) → zR none 31 (42, zent [.ref 5, .ref (b + 1)] 5, [], σ, 0, 0) (some (.int (-202)), σ2, 0, 0) := by
          intro v3 σ2 hp
          refine zRn_n 2 rfl ?_
          refine zR_getf rfl h4 rfl ?_
          refine zR_callv rfl rfl rfl g0 rfl p2 rfl ?_
          refine zRn_n 3 rfl ?_
          refine zR_getf rfl h4 rfl ?_
          refine zR_callv rfl rfl rfl g0 rfl hp rfl ?_
          exact zRn_n 1 rfl (tailC (Or.inl (by decide +kernel)))
        rcases zn_place h h6 (by omega) hr with ⟨_, q2⟩ | ⟨σ2, q1, q2, q3, q4⟩
        · exact ⟨-202, σ, two _ (done _ _ q2), zkp_rf, rfl, h.sh⟩
        · exact ⟨-202, σ2, two _ (done _ _ q1), q3, rfl, q2.sh⟩
      · obtain ⟨k4, k5, k6⟩ := keep p3
        obtain ⟨fs1, g1⟩ := hN0 p2
        have go : ∀ (v3 : Int32) (σ2 : List zC) (o : zO), zR none 29 (0, zent [.ref (b + 1), .ref 7] 4, [], σ1, 0, 0) (some (.int v3), σ2, 0, 0) → zR none 31 (60, [some (.ref 5), some (.ref (b + 1)), some (.int (nI (zpla comps l).2)), some (.int v3), none], [], σ2, 0, 0) o → zR none 31 (42, zent [.ref 5, .ref (b + 1)] 5, [], σ, 0, 0) o := by
          intro v3 σ2 o hp K
          refine zRn_n 2 rfl ?_
          refine zR_getf rfl h4 rfl ?_
          refine zR_callv rfl rfl rfl g0 rfl p1 rfl ?_
          refine zRn_n 3 rfl ?_
          refine zR_getf rfl k4 rfl ?_
          refine zR_callv rfl rfl rfl g1 rfl hp rfl ?_
          exact zRn_n 1 rfl K
        rcases zn_place p2 k6 (by omega) hr with ⟨q1, q2⟩ | ⟨σ2, q1, q2, q3, q4⟩
        · rw [if_pos q1]
          exact ⟨-202, σ1, two _ (go _ _ _ q2 (tailC (Or.inr (by decide +kernel)))), p3, rfl, p2.sh⟩
        · have hc9 : (zpla (zpla comps l).1 r).1.length ≤ 9 := by obtain ⟨_, _, _, _, _, _, _, _, h9, _⟩ := q2; exact h9
          rw [if_neg (by show ¬ 9 < (zpla (zpla comps l).1 r).1.length; omega)]
          have kp2 := zkp_tr p3 q3
          obtain ⟨m4, m5, m6⟩ := keep kp2
          obtain ⟨fs2, g2⟩ := hN0 q2
          have go2 : ∀ (v : Int32) (σ3 : List zC) (o : zO), zR none 30 (0, zent [.ref (b + 1), .int (nI (zpla comps l).2), .int (nI (zpla (zpla comps l).1 r).2)] 4, [], σ2, 0, 0) (some (.int v), σ3, 0, 0) → zR none 31 (78, [some (.ref 5), some (.ref (b + 1)), some (.int (nI (zpla comps l).2)), some (.int (nI (zpla (zpla comps l).1 r).2)), none], [.int v], σ3, 0, 0) o → zR none 31 (0, zent [.ref 5, .ref (b + 1)] 5, [], σ, 0, 0) o := by
            intro v σ3 o hj K
            refine two _ (go _ _ _ q1 ?_)
            refine zRn_n 2 rfl ?_
            refine zR_lt (fun q => absurd q (nI_pos (by omega))) (fun _ => ?_)
            refine zRn_n 2 rfl ?_
            refine zR_ge (fun _ => ?_) (fun q => absurd (nI_pos' (by omega)) q)
            refine zRn_n 3 rfl ?_
            exact zR_callv rfl rfl rfl g2 rfl hj rfl K
          rcases zn_join q2 p4 q4 with ⟨j1, j2⟩ | ⟨σ3, j1, j2, j3⟩
          · have big : 10 < (if decide (¬ ar = 62) = true then zjoi (zjoi rs ((zpla comps l).2, (zpla (zpla comps l).1 r).2)) ((zpla (zpla comps l).1 r).2, (zpla comps l).2) else zjoi rs ((zpla comps l).2, (zpla (zpla comps l).1 r).2)).length := by
              split
              · exact Nat.lt_of_lt_of_le j1 (zjoi_len _ _)
              · exact j1
            rw [if_pos big]
            refine ⟨-203, σ2, go2 _ _ _ j2 ?_, kp2, rfl, q2.sh⟩
            refine zRn_n 1 rfl ?_
            exact tailR
          · have kp3 := zkp_tr kp2 j3
            obtain ⟨w4, w5, w6⟩ := keep kp3
            obtain ⟨fs3, g3⟩ := hN0 j2
            have hr10 : (zjoi rs ((zpla comps l).2, (zpla (zpla comps l).1 r).2)).length ≤ 10 := by obtain ⟨_, _, _, _, _, _, _, _, _, h9⟩ := j2; exact h9
            by_cases har : ar = 62
            · have ed : decide (¬ ar = 62) = false := decide_eq_false (fun q => q har)
              rw [ed]
              rw [if_neg (by show ¬ 10 < (zjoi rs ((zpla comps l).2, (zpla (zpla comps l).1 r).2)).length; omega)]
              refine ⟨0, σ3, go2 _ _ _ j1 ?_, kp3, rfl, j2⟩
              refine zRn_n 2 rfl ?_
              refine zR_getf rfl w4 rfl ?_
              refine zRn_n 2 rfl ?_
              exact zR_eq (fun _ => tailY) (fun q => absurd har q)
            · have ed : decide (¬ ar = 62) = true := decide_eq_true har
              rw [ed]
              have go3 : ∀ (v : Int32) (σ4 : List zC) (o : zO), zR none 30 (0, zent [.ref (b + 1), .int (nI (zpla (zpla comps l).1 r).2), .int (nI (zpla comps l).2)] 4, [], σ3, 0, 0) (some (.int v), σ4, 0, 0) → zR none 31 (96, [some (.ref 5), some (.ref (b + 1)), some (.int (nI (zpla comps l).2)), some (.int (nI (zpla (zpla comps l).1 r).2)), none], [.int v], σ4, 0, 0) o → zR none 31 (0, zent [.ref 5, .ref (b + 1)] 5, [], σ, 0, 0) o := by
                intro v σ4 o hj K
                refine go2 _ _ _ j1 ?_
                refine zRn_n 2 rfl ?_
                refine zR_getf rfl w4 rfl ?_
                refine zRn_n 2 rfl ?_
                refine zR_eq (fun q => absurd q har) (fun _ => ?_)
                refine zRn_n 3 rfl ?_
                exact zR_callv rfl rfl rfl g3 rfl hj rfl K
              rcases zn_join j2 q4 p4 with ⟨i1, i2⟩ | ⟨σ4, i1, i2, i3⟩
              · rw [if_pos (by exact i1)]
                exact ⟨-203, σ3, go3 _ _ _ i2 (zRn_n 1 rfl tailR), kp3, rfl, j2.sh⟩
              · have hs10 : (zjoi (zjoi rs ((zpla comps l).2, (zpla (zpla comps l).1 r).2)) ((zpla (zpla comps l).1 r).2, (zpla comps l).2)).length ≤ 10 := by obtain ⟨_, _, _, _, _, _, _, _, _, h9⟩ := i2; exact h9
                rw [if_neg (by show ¬ 10 < (zjoi (zjoi rs ((zpla comps l).2, (zpla (zpla comps l).1 r).2)) ((zpla (zpla comps l).1 r).2, (zpla comps l).2)).length; omega)]
                exact ⟨0, σ4, go3 _ _ _ i1 (zRn_n 1 rfl tailY), zkp_tr kp3 i3, rfl, i2⟩
end ZEL

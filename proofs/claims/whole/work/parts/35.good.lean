/-! What every network that was read keeps. -/
section YGD
def yRow (row : List Int32) : Prop := row.length = 7 ∧ ∀ x ∈ row, ∃ m, m ≤ 4 ∧ x = nI m
def yGood (N : zN) : Prop := N.1.length ≤ 9 ∧ N.2.length ≤ 10 ∧ (∀ row ∈ N.1, yRow row) ∧ (∀ p ∈ N.2, p.1 < N.1.length ∧ p.2 < N.1.length) ∧ N.2.Nodup
def ySide (k : Nat) (l : List Int32) : Prop := l.length = 7 ∧ ∀ x ∈ l, ∃ m, m ≤ k ∧ x = nI m
theorem y_pla {c : List (List Int32)} {s : List Int32} (h : ∀ row ∈ c, yRow row) (hs : yRow s) : ∀ row ∈ (zpla c s).1, yRow row := by
  unfold zpla
  split
  · exact h
  · intro row hr
    rcases List.mem_append.mp hr with q | q
    · exact h row q
    · rw [List.mem_singleton.mp q]; exact hs
theorem y_joi {rs : List (Nat × Nat)} {q : Nat × Nat} {n : Nat} (h : ∀ p ∈ rs, p.1 < n ∧ p.2 < n) (hq : q.1 < n ∧ q.2 < n) : ∀ p ∈ zjoi rs q, p.1 < n ∧ p.2 < n := by
  unfold zjoi
  split
  · exact h
  · intro p hp
    rcases List.mem_append.mp hp with z | z
    · exact h p z
    · rw [List.mem_singleton.mp z]; exact hq
theorem y_joi_nd {rs : List (Nat × Nat)} {q : Nat × Nat} (h : rs.Nodup) : (zjoi rs q).Nodup := by
  unfold zjoi
  split
  · exact h
  · rename_i hn
    rw [List.nodup_append]
    refine ⟨h, by simp, fun a ha b hb e => hn ?_⟩
    rw [List.mem_singleton.mp hb] at e
    rw [← e]; exact ha
theorem y_low {l : List Int32} (h : ySide 900 l) (hz : ¬ zhi l = 1) : yRow l := by
  refine ⟨h.1, fun x hx => ?_⟩
  rcases zhi_eq l with ⟨h1, -⟩ | ⟨-, h2⟩
  · exact absurd h1 hz
  · obtain ⟨m, hm, rfl⟩ := h.2 x hx
    refine ⟨m, ?_, rfl⟩
    have := h2 _ hx
    exact (nI_leI (a := m) (b := 4) (by omega) (by omega)).mp this
theorem y_line_good {N N' : zN} {l r : List Int32} {w : Bool} (hN : yGood N) (hl : ySide 900 l) (hr : ySide 900 r) (h : zline N l r w = .inr N') : yGood N' := by
  obtain ⟨g1, g2, g3, g4, g5⟩ := hN
  unfold zline at h
  split at h
  · cases h
  · rename_i z1
    split at h
    · cases h
    · split at h
      · cases h
      · rename_i z3
        have rl := y_low hl (fun q => z1 (Or.inl q))
        have rr := y_low hr (fun q => z1 (Or.inr q))
        have i1 := zpla_ix N.1 l
        have i2 := zpla_ix (zpla N.1 l).1 r
        have l1 := zpla_len N.1 l
        have l2 := zpla_len (zpla N.1 l).1 r
        have b4 : ∀ p ∈ N.2, p.1 < (zpla (zpla N.1 l).1 r).1.length ∧ p.2 < (zpla (zpla N.1 l).1 r).1.length := fun p hp => by
          have := g4 p hp
          omega
        have b5 := y_joi (q := ((zpla N.1 l).2, (zpla (zpla N.1 l).1 r).2)) b4 ⟨by omega, by omega⟩
        have b6 := y_joi (q := ((zpla (zpla N.1 l).1 r).2, (zpla N.1 l).2)) b5 ⟨by omega, by omega⟩
        cases w
        · simp only [Bool.false_eq_true, ↓reduceIte] at h
          split at h
          · cases h
          · rename_i z4
            have e := Sum.inr.inj h
            subst e
            exact ⟨by show (zpla (zpla N.1 l).1 r).1.length ≤ 9; omega, by show (zjoi N.2 _).length ≤ 10; omega, y_pla (y_pla g3 rl) rr, b5, y_joi_nd g5⟩
        · simp only [↓reduceIte] at h
          split at h
          · cases h
          · rename_i z4
            have e := Sum.inr.inj h
            subst e
            exact ⟨by show (zpla (zpla N.1 l).1 r).1.length ≤ 9; omega, by show (zjoi (zjoi N.2 _) _).length ≤ 10; omega, y_pla (y_pla g3 rl) rr, b6, y_joi_nd (y_joi_nd g5)⟩
theorem ySide.set {k m j : Nat} {l : List Int32} {dg : Int32} (h : ySide k l) (hd : ∃ m, m ≤ 9 ∧ dg = nI m) : ySide (k + 9) (l.set j (l.getD j 0 + dg)) := by
  refine ⟨by rw [List.length_set]; exact h.1, fun x hx => ?_⟩
  rcases List.mem_or_eq_of_mem_set hx with q | q
  · obtain ⟨m, hm, e⟩ := h.2 x q
    exact ⟨m, by omega, e⟩
  · obtain ⟨m, hm, rfl⟩ := hd
    by_cases hj : j < l.length
    · have e : l.getD j 0 = l[j] := by
        rw [List.getD_eq_getElem?_getD, List.getElem?_eq_getElem hj]; rfl
      obtain ⟨m2, hm2, e2⟩ := h.2 l[j] (List.getElem_mem hj)
      refine ⟨m2 + m, by omega, ?_⟩
      rw [q, e, e2, nI_add]
    · have e : l.getD j 0 = nI 0 := by
        rw [List.getD_eq_getElem?_getD, List.getElem?_eq_none (by omega)]; rfl
      refine ⟨0 + m, by omega, ?_⟩
      rw [q, e, nI_add]
theorem ySide.mono {k k' : Nat} {l : List Int32} (h : ySide k l) (hk : k ≤ k') : ySide k' l := ⟨h.1, fun x hx => by
  obtain ⟨m, hm, e⟩ := h.2 x hx
  exact ⟨m, by omega, e⟩⟩
def yQg (k : Nat) (q : zq) : Prop := ySide k q.1 ∧ ySide k q.2.1 ∧ ∃ m, m ≤ 9 ∧ q.2.2.1 = nI m
theorem y_q0 (k : Nat) : yQg k zq0 := by
  have h : ySide k (List.replicate 7 0) := ⟨rfl, fun x hx => ⟨0, Nat.zero_le _, (List.mem_replicate.mp hx).2⟩⟩
  exact ⟨h, h, 1, by omega, rfl⟩
theorem y_ts {k : Nat} {c : Int32} {q : zq} (h : yQg k q) : yQg (k + 9) (zTs1 c q.1 q.2.1 q.2.2.1 q.2.2.2) := by
  obtain ⟨h1, h2, h3⟩ := h
  unfold zTs1
  split
  · exact ⟨h1.mono (by omega), h2.mono (by omega), h3⟩
  · split
    · exact ⟨h1.set (m := 0) h3, h2.mono (by omega), 1, by omega, rfl⟩
    · exact ⟨h1.mono (by omega), h2.set (m := 0) h3, 1, by omega, rfl⟩
theorem y_tk {k : Nat} {c : Int32} {q : zq} (h : yQg k q) : yQg (k + 9) (zTk c q.1 q.2.1 q.2.2.1 q.2.2.2) := by
  have h0 := h
  obtain ⟨h1, h2, h3⟩ := h
  unfold zTk
  split
  · exact ⟨h1.mono (by omega), h2.mono (by omega), h3⟩
  · split
    · exact ⟨h1.mono (by omega), h2.mono (by omega), h3⟩
    · split
      · exact y_ts h0
      · split
        · exact y_ts h0
        · rename_i a b
          refine ⟨h1.mono (by omega), h2.mono (by omega), ?_⟩
          obtain ⟨j, hj, rfl⟩ := nI_of2 (x := c) (M := 57) (n := 57) (by decide +kernel) (fun h => a (Int32.lt_trans h (by decide +kernel))) (k2_le b)
          have hj2 : 49 ≤ j := by
            rcases Nat.lt_or_ge j 49 with z | z
            · exact absurd (nI_lt z (by omega)) a
            · exact z
          have key : ∀ j, j ≤ 57 → 49 ≤ j → ∃ m, m ≤ 9 ∧ nI j - 48 = nI m := by
            intro j h1 h2
            refine ⟨j - 48, by omega, ?_⟩
            have : ∀ j, j < 58 → 49 ≤ j → nI j - 48 = nI (j - 48) := by decide +kernel
            exact this j (by omega) h2
          exact key j hj hj2
theorem y_fl_good : ∀ (cs : List Int32) (k : Nat) (N : zN) (q : zq) (N' : zN), k + 9 * cs.length ≤ 900 → yGood N → yQg k q → yfl cs N q = .inr N' → yGood N'
  | [], k, N, q, N', hk, hN, hq, h => by
    simp only [yfl] at h
    split at h
    · rw [← Sum.inr.inj h]; exact hN
    · exact y_line_good hN (hq.1.mono (by omega)) (hq.2.1.mono (by omega)) h
  | c :: cs, k, N, q, N', hk, hN, hq, h => by
    rw [List.length_cons] at hk
    simp only [yfl] at h
    split at h
    · split at h
      · cases h
      · rename_i M hM
        exact y_fl_good cs k M zq0 N' (by omega) (y_line_good hN (hq.1.mono (by omega)) (hq.2.1.mono (by omega)) hM) (y_q0 k) h
    · exact y_fl_good cs (k + 9) N _ N' (by omega) hN (y_tk hq) h
theorem y_read_good {cs : List Int32} {N : zN} (hc : cs.length ≤ 100) (h : yfl cs ([], []) zq0 = .inr N) : yGood N := y_fl_good cs 0 ([], []) zq0 N (by omega) ⟨by simp, by simp, fun _ h => by simp at h, fun _ h => by simp at h, by simp⟩ (y_q0 0) h
/-! Loops that count. -/
theorem y_for {α : Type} {y b : Nat} {Q : Option Value → List zC → Prop} (H : Int32 → α → zS) (I : Nat → α → Prop) (st : ∀ i s, i < b → I i s → (∀ s', I (i + 1) s' → zU y (H (nI i + Int32.ofInt 1) s') Q) → zU y (H (nI i) s) Q) (en : ∀ s, I b s → zU y (H (nI b) s) Q) : ∀ i s, i ≤ b → I i s → zU y (H (nI i) s) Q := by
  have key : ∀ (d i : Nat) (s : α), b - i = d → i ≤ b → I i s → zU y (H (nI i) s) Q := by
    intro d
    induction d with
    | zero =>
      intro i s hd hi h
      have e : i = b := by omega
      subst e
      exact en s h
    | succ d ih =>
      intro i s hd hi h
      refine st i s (by omega) h (fun s' h' => ?_)
      have := ih (i + 1) s' (by omega) (by omega) h'
      rw [show nI (i + 1) = nI i + Int32.ofInt 1 from nI_succ i] at this
      exact this
  exact fun i s hi h => key (b - i) i s rfl hi h
theorem y_lset {α : Type} {l : List α} {f : Nat → α} {i : Nat} (h : ∀ j, j < i → l[j]? = some (f j)) (hi : i < l.length) : ∀ j, j < i + 1 → (l.set i (f i))[j]? = some (f j) := fun j hj => by
  by_cases e : i = j
  · subst e; exact List.getElem?_set_self hi
  · rw [List.getElem?_set_ne e]; exact h j (by omega)
theorem y_get {α : Type} {l : List α} {i : Nat} (h : i < l.length) : ∃ x, l[i]? = some x := ⟨l[i], List.getElem?_eq_getElem h⟩
end YGD

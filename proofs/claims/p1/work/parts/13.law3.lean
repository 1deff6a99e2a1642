/-! The law on a script of at most three ints. -/
theorem z2_c1 : (Int32.ofNat 3 - Int32.ofInt 3) < ((0 : Int32) + Int32.ofInt 3) := by decide +kernel
theorem z2_c2 : ¬ (Int32.ofNat 3 - Int32.ofInt 3) < (0 : Int32) := by decide +kernel
theorem z2_end (a b c : Int32) (σ : List zC) : zR (some [a, b, c]) 128 (498, [some (.ref 0), some (.ref 1), some (.ref 124), some (.int 0)], [], σ, 138, 1998) (some (.int 1), σ, 138, 1998) := by
  refine zRn_n 8 rfl ?_
  exact zR_gt (fun _ => zRn_n 1 rfl (zRn_ret rfl)) (fun h => absurd z2_c1 h)
theorem z2_0 (a b c : Int32) : ∃ σ' : List zC, zR (some [a, b, c]) 128 (128, [some (.ref 0), some (.ref 1), some (.ref 124), some (.int 0)], [], zσ0, 138, 1998) (some (.int 1), σ', 138, 1998) := by
  by_cases h : (b.toUInt32 % 65536).toInt32 < 32 ∨ 126 < (b.toUInt32 % 65536).toInt32
  · exact ⟨_, zRn_n 7 rfl (zRn_call rfl (z1_typeXN _ h) rfl (zRn_n 7 rfl (zRn_call rfl (z1_typeMN _ h) rfl (zRn_n 1 rfl (z2_end a b c _)))))⟩
  · exact ⟨_, zRn_n 7 rfl (zRn_call rfl (z1_typeXY _ (fun q => h (Or.inl q)) (fun q => h (Or.inr q))) rfl (zRn_n 7 rfl (zRn_call rfl (z1_typeMY _ (fun q => h (Or.inl q)) (fun q => h (Or.inr q))) rfl (zRn_n 1 rfl (z2_end a b c _)))))⟩
theorem z2_1 (a b c : Int32) : ∃ σ' : List zC, zR (some [a, b, c]) 128 (153, [some (.ref 0), some (.ref 1), some (.ref 124), some (.int 0)], [], zσ0, 138, 1998) (some (.int 1), σ', 138, 1998) := ⟨_, zRn_n 1 rfl (zRn_call rfl ⟨_, z1_clearX⟩ rfl (zRn_n 1 rfl (zRn_call rfl ⟨_, z1_clearM⟩ rfl (zRn_n 1 rfl (z2_end a b c _)))))⟩
theorem z2_2 (a b c : Int32) : ∃ σ' : List zC, zR (some [a, b, c]) 128 (164, [some (.ref 0), some (.ref 1), some (.ref 124), some (.int 0)], [], zσ0, 138, 1998) (some (.int 1), σ', 138, 1998) := ⟨_, zRn_n 1 rfl (zRn_call rfl ⟨_, z1_readX⟩ rfl (zRn_n 1 rfl (zRn_call rfl z1_readM rfl (zRn_n 1 rfl (z2_end a b c _)))))⟩
theorem z2_3 (a b c : Int32) : ∃ σ' : List zC, zR (some [a, b, c]) 128 (177, [some (.ref 0), some (.ref 1), some (.ref 124), some (.int 0)], [], zσ0, 138, 1998) (some (.int 1), σ', 138, 1998) := ⟨_, zRn_n 1 rfl (zRn_call rfl ⟨_, z1_reacX⟩ rfl (zRn_n 1 rfl (zRn_call rfl ⟨_, z1_reacM⟩ rfl (zRn_n 1 rfl (z2_end a b c _)))))⟩
theorem z2_4 (a b c : Int32) : ∃ σ' : List zC, zR (some [a, b, c]) 128 (190, [some (.ref 0), some (.ref 1), some (.ref 124), some (.int 0)], [], zσ0, 138, 1998) (some (.int 1), σ', 138, 1998) := ⟨_, zRn_n 1 rfl (zRn_call rfl ⟨_, z1_complX⟩ rfl (zRn_n 1 rfl (zRn_call rfl ⟨_, z1_complM⟩ rfl (zRn_n 1 rfl (z2_end a b c _)))))⟩
theorem z2_5 (a b c : Int32) : ∃ σ' : List zC, zR (some [a, b, c]) 128 (203, [some (.ref 0), some (.ref 1), some (.ref 124), some (.int 0)], [], zσ0, 138, 1998) (some (.int 1), σ', 138, 1998) := ⟨_, zRn_n 11 rfl (zRn_call rfl (z1_coefX b c) rfl (zRn_n 11 rfl (zRn_call rfl (z1_coefM b c) rfl (zRn_n 1 rfl (z2_end a b c _)))))⟩
theorem z2_6 (a b c : Int32) : ∃ σ' : List zC, zR (some [a, b, c]) 128 (236, [some (.ref 0), some (.ref 1), some (.ref 124), some (.int 0)], [], zσ0, 138, 1998) (some (.int 1), σ', 138, 1998) := ⟨_, zRn_n 1 rfl (zRn_call rfl ⟨_, z1_occX⟩ rfl (zRn_n 1 rfl (zRn_call rfl ⟨_, z1_occM⟩ rfl (zRn_n 1 rfl (z2_end a b c _)))))⟩
theorem z2_7 (a b c : Int32) : ∃ σ' : List zC, zR (some [a, b, c]) 128 (249, [some (.ref 0), some (.ref 1), some (.ref 124), some (.int 0)], [], zσ0, 138, 1998) (some (.int 1), σ', 138, 1998) := ⟨_, zRn_n 1 rfl (zRn_call rfl ⟨_, z1_linkX⟩ rfl (zRn_n 1 rfl (zRn_call rfl ⟨_, z1_linkM⟩ rfl (zRn_n 1 rfl (z2_end a b c _)))))⟩
theorem z2_8 (a b c : Int32) : ∃ σ' : List zC, zR (some [a, b, c]) 128 (262, [some (.ref 0), some (.ref 1), some (.ref 124), some (.int 0)], [], zσ0, 138, 1998) (some (.int 1), σ', 138, 1998) := ⟨_, zRn_n 6 rfl (zRn_call rfl (z1_classX b) rfl (zRn_n 6 rfl (zRn_call rfl (z1_classM b) rfl (zRn_n 1 rfl (z2_end a b c _)))))⟩
theorem z2_9 (a b c : Int32) : ∃ σ' : List zC, zR (some [a, b, c]) 128 (285, [some (.ref 0), some (.ref 1), some (.ref 124), some (.int 0)], [], zσ0, 138, 1998) (some (.int 1), σ', 138, 1998) := ⟨_, zRn_n 1 rfl (zRn_call rfl ⟨_, z1_strongX⟩ rfl (zRn_n 1 rfl (zRn_call rfl ⟨_, z1_strongM⟩ rfl (zRn_n 1 rfl (z2_end a b c _)))))⟩
theorem z2_10 (a b c : Int32) : ∃ σ' : List zC, zR (some [a, b, c]) 128 (298, [some (.ref 0), some (.ref 1), some (.ref 124), some (.int 0)], [], zσ0, 138, 1998) (some (.int 1), σ', 138, 1998) := ⟨_, zRn_n 6 rfl (zRn_call rfl (z1_termX b) rfl (zRn_n 6 rfl (zRn_call rfl (z1_termM b) rfl (zRn_n 1 rfl (z2_end a b c _)))))⟩
theorem z2_11 (a b c : Int32) : ∃ σ' : List zC, zR (some [a, b, c]) 128 (321, [some (.ref 0), some (.ref 1), some (.ref 124), some (.int 0)], [], zσ0, 138, 1998) (some (.int 1), σ', 138, 1998) := ⟨_, zRn_n 1 rfl (zRn_call rfl ⟨_, z1_rankX⟩ rfl (zRn_n 1 rfl (zRn_call rfl ⟨_, z1_rankM⟩ rfl (zRn_n 1 rfl (z2_end a b c _)))))⟩
theorem z2_12 (a b c : Int32) : ∃ σ' : List zC, zR (some [a, b, c]) 128 (334, [some (.ref 0), some (.ref 1), some (.ref 124), some (.int 0)], [], zσ0, 138, 1998) (some (.int 1), σ', 138, 1998) := by
  by_cases h : b = -1
  · exact ⟨_, zRn_n 6 rfl (zRn_call rfl (z1_defX b h) rfl (zRn_n 6 rfl (zRn_call rfl (z1_defM b h) rfl (zRn_n 1 rfl (z2_end a b c _)))))⟩
  · exact ⟨_, zRn_n 6 rfl (zRn_call rfl (z1_defX2 b h) rfl (zRn_n 6 rfl (zRn_call rfl (z1_defM2 b h) rfl (zRn_n 1 rfl (z2_end a b c _)))))⟩
theorem z2_13 (a b c : Int32) : ∃ σ' : List zC, zR (some [a, b, c]) 128 (357, [some (.ref 0), some (.ref 1), some (.ref 124), some (.int 0)], [], zσ0, 138, 1998) (some (.int 1), σ', 138, 1998) := ⟨_, zRn_n 1 rfl (zRn_call rfl ⟨_, z1_nsiphX⟩ rfl (zRn_n 1 rfl (zRn_call rfl ⟨_, z1_nsiphM⟩ rfl (zRn_n 1 rfl (z2_end a b c _)))))⟩
theorem z2_14 (a b c : Int32) : ∃ σ' : List zC, zR (some [a, b, c]) 128 (370, [some (.ref 0), some (.ref 1), some (.ref 124), some (.int 0)], [], zσ0, 138, 1998) (some (.int 1), σ', 138, 1998) := ⟨_, zRn_n 6 rfl (zRn_call rfl (z1_siphX b) rfl (zRn_n 6 rfl (zRn_call rfl (z1_siphM b) rfl (zRn_n 1 rfl (z2_end a b c _)))))⟩
theorem z2_15 (a b c : Int32) : ∃ σ' : List zC, zR (some [a, b, c]) 128 (393, [some (.ref 0), some (.ref 1), some (.ref 124), some (.int 0)], [], zσ0, 138, 1998) (some (.int 1), σ', 138, 1998) := ⟨_, zRn_n 6 rfl (zRn_call rfl (z1_consX b) rfl (zRn_n 6 rfl (zRn_call rfl (z1_consM b) rfl (zRn_n 1 rfl (z2_end a b c _)))))⟩
theorem z2_16 (a b c : Int32) : ∃ σ' : List zC, zR (some [a, b, c]) 128 (416, [some (.ref 0), some (.ref 1), some (.ref 124), some (.int 0)], [], zσ0, 138, 1998) (some (.int 1), σ', 138, 1998) := ⟨_, zRn_n 1 rfl (zRn_call rfl ⟨_, z1_sumsX⟩ rfl (zRn_n 1 rfl (zRn_call rfl ⟨_, z1_sumsM⟩ rfl (zRn_n 1 rfl (z2_end a b c _)))))⟩
theorem z2_17 (a b c : Int32) : ∃ σ' : List zC, zR (some [a, b, c]) 128 (429, [some (.ref 0), some (.ref 1), some (.ref 124), some (.int 0)], [], zσ0, 138, 1998) (some (.int 1), σ', 138, 1998) := ⟨_, zRn_n 6 rfl (zRn_call rfl (z1_suppX b) rfl (zRn_n 6 rfl (zRn_call rfl (z1_suppM b) rfl (zRn_n 1 rfl (z2_end a b c _)))))⟩
theorem z2_18 (a b c : Int32) : ∃ σ' : List zC, zR (some [a, b, c]) 128 (452, [some (.ref 0), some (.ref 1), some (.ref 124), some (.int 0)], [], zσ0, 138, 1998) (some (.int 1), σ', 138, 1998) := ⟨_, zRn_n 11 rfl (zRn_call rfl (z1_weigX b c) rfl (zRn_n 11 rfl (zRn_call rfl (z1_weigM b c) rfl (zRn_n 1 rfl (z2_end a b c _)))))⟩
theorem z2_19 (a b c : Int32) : ∃ σ' : List zC, zR (some [a, b, c]) 128 (485, [some (.ref 0), some (.ref 1), some (.ref 124), some (.int 0)], [], zσ0, 138, 1998) (some (.int 1), σ', 138, 1998) := ⟨_, zRn_n 1 rfl (zRn_call rfl ⟨_, z1_flagsX⟩ rfl (zRn_n 1 rfl (zRn_call rfl ⟨_, z1_flagsM⟩ rfl (zRn_n 1 rfl (z2_end a b c _)))))⟩
theorem z2_off (a b c : Int32) : ∃ σ' : List zC, zR (some [a, b, c]) 128 (498, [some (.ref 0), some (.ref 1), some (.ref 124), some (.int 0)], [], zσ0, 138, 1998) (some (.int 1), σ', 138, 1998) := ⟨_, z2_end a b c _⟩
theorem z2_sw (a b c : Int32) (j : Nat) (hj : j < 32) (t : Nat) (h : zsw (nI j).toInt 0 19 466 #[96, 121, 132, 145, 158, 171, 204, 217, 230, 253, 266, 289, 302, 325, 338, 361, 384, 397, 420, 453] = some (t : Int)) (x : Int32) (hx : x = nI j) (k : ∃ σ' : List zC, zR (some [a, b, c]) 128 (32 + t, [some (.ref 0), some (.ref 1), some (.ref 124), some (.int 0)], [], zσ0, 138, 1998) (some (.int 1), σ', 138, 1998)) : ∃ σ' : List zC, zR (some [a, b, c]) 128 (32, [some (.ref 0), some (.ref 1), some (.ref 124), some (.int 0)], [.int x], zσ0, 138, 1998) (some (.int 1), σ', 138, 1998) := by
  subst hx
  obtain ⟨σ', k⟩ := k
  refine ⟨σ', zRn_1 ?_ k⟩
  show (zsw (nI j).toInt 0 19 466 #[96, 121, 132, 145, 158, 171, 204, 217, 230, 253, 266, 289, 302, 325, 338, 361, 384, 397, 420, 453]).bind (fun off => (zjmp 32 off).bind fun t => some ((t, [some (.ref 0), some (.ref 1), some (.ref 124), some (.int 0)], [], zσ0, 138, 1998) : zS)) = some (32 + t, [some (.ref 0), some (.ref 1), some (.ref 124), some (.int 0)], [], zσ0, 138, 1998)
  rw [h]
  rfl
theorem z2_31 : (Int8.ofInt 31).toInt32 = 31 := by decide +kernel
theorem z2_three (a b c : Int32) : ∃ σ' : List zC, zR (some [a, b, c]) 128 (18, [some (.ref 0), some (.ref 1), some (.ref 124), some (.int 0)], [], zσ0, 138, 1998) (some (.int 1), σ', 138, 1998) := by
  obtain ⟨j, hj, hx⟩ := pk_andE a (m := 31) 5 (by decide +kernel)
  have key : ∃ σ' : List zC, zR (some [a, b, c]) 128 (32, [some (.ref 0), some (.ref 1), some (.ref 124), some (.int 0)], [.int (a &&& 31)], zσ0, 138, 1998) (some (.int 1), σ', 138, 1998) := by
    match j, hj, hx with
    | 0, hj, hx => exact z2_sw a b c 0 hj 96 (by decide +kernel) _ hx (z2_0 a b c)
    | 1, hj, hx => exact z2_sw a b c 1 hj 121 (by decide +kernel) _ hx (z2_1 a b c)
    | 2, hj, hx => exact z2_sw a b c 2 hj 132 (by decide +kernel) _ hx (z2_2 a b c)
    | 3, hj, hx => exact z2_sw a b c 3 hj 145 (by decide +kernel) _ hx (z2_3 a b c)
    | 4, hj, hx => exact z2_sw a b c 4 hj 158 (by decide +kernel) _ hx (z2_4 a b c)
    | 5, hj, hx => exact z2_sw a b c 5 hj 171 (by decide +kernel) _ hx (z2_5 a b c)
    | 6, hj, hx => exact z2_sw a b c 6 hj 204 (by decide +kernel) _ hx (z2_6 a b c)
    | 7, hj, hx => exact z2_sw a b c 7 hj 217 (by decide +kernel) _ hx (z2_7 a b c)
    | 8, hj, hx => exact z2_sw a b c 8 hj 230 (by decide +kernel) _ hx (z2_8 a b c)
    | 9, hj, hx => exact z2_sw a b c 9 hj 253 (by decide +kernel) _ hx (z2_9 a b c)
    | 10, hj, hx => exact z2_sw a b c 10 hj 266 (by decide +kernel) _ hx (z2_10 a b c)
    | 11, hj, hx => exact z2_sw a b c 11 hj 289 (by decide +kernel) _ hx (z2_11 a b c)
    | 12, hj, hx => exact z2_sw a b c 12 hj 302 (by decide +kernel) _ hx (z2_12 a b c)
    | 13, hj, hx => exact z2_sw a b c 13 hj 325 (by decide +kernel) _ hx (z2_13 a b c)
    | 14, hj, hx => exact z2_sw a b c 14 hj 338 (by decide +kernel) _ hx (z2_14 a b c)
    | 15, hj, hx => exact z2_sw a b c 15 hj 361 (by decide +kernel) _ hx (z2_15 a b c)
    | 16, hj, hx => exact z2_sw a b c 16 hj 384 (by decide +kernel) _ hx (z2_16 a b c)
    | 17, hj, hx => exact z2_sw a b c 17 hj 397 (by decide +kernel) _ hx (z2_17 a b c)
    | 18, hj, hx => exact z2_sw a b c 18 hj 420 (by decide +kernel) _ hx (z2_18 a b c)
    | 19, hj, hx => exact z2_sw a b c 19 hj 453 (by decide +kernel) _ hx (z2_19 a b c)
    | 20, hj, hx => exact z2_sw a b c 20 hj 466 (by decide +kernel) _ hx (z2_off a b c)
    | 21, hj, hx => exact z2_sw a b c 21 hj 466 (by decide +kernel) _ hx (z2_off a b c)
    | 22, hj, hx => exact z2_sw a b c 22 hj 466 (by decide +kernel) _ hx (z2_off a b c)
    | 23, hj, hx => exact z2_sw a b c 23 hj 466 (by decide +kernel) _ hx (z2_off a b c)
    | 24, hj, hx => exact z2_sw a b c 24 hj 466 (by decide +kernel) _ hx (z2_off a b c)
    | 25, hj, hx => exact z2_sw a b c 25 hj 466 (by decide +kernel) _ hx (z2_off a b c)
    | 26, hj, hx => exact z2_sw a b c 26 hj 466 (by decide +kernel) _ hx (z2_off a b c)
    | 27, hj, hx => exact z2_sw a b c 27 hj 466 (by decide +kernel) _ hx (z2_off a b c)
    | 28, hj, hx => exact z2_sw a b c 28 hj 466 (by decide +kernel) _ hx (z2_off a b c)
    | 29, hj, hx => exact z2_sw a b c 29 hj 466 (by decide +kernel) _ hx (z2_off a b c)
    | 30, hj, hx => exact z2_sw a b c 30 hj 466 (by decide +kernel) _ hx (z2_off a b c)
    | 31, hj, hx => exact z2_sw a b c 31 hj 466 (by decide +kernel) _ hx (z2_off a b c)
    | j + 32, hj, hx => exact absurd hj (by omega)
  obtain ⟨σ', k⟩ := key
  refine ⟨σ', ?_⟩
  refine zRn_n 6 rfl ?_
  refine zR_gt (fun h => absurd h z2_c2) (fun _ => ?_)
  refine zRn_n 5 (a' := (32, [some (.ref 0), some (.ref 1), some (.ref 124), some (.int 0)], [.int (a &&& (Int8.ofInt 31).toInt32)], zσ0, 138, 1998)) rfl ?_
  rw [z2_31]
  exact k
theorem z_law (xs : List Int32) (h : xs.length ≤ 3) : ∃ (σ' : List zC) (nc ns : Nat), nc ≤ 600000 ∧ ns ≤ 7302250 ∧ zR (some xs) 128 (0, zent [.ref 0] 4, [], [], 0, 0) (some (.int 1), σ', nc, ns) := by
  have out : ∀ ys : List Int32, zR (some ys) 128 (18, [some (.ref 0), some (.ref 1), some (.ref 124), some (.int 0)], [], zσ0, 138, 1998) (some (.int 1), zσ0, 138, 1998) → ∃ (σ' : List zC) (nc ns : Nat), nc ≤ 600000 ∧ ns ≤ 7302250 ∧ zR (some ys) 128 (0, zent [.ref 0] 4, [], [], 0, 0) (some (.int 1), σ', nc, ns) := fun ys k => ⟨_, _, _, by decide, by decide, z0_start (some ys) k⟩
  match xs, h with
  | [], _ => exact out [] (zRn_n 7 rfl (zRn_ret rfl))
  | [a], _ => exact out [a] (zRn_n 7 rfl (zRn_ret rfl))
  | [a, b], _ => exact out [a, b] (zRn_n 7 rfl (zRn_ret rfl))
  | [a, b, c], _ =>
    obtain ⟨σ', k⟩ := z2_three a b c
    exact ⟨σ', _, _, by decide, by decide, z0_start _ k⟩
  | _ :: _ :: _ :: _ :: _, h => exact absurd h (by simp only [List.length_cons]; omega)

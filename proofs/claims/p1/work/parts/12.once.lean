/-! Each call once, on a fresh object. -/
theorem z1_hasN (x : Int32) : zR none 88 (0, zent [.ref 96, .int x] 2, [], zσ0, 0, 0) (some (.int 0), zσ0, 0, 0) := by
  refine zRn_n 2 rfl ?_
  refine zR_lt (fun h => zRn_n 1 rfl (zRn_ret rfl)) (fun h => ?_)
  refine zRn_n 4 rfl ?_
  exact zR_ge (fun h2 => zRn_n 1 rfl (zRn_ret rfl)) (fun h2 => absurd (k2_le h) h2)
theorem z1_isC (x : Int32) : zR none 90 (0, zent [.ref 124, .int x] 2, [], zσ0, 0, 0) (some (.int 0), zσ0, 0, 0) := by
  refine zRn_n 2 rfl ?_
  refine zR_lt (fun h => zRn_n 1 rfl (zRn_ret rfl)) (fun h => ?_)
  refine zRn_n 4 rfl ?_
  exact zR_ge (fun h2 => zRn_n 1 rfl (zRn_ret rfl)) (fun h2 => absurd (k2_le h) h2)
theorem z1_hasS (x : Int32) : zR none 108 (0, zent [.ref 42, .int x] 2, [], zσ0, 0, 0) (some (.int 0), zσ0, 0, 0) := by
  refine zRn_n 2 rfl ?_
  refine zR_lt (fun h => zRn_n 1 rfl (zRn_ret rfl)) (fun h => ?_)
  refine zRn_n 4 rfl ?_
  exact zR_ge (fun h2 => zRn_n 1 rfl (zRn_ret rfl)) (fun h2 => absurd (k2_le h) h2)
theorem z1_hasU (x : Int32) : zR none 108 (0, zent [.ref 45, .int x] 2, [], zσ0, 0, 0) (some (.int 0), zσ0, 0, 0) := by
  refine zRn_n 2 rfl ?_
  refine zR_lt (fun h => zRn_n 1 rfl (zRn_ret rfl)) (fun h => ?_)
  refine zRn_n 4 rfl ?_
  exact zR_ge (fun h2 => zRn_n 1 rfl (zRn_ret rfl)) (fun h2 => absurd (k2_le h) h2)
theorem z1_atS (x : Int32) : zR none 109 (0, zent [.ref 42, .int x] 2, [], zσ0, 0, 0) (some (.int 0), zσ0, 0, 0) := by
  refine zRn_n 2 rfl ?_
  refine zRn_call rfl (z1_hasS x) rfl ?_
  exact zRn_n 2 rfl (zRn_ret rfl)
theorem z1_atU (x : Int32) : zR none 109 (0, zent [.ref 45, .int x] 2, [], zσ0, 0, 0) (some (.int 0), zσ0, 0, 0) := by
  refine zRn_n 2 rfl ?_
  refine zRn_call rfl (z1_hasU x) rfl ?_
  exact zRn_n 2 rfl (zRn_ret rfl)
theorem z1_coefX (x w : Int32) : zR none 89 (0, zent [.ref 1, .int x, .int w] 3, [], zσ0, 0, 0) (some (.int (-1)), zσ0, 0, 0) := by
  refine zRn_n 3 rfl ?_
  refine zRn_call rfl (z1_hasN x) rfl ?_
  exact zRn_n 2 rfl (zRn_ret rfl)
theorem z1_coefM (x w : Int32) : zR none 91 (0, zent [.ref 124, .int x, .int w] 3, [], zσ0, 0, 0) (some (.int (-1)), zσ0, 0, 0) := by
  refine zRn_n 2 rfl ?_
  refine zRn_call rfl (z1_isC x) rfl ?_
  exact zRn_n 2 rfl (zRn_ret rfl)
theorem z1_classX (x : Int32) : zR none 95 (0, zent [.ref 1, .int x] 2, [], zσ0, 0, 0) (some (.int (-1)), zσ0, 0, 0) := by
  refine zRn_n 3 rfl ?_
  refine zRn_call rfl (z1_hasN x) rfl ?_
  exact zRn_n 2 rfl (zRn_ret rfl)
theorem z1_classM (x : Int32) : zR none 96 (0, zent [.ref 124, .int x] 4, [], zσ0, 0, 0) (some (.int (-1)), zσ0, 0, 0) := by
  refine zRn_n 2 rfl ?_
  refine zRn_call rfl (z1_isC x) rfl ?_
  exact zRn_n 2 rfl (zRn_ret rfl)
theorem z1_termX (x : Int32) : zR none 100 (0, zent [.ref 1, .int x] 2, [], zσ0, 0, 0) (some (.int 0), zσ0, 0, 0) := by
  refine zRn_n 3 rfl ?_
  refine zRn_call rfl (z1_hasN x) rfl ?_
  exact zRn_n 2 rfl (zRn_ret rfl)
theorem z1_termM (x : Int32) : zR none 101 (0, zent [.ref 124, .int x] 3, [], zσ0, 0, 0) (some (.int 0), zσ0, 0, 0) := by
  refine zRn_n 2 rfl ?_
  refine zRn_call rfl (z1_isC x) rfl ?_
  exact zRn_n 2 rfl (zRn_ret rfl)
theorem z1_siphX (x : Int32) : zR none 110 (0, zent [.ref 1, .int x] 2, [], zσ0, 0, 0) (some (.int 0), zσ0, 0, 0) := by
  refine zRn_n 3 rfl ?_
  refine zRn_call rfl (z1_atS x) rfl ?_
  exact zRn_ret rfl
theorem z1_consX (x : Int32) : zR none 112 (0, zent [.ref 1, .int x] 2, [], zσ0, 0, 0) (some (.int 0), zσ0, 0, 0) := by
  refine zRn_n 3 rfl ?_
  refine zRn_call rfl (z1_hasS x) rfl ?_
  exact zRn_n 2 rfl (zRn_ret rfl)
theorem z1_suppX (x : Int32) : zR none 116 (0, zent [.ref 1, .int x] 2, [], zσ0, 0, 0) (some (.int 0), zσ0, 0, 0) := by
  refine zRn_n 4 rfl ?_
  refine zRn_call rfl (z1_atU x) rfl ?_
  exact zRn_ret rfl
theorem z1_weigX (x w : Int32) : zR none 118 (0, zent [.ref 1, .int x, .int w] 3, [], zσ0, 0, 0) (some (.int (-1)), zσ0, 0, 0) := by
  refine zRn_n 4 rfl ?_
  refine zRn_call rfl (z1_hasU x) rfl ?_
  exact zRn_n 2 rfl (zRn_ret rfl)
theorem z1_siphM (x : Int32) : zR none 111 (0, zent [.ref 124, .int x] 2, [], zσ0, 0, 0) (some (.int 0), zσ0, 0, 0) := by
  refine zRn_n 2 rfl ?_
  refine zR_lt (fun h => zRn_n 1 rfl (zRn_ret rfl)) (fun h => ?_)
  refine zRn_n 4 rfl ?_
  exact zR_ge (fun h2 => zRn_n 1 rfl (zRn_ret rfl)) (fun h2 => absurd (k2_le h) h2)
theorem z1_suppM (x : Int32) : zR none 117 (0, zent [.ref 124, .int x] 2, [], zσ0, 0, 0) (some (.int 0), zσ0, 0, 0) := by
  refine zRn_n 2 rfl ?_
  refine zR_lt (fun h => zRn_n 1 rfl (zRn_ret rfl)) (fun h => ?_)
  refine zRn_n 4 rfl ?_
  exact zR_ge (fun h2 => zRn_n 1 rfl (zRn_ret rfl)) (fun h2 => absurd (k2_le h) h2)
theorem z1_weigM (x w : Int32) : zR none 119 (0, zent [.ref 124, .int x, .int w] 3, [], zσ0, 0, 0) (some (.int (-1)), zσ0, 0, 0) := by
  refine zRn_n 2 rfl ?_
  refine zR_lt (fun h => zRn_n 1 rfl (zRn_ret rfl)) (fun h => ?_)
  refine zRn_n 4 rfl ?_
  exact zR_ge (fun h2 => zRn_n 1 rfl (zRn_ret rfl)) (fun h2 => absurd (k2_le h) h2)
theorem z1_consM (x : Int32) : zR none 113 (0, zent [.ref 124, .int x] 4, [], zσ0, 0, 0) (some (.int 0), zσ0, 0, 0) := by
  exact zRn_n 9 rfl (zRn_ret rfl)
set_option maxRecDepth 100000 in
theorem z1_clearX : zrun zP zFT zCD 60000 none 14 (0, zent [.ref 1] 1, [], zσ0, 0, 0) = some (none, zσ0, 0, 0) := zeqo_eq (by decide +kernel)
set_option maxRecDepth 100000 in
theorem z1_clearM : zrun zP zFT zCD 60000 none 15 (0, zent [.ref 124] 1, [], zσ0, 0, 0) = some (none, zσ0, 0, 0) := zeqo_eq (by decide +kernel)
def zσ_readX : List zC := [.inl (0, [.ref 2, .ref 4, .ref 5, .ref 8, .ref 14, .ref 42, .ref 44, .ref 110, .ref 96]),
  .inl (1, [.ref 3, .int 0]),
  .inr (.inl (.char, List.replicate 100 0)),
  .inl (2, [.int 0, .int 0, .int 0]),
  .inl (3, [.ref 6, .ref 7, .int 1, .int 32]),
  .inr (.inl (.int, List.replicate 7 0)),
  .inr (.inl (.int, List.replicate 7 0)),
  .inl (5, [.ref 9, .ref 10, .ref 11, .ref 12, .ref 13, .int 0, .int 0]),
  .inr (.inl (.int, List.replicate 9 0)),
  .inr (.inl (.int, List.replicate 9 0)),
  .inr (.inl (.int, List.replicate 9 0)),
  .inr (.inl (.int, List.replicate 9 0)),
  .inr (.inl (.int, List.replicate 9 0)),
  .inl (6, [.ref 15, .ref 28, .ref 41, .int 0]),
  .inl (7, [.ref 16, .ref 27, .int 0]),
  .inr (.inr (.inr (.long, [17, 18, 19, 20, 21, 22, 23, 24, 25, 26]))),
  .inr (.inr (.inl (List.replicate 7 0))),
  .inr (.inr (.inl (List.replicate 7 0))),
  .inr (.inr (.inl (List.replicate 7 0))),
  .inr (.inr (.inl (List.replicate 7 0))),
  .inr (.inr (.inl (List.replicate 7 0))),
  .inr (.inr (.inl (List.replicate 7 0))),
  .inr (.inr (.inl (List.replicate 7 0))),
  .inr (.inr (.inl (List.replicate 7 0))),
  .inr (.inr (.inl (List.replicate 7 0))),
  .inr (.inr (.inl (List.replicate 7 0))),
  .inr (.inl (.int, List.replicate 7 (-1))),
  .inl (7, [.ref 29, .ref 40, .int 0]),
  .inr (.inr (.inr (.long, [30, 31, 32, 33, 34, 35, 36, 37, 38, 39]))),
  .inr (.inr (.inl (List.replicate 7 0))),
  .inr (.inr (.inl (List.replicate 7 0))),
  .inr (.inr (.inl (List.replicate 7 0))),
  .inr (.inr (.inl (List.replicate 7 0))),
  .inr (.inr (.inl (List.replicate 7 0))),
  .inr (.inr (.inl (List.replicate 7 0))),
  .inr (.inr (.inl (List.replicate 7 0))),
  .inr (.inr (.inl (List.replicate 7 0))),
  .inr (.inr (.inl (List.replicate 7 0))),
  .inr (.inr (.inl (List.replicate 7 0))),
  .inr (.inl (.int, List.replicate 7 0)),
  .inr (.inl (.int, List.replicate 9 0)),
  .inl (8, [.ref 43, .int 0]),
  .inr (.inl (.int, List.replicate 35 0)),
  .inl (9, [.ref 45, .ref 47, .ref 83]),
  .inl (8, [.ref 46, .int 0]),
  .inr (.inl (.int, List.replicate 35 0)),
  .inr (.inr (.inr (.int, [48, 49, 50, 51, 52, 53, 54, 55, 56, 57, 58, 59, 60, 61, 62, 63, 64, 65, 66, 67, 68, 69, 70, 71, 72, 73, 74, 75, 76, 77, 78, 79, 80, 81, 82]))),
  .inr (.inl (.int, List.replicate 7 0)),
  .inr (.inl (.int, List.replicate 7 0)),
  .inr (.inl (.int, List.replicate 7 0)),
  .inr (.inl (.int, List.replicate 7 0)),
  .inr (.inl (.int, List.replicate 7 0)),
  .inr (.inl (.int, List.replicate 7 0)),
  .inr (.inl (.int, List.replicate 7 0)),
  .inr (.inl (.int, List.replicate 7 0)),
  .inr (.inl (.int, List.replicate 7 0)),
  .inr (.inl (.int, List.replicate 7 0)),
  .inr (.inl (.int, List.replicate 7 0)),
  .inr (.inl (.int, List.replicate 7 0)),
  .inr (.inl (.int, List.replicate 7 0)),
  .inr (.inl (.int, List.replicate 7 0)),
  .inr (.inl (.int, List.replicate 7 0)),
  .inr (.inl (.int, List.replicate 7 0)),
  .inr (.inl (.int, List.replicate 7 0)),
  .inr (.inl (.int, List.replicate 7 0)),
  .inr (.inl (.int, List.replicate 7 0)),
  .inr (.inl (.int, List.replicate 7 0)),
  .inr (.inl (.int, List.replicate 7 0)),
  .inr (.inl (.int, List.replicate 7 0)),
  .inr (.inl (.int, List.replicate 7 0)),
  .inr (.inl (.int, List.replicate 7 0)),
  .inr (.inl (.int, List.replicate 7 0)),
  .inr (.inl (.int, List.replicate 7 0)),
  .inr (.inl (.int, List.replicate 7 0)),
  .inr (.inl (.int, List.replicate 7 0)),
  .inr (.inl (.int, List.replicate 7 0)),
  .inr (.inl (.int, List.replicate 7 0)),
  .inr (.inl (.int, List.replicate 7 0)),
  .inr (.inl (.int, List.replicate 7 0)),
  .inr (.inl (.int, List.replicate 7 0)),
  .inr (.inl (.int, List.replicate 7 0)),
  .inr (.inl (.int, List.replicate 7 0)),
  .inl (7, [.ref 84, .ref 95, .int 0]),
  .inr (.inr (.inr (.long, [85, 86, 87, 88, 89, 90, 91, 92, 93, 94]))),
  .inr (.inr (.inl (List.replicate 7 0))),
  .inr (.inr (.inl (List.replicate 7 0))),
  .inr (.inr (.inl (List.replicate 7 0))),
  .inr (.inr (.inl (List.replicate 7 0))),
  .inr (.inr (.inl (List.replicate 7 0))),
  .inr (.inr (.inl (List.replicate 7 0))),
  .inr (.inr (.inl (List.replicate 7 0))),
  .inr (.inr (.inl (List.replicate 7 0))),
  .inr (.inr (.inl (List.replicate 7 0))),
  .inr (.inr (.inl (List.replicate 7 0))),
  .inr (.inl (.int, List.replicate 7 0)),
  .inl (4, [.ref 97, .ref 107, .ref 108, .ref 109, .int 0, .int 0]),
  .inr (.inr (.inr (.int, [98, 99, 100, 101, 102, 103, 104, 105, 106]))),
  .inr (.inl (.int, List.replicate 7 0)),
  .inr (.inl (.int, List.replicate 7 0)),
  .inr (.inl (.int, List.replicate 7 0)),
  .inr (.inl (.int, List.replicate 7 0)),
  .inr (.inl (.int, List.replicate 7 0)),
  .inr (.inl (.int, List.replicate 7 0)),
  .inr (.inl (.int, List.replicate 7 0)),
  .inr (.inl (.int, List.replicate 7 0)),
  .inr (.inl (.int, List.replicate 7 0)),
  .inr (.inl (.int, List.replicate 9 0)),
  .inr (.inl (.int, List.replicate 10 0)),
  .inr (.inl (.int, List.replicate 10 0)),
  .inl (4, [.ref 111, .ref 121, .ref 122, .ref 123, .int 0, .int 0]),
  .inr (.inr (.inr (.int, [112, 113, 114, 115, 116, 117, 118, 119, 120]))),
  .inr (.inl (.int, List.replicate 7 0)),
  .inr (.inl (.int, List.replicate 7 0)),
  .inr (.inl (.int, List.replicate 7 0)),
  .inr (.inl (.int, List.replicate 7 0)),
  .inr (.inl (.int, List.replicate 7 0)),
  .inr (.inl (.int, List.replicate 7 0)),
  .inr (.inl (.int, List.replicate 7 0)),
  .inr (.inl (.int, List.replicate 7 0)),
  .inr (.inl (.int, List.replicate 7 0)),
  .inr (.inl (.int, List.replicate 9 0)),
  .inr (.inl (.int, List.replicate 10 0)),
  .inr (.inl (.int, List.replicate 10 0)),
  .inl (10, [.ref 125, .int 0, .int 0, .ref 126, .ref 127, .int 0, .ref 128, .ref 129, .int 0, .int 0, .ref 130, .ref 131, .ref 132, .ref 133, .int 0, .ref 134, .int 0, .ref 135, .ref 136, .int 0, .ref 137, .ref 138]),
  .inr (.inl (.char, List.replicate 100 0)),
  .inr (.inl (.int, List.replicate 77 0)),
  .inr (.inl (.boolean, List.replicate 121 0)),
  .inr (.inl (.int, List.replicate 7 0)),
  .inr (.inl (.int, List.replicate 7 0)),
  .inr (.inl (.int, List.replicate 63 0)),
  .inr (.inl (.boolean, List.replicate 81 0)),
  .inr (.inl (.boolean, List.replicate 81 0)),
  .inr (.inl (.int, List.replicate 9 0)),
  .inr (.inl (.int, List.replicate 35 0)),
  .inr (.inl (.int, List.replicate 35 0)),
  .inr (.inl (.int, List.replicate 245 0)),
  .inr (.inr (.inl (List.replicate 70 0))),
  .inr (.inl (.int, List.replicate 7 0))]
set_option maxRecDepth 100000 in
theorem z1_readX : zrun zP zFT zCD 60000 none 63 (0, zent [.ref 1] 4, [], zσ0, 0, 0) = some (some (.int 0), zσ_readX, 0, 0) := zeqo_eq (by decide +kernel)
def zσ_take0 : List zC := [.inl (0, [.ref 2, .ref 4, .ref 5, .ref 8, .ref 14, .ref 42, .ref 44, .ref 110, .ref 96]),
  .inl (1, [.ref 3, .int 0]),
  .inr (.inl (.char, List.replicate 100 0)),
  .inl (2, [.int 0, .int 0, .int 0]),
  .inl (3, [.ref 6, .ref 7, .int 1, .int 32]),
  .inr (.inl (.int, List.replicate 7 0)),
  .inr (.inl (.int, List.replicate 7 0)),
  .inl (5, [.ref 9, .ref 10, .ref 11, .ref 12, .ref 13, .int 0, .int 0]),
  .inr (.inl (.int, List.replicate 9 0)),
  .inr (.inl (.int, List.replicate 9 0)),
  .inr (.inl (.int, List.replicate 9 0)),
  .inr (.inl (.int, List.replicate 9 0)),
  .inr (.inl (.int, List.replicate 9 0)),
  .inl (6, [.ref 15, .ref 28, .ref 41, .int 0]),
  .inl (7, [.ref 16, .ref 27, .int 0]),
  .inr (.inr (.inr (.long, [17, 18, 19, 20, 21, 22, 23, 24, 25, 26]))),
  .inr (.inr (.inl (List.replicate 7 0))),
  .inr (.inr (.inl (List.replicate 7 0))),
  .inr (.inr (.inl (List.replicate 7 0))),
  .inr (.inr (.inl (List.replicate 7 0))),
  .inr (.inr (.inl (List.replicate 7 0))),
  .inr (.inr (.inl (List.replicate 7 0))),
  .inr (.inr (.inl (List.replicate 7 0))),
  .inr (.inr (.inl (List.replicate 7 0))),
  .inr (.inr (.inl (List.replicate 7 0))),
  .inr (.inr (.inl (List.replicate 7 0))),
  .inr (.inl (.int, List.replicate 7 (-1))),
  .inl (7, [.ref 29, .ref 40, .int 0]),
  .inr (.inr (.inr (.long, [30, 31, 32, 33, 34, 35, 36, 37, 38, 39]))),
  .inr (.inr (.inl (List.replicate 7 0))),
  .inr (.inr (.inl (List.replicate 7 0))),
  .inr (.inr (.inl (List.replicate 7 0))),
  .inr (.inr (.inl (List.replicate 7 0))),
  .inr (.inr (.inl (List.replicate 7 0))),
  .inr (.inr (.inl (List.replicate 7 0))),
  .inr (.inr (.inl (List.replicate 7 0))),
  .inr (.inr (.inl (List.replicate 7 0))),
  .inr (.inr (.inl (List.replicate 7 0))),
  .inr (.inr (.inl (List.replicate 7 0))),
  .inr (.inl (.int, List.replicate 7 0)),
  .inr (.inl (.int, List.replicate 9 0)),
  .inl (8, [.ref 43, .int 0]),
  .inr (.inl (.int, List.replicate 35 0)),
  .inl (9, [.ref 45, .ref 47, .ref 83]),
  .inl (8, [.ref 46, .int 0]),
  .inr (.inl (.int, List.replicate 35 0)),
  .inr (.inr (.inr (.int, [48, 49, 50, 51, 52, 53, 54, 55, 56, 57, 58, 59, 60, 61, 62, 63, 64, 65, 66, 67, 68, 69, 70, 71, 72, 73, 74, 75, 76, 77, 78, 79, 80, 81, 82]))),
  .inr (.inl (.int, List.replicate 7 0)),
  .inr (.inl (.int, List.replicate 7 0)),
  .inr (.inl (.int, List.replicate 7 0)),
  .inr (.inl (.int, List.replicate 7 0)),
  .inr (.inl (.int, List.replicate 7 0)),
  .inr (.inl (.int, List.replicate 7 0)),
  .inr (.inl (.int, List.replicate 7 0)),
  .inr (.inl (.int, List.replicate 7 0)),
  .inr (.inl (.int, List.replicate 7 0)),
  .inr (.inl (.int, List.replicate 7 0)),
  .inr (.inl (.int, List.replicate 7 0)),
  .inr (.inl (.int, List.replicate 7 0)),
  .inr (.inl (.int, List.replicate 7 0)),
  .inr (.inl (.int, List.replicate 7 0)),
  .inr (.inl (.int, List.replicate 7 0)),
  .inr (.inl (.int, List.replicate 7 0)),
  .inr (.inl (.int, List.replicate 7 0)),
  .inr (.inl (.int, List.replicate 7 0)),
  .inr (.inl (.int, List.replicate 7 0)),
  .inr (.inl (.int, List.replicate 7 0)),
  .inr (.inl (.int, List.replicate 7 0)),
  .inr (.inl (.int, List.replicate 7 0)),
  .inr (.inl (.int, List.replicate 7 0)),
  .inr (.inl (.int, List.replicate 7 0)),
  .inr (.inl (.int, List.replicate 7 0)),
  .inr (.inl (.int, List.replicate 7 0)),
  .inr (.inl (.int, List.replicate 7 0)),
  .inr (.inl (.int, List.replicate 7 0)),
  .inr (.inl (.int, List.replicate 7 0)),
  .inr (.inl (.int, List.replicate 7 0)),
  .inr (.inl (.int, List.replicate 7 0)),
  .inr (.inl (.int, List.replicate 7 0)),
  .inr (.inl (.int, List.replicate 7 0)),
  .inr (.inl (.int, List.replicate 7 0)),
  .inr (.inl (.int, List.replicate 7 0)),
  .inl (7, [.ref 84, .ref 95, .int 0]),
  .inr (.inr (.inr (.long, [85, 86, 87, 88, 89, 90, 91, 92, 93, 94]))),
  .inr (.inr (.inl (List.replicate 7 0))),
  .inr (.inr (.inl (List.replicate 7 0))),
  .inr (.inr (.inl (List.replicate 7 0))),
  .inr (.inr (.inl (List.replicate 7 0))),
  .inr (.inr (.inl (List.replicate 7 0))),
  .inr (.inr (.inl (List.replicate 7 0))),
  .inr (.inr (.inl (List.replicate 7 0))),
  .inr (.inr (.inl (List.replicate 7 0))),
  .inr (.inr (.inl (List.replicate 7 0))),
  .inr (.inr (.inl (List.replicate 7 0))),
  .inr (.inl (.int, List.replicate 7 0)),
  .inl (4, [.ref 97, .ref 107, .ref 108, .ref 109, .int 0, .int 0]),
  .inr (.inr (.inr (.int, [98, 99, 100, 101, 102, 103, 104, 105, 106]))),
  .inr (.inl (.int, List.replicate 7 0)),
  .inr (.inl (.int, List.replicate 7 0)),
  .inr (.inl (.int, List.replicate 7 0)),
  .inr (.inl (.int, List.replicate 7 0)),
  .inr (.inl (.int, List.replicate 7 0)),
  .inr (.inl (.int, List.replicate 7 0)),
  .inr (.inl (.int, List.replicate 7 0)),
  .inr (.inl (.int, List.replicate 7 0)),
  .inr (.inl (.int, List.replicate 7 0)),
  .inr (.inl (.int, List.replicate 9 0)),
  .inr (.inl (.int, List.replicate 10 0)),
  .inr (.inl (.int, List.replicate 10 0)),
  .inl (4, [.ref 111, .ref 121, .ref 122, .ref 123, .int 0, .int 0]),
  .inr (.inr (.inr (.int, [112, 113, 114, 115, 116, 117, 118, 119, 120]))),
  .inr (.inl (.int, List.replicate 7 0)),
  .inr (.inl (.int, List.replicate 7 0)),
  .inr (.inl (.int, List.replicate 7 0)),
  .inr (.inl (.int, List.replicate 7 0)),
  .inr (.inl (.int, List.replicate 7 0)),
  .inr (.inl (.int, List.replicate 7 0)),
  .inr (.inl (.int, List.replicate 7 0)),
  .inr (.inl (.int, List.replicate 7 0)),
  .inr (.inl (.int, List.replicate 7 0)),
  .inr (.inl (.int, List.replicate 9 0)),
  .inr (.inl (.int, List.replicate 10 0)),
  .inr (.inl (.int, List.replicate 10 0)),
  .inl (10, [.ref 125, .int 0, .int 0, .ref 126, .ref 127, .int 0, .ref 128, .ref 129, .int 0, .int 0, .ref 130, .ref 131, .ref 132, .ref 133, .int 0, .ref 134, .int 0, .ref 135, .ref 136, .int 0, .ref 137, .ref 138]),
  .inr (.inl (.char, List.replicate 100 0)),
  .inr (.inl (.int, List.replicate 77 0)),
  .inr (.inl (.boolean, List.replicate 121 0)),
  .inr (.inl (.int, List.replicate 7 0)),
  .inr (.inl (.int, List.replicate 7 0)),
  .inr (.inl (.int, List.replicate 63 0)),
  .inr (.inl (.boolean, List.replicate 81 0)),
  .inr (.inl (.boolean, [1, 0, 0, 0, 0, 0, 0, 0, 0, 0, 1] ++ List.replicate 70 0)),
  .inr (.inl (.int, List.replicate 9 0)),
  .inr (.inl (.int, List.replicate 35 0)),
  .inr (.inl (.int, List.replicate 35 0)),
  .inr (.inl (.int, List.replicate 245 0)),
  .inr (.inr (.inl (List.replicate 70 0))),
  .inr (.inl (.int, List.replicate 7 0))]
set_option maxRecDepth 100000 in
theorem z1_take_0 : zsts zP zFT zCD none 82 1500 (0, [some (.ref 124), none, none, none], [], zσ_readX, 0, 0) = some (59, [some (.ref 124), some (.int 1), some (.int 8), none], [.ref 124], zσ_take0, 0, 0) := zeqs_eq (by decide +kernel)
def zσ_take1 : List zC := [.inl (0, [.ref 2, .ref 4, .ref 5, .ref 8, .ref 14, .ref 42, .ref 44, .ref 110, .ref 96]),
  .inl (1, [.ref 3, .int 0]),
  .inr (.inl (.char, List.replicate 100 0)),
  .inl (2, [.int 0, .int 0, .int 0]),
  .inl (3, [.ref 6, .ref 7, .int 1, .int 32]),
  .inr (.inl (.int, List.replicate 7 0)),
  .inr (.inl (.int, List.replicate 7 0)),
  .inl (5, [.ref 9, .ref 10, .ref 11, .ref 12, .ref 13, .int 0, .int 0]),
  .inr (.inl (.int, List.replicate 9 0)),
  .inr (.inl (.int, List.replicate 9 0)),
  .inr (.inl (.int, List.replicate 9 0)),
  .inr (.inl (.int, List.replicate 9 0)),
  .inr (.inl (.int, List.replicate 9 0)),
  .inl (6, [.ref 15, .ref 28, .ref 41, .int 0]),
  .inl (7, [.ref 16, .ref 27, .int 0]),
  .inr (.inr (.inr (.long, [17, 18, 19, 20, 21, 22, 23, 24, 25, 26]))),
  .inr (.inr (.inl (List.replicate 7 0))),
  .inr (.inr (.inl (List.replicate 7 0))),
  .inr (.inr (.inl (List.replicate 7 0))),
  .inr (.inr (.inl (List.replicate 7 0))),
  .inr (.inr (.inl (List.replicate 7 0))),
  .inr (.inr (.inl (List.replicate 7 0))),
  .inr (.inr (.inl (List.replicate 7 0))),
  .inr (.inr (.inl (List.replicate 7 0))),
  .inr (.inr (.inl (List.replicate 7 0))),
  .inr (.inr (.inl (List.replicate 7 0))),
  .inr (.inl (.int, List.replicate 7 (-1))),
  .inl (7, [.ref 29, .ref 40, .int 0]),
  .inr (.inr (.inr (.long, [30, 31, 32, 33, 34, 35, 36, 37, 38, 39]))),
  .inr (.inr (.inl (List.replicate 7 0))),
  .inr (.inr (.inl (List.replicate 7 0))),
  .inr (.inr (.inl (List.replicate 7 0))),
  .inr (.inr (.inl (List.replicate 7 0))),
  .inr (.inr (.inl (List.replicate 7 0))),
  .inr (.inr (.inl (List.replicate 7 0))),
  .inr (.inr (.inl (List.replicate 7 0))),
  .inr (.inr (.inl (List.replicate 7 0))),
  .inr (.inr (.inl (List.replicate 7 0))),
  .inr (.inr (.inl (List.replicate 7 0))),
  .inr (.inl (.int, List.replicate 7 0)),
  .inr (.inl (.int, List.replicate 9 0)),
  .inl (8, [.ref 43, .int 0]),
  .inr (.inl (.int, List.replicate 35 0)),
  .inl (9, [.ref 45, .ref 47, .ref 83]),
  .inl (8, [.ref 46, .int 0]),
  .inr (.inl (.int, List.replicate 35 0)),
  .inr (.inr (.inr (.int, [48, 49, 50, 51, 52, 53, 54, 55, 56, 57, 58, 59, 60, 61, 62, 63, 64, 65, 66, 67, 68, 69, 70, 71, 72, 73, 74, 75, 76, 77, 78, 79, 80, 81, 82]))),
  .inr (.inl (.int, List.replicate 7 0)),
  .inr (.inl (.int, List.replicate 7 0)),
  .inr (.inl (.int, List.replicate 7 0)),
  .inr (.inl (.int, List.replicate 7 0)),
  .inr (.inl (.int, List.replicate 7 0)),
  .inr (.inl (.int, List.replicate 7 0)),
  .inr (.inl (.int, List.replicate 7 0)),
  .inr (.inl (.int, List.replicate 7 0)),
  .inr (.inl (.int, List.replicate 7 0)),
  .inr (.inl (.int, List.replicate 7 0)),
  .inr (.inl (.int, List.replicate 7 0)),
  .inr (.inl (.int, List.replicate 7 0)),
  .inr (.inl (.int, List.replicate 7 0)),
  .inr (.inl (.int, List.replicate 7 0)),
  .inr (.inl (.int, List.replicate 7 0)),
  .inr (.inl (.int, List.replicate 7 0)),
  .inr (.inl (.int, List.replicate 7 0)),
  .inr (.inl (.int, List.replicate 7 0)),
  .inr (.inl (.int, List.replicate 7 0)),
  .inr (.inl (.int, List.replicate 7 0)),
  .inr (.inl (.int, List.replicate 7 0)),
  .inr (.inl (.int, List.replicate 7 0)),
  .inr (.inl (.int, List.replicate 7 0)),
  .inr (.inl (.int, List.replicate 7 0)),
  .inr (.inl (.int, List.replicate 7 0)),
  .inr (.inl (.int, List.replicate 7 0)),
  .inr (.inl (.int, List.replicate 7 0)),
  .inr (.inl (.int, List.replicate 7 0)),
  .inr (.inl (.int, List.replicate 7 0)),
  .inr (.inl (.int, List.replicate 7 0)),
  .inr (.inl (.int, List.replicate 7 0)),
  .inr (.inl (.int, List.replicate 7 0)),
  .inr (.inl (.int, List.replicate 7 0)),
  .inr (.inl (.int, List.replicate 7 0)),
  .inr (.inl (.int, List.replicate 7 0)),
  .inl (7, [.ref 84, .ref 95, .int 0]),
  .inr (.inr (.inr (.long, [85, 86, 87, 88, 89, 90, 91, 92, 93, 94]))),
  .inr (.inr (.inl (List.replicate 7 0))),
  .inr (.inr (.inl (List.replicate 7 0))),
  .inr (.inr (.inl (List.replicate 7 0))),
  .inr (.inr (.inl (List.replicate 7 0))),
  .inr (.inr (.inl (List.replicate 7 0))),
  .inr (.inr (.inl (List.replicate 7 0))),
  .inr (.inr (.inl (List.replicate 7 0))),
  .inr (.inr (.inl (List.replicate 7 0))),
  .inr (.inr (.inl (List.replicate 7 0))),
  .inr (.inr (.inl (List.replicate 7 0))),
  .inr (.inl (.int, List.replicate 7 0)),
  .inl (4, [.ref 97, .ref 107, .ref 108, .ref 109, .int 0, .int 0]),
  .inr (.inr (.inr (.int, [98, 99, 100, 101, 102, 103, 104, 105, 106]))),
  .inr (.inl (.int, List.replicate 7 0)),
  .inr (.inl (.int, List.replicate 7 0)),
  .inr (.inl (.int, List.replicate 7 0)),
  .inr (.inl (.int, List.replicate 7 0)),
  .inr (.inl (.int, List.replicate 7 0)),
  .inr (.inl (.int, List.replicate 7 0)),
  .inr (.inl (.int, List.replicate 7 0)),
  .inr (.inl (.int, List.replicate 7 0)),
  .inr (.inl (.int, List.replicate 7 0)),
  .inr (.inl (.int, List.replicate 9 0)),
  .inr (.inl (.int, List.replicate 10 0)),
  .inr (.inl (.int, List.replicate 10 0)),
  .inl (4, [.ref 111, .ref 121, .ref 122, .ref 123, .int 0, .int 0]),
  .inr (.inr (.inr (.int, [112, 113, 114, 115, 116, 117, 118, 119, 120]))),
  .inr (.inl (.int, List.replicate 7 0)),
  .inr (.inl (.int, List.replicate 7 0)),
  .inr (.inl (.int, List.replicate 7 0)),
  .inr (.inl (.int, List.replicate 7 0)),
  .inr (.inl (.int, List.replicate 7 0)),
  .inr (.inl (.int, List.replicate 7 0)),
  .inr (.inl (.int, List.replicate 7 0)),
  .inr (.inl (.int, List.replicate 7 0)),
  .inr (.inl (.int, List.replicate 7 0)),
  .inr (.inl (.int, List.replicate 9 0)),
  .inr (.inl (.int, List.replicate 10 0)),
  .inr (.inl (.int, List.replicate 10 0)),
  .inl (10, [.ref 125, .int 0, .int 0, .ref 126, .ref 127, .int 0, .ref 128, .ref 129, .int 0, .int 0, .ref 130, .ref 131, .ref 132, .ref 133, .int 0, .ref 134, .int 0, .ref 135, .ref 136, .int 0, .ref 137, .ref 138]),
  .inr (.inl (.char, List.replicate 100 0)),
  .inr (.inl (.int, List.replicate 77 0)),
  .inr (.inl (.boolean, List.replicate 121 0)),
  .inr (.inl (.int, List.replicate 7 0)),
  .inr (.inl (.int, List.replicate 7 0)),
  .inr (.inl (.int, List.replicate 63 0)),
  .inr (.inl (.boolean, List.replicate 81 0)),
  .inr (.inl (.boolean, [1, 0, 0, 0, 0, 0, 0, 0, 0, 0, 1, 0, 0, 0, 0, 0, 0, 0, 0, 0, 1, 0, 0, 0, 0, 0, 0, 0, 0, 0, 1, 0, 0, 0, 0, 0, 0, 0, 0, 0, 1, 0, 0, 0, 0, 0, 0, 0, 0, 0, 1] ++ List.replicate 30 0)),
  .inr (.inl (.int, List.replicate 9 0)),
  .inr (.inl (.int, List.replicate 35 0)),
  .inr (.inl (.int, List.replicate 35 0)),
  .inr (.inl (.int, List.replicate 245 0)),
  .inr (.inr (.inl (List.replicate 70 0))),
  .inr (.inl (.int, List.replicate 7 0))]
set_option maxRecDepth 100000 in
theorem z1_take_1 : zsts zP zFT zCD none 82 1500 (59, [some (.ref 124), some (.int 1), some (.int 8), none], [.ref 124], zσ_take0, 0, 0) = some (59, [some (.ref 124), some (.int 6), some (.int 1), none], [.ref 124], zσ_take1, 0, 0) := zeqs_eq (by decide +kernel)
def zσ_take2 : List zC := [.inl (0, [.ref 2, .ref 4, .ref 5, .ref 8, .ref 14, .ref 42, .ref 44, .ref 110, .ref 96]),
  .inl (1, [.ref 3, .int 0]),
  .inr (.inl (.char, List.replicate 100 0)),
  .inl (2, [.int 0, .int 0, .int 0]),
  .inl (3, [.ref 6, .ref 7, .int 1, .int 32]),
  .inr (.inl (.int, List.replicate 7 0)),
  .inr (.inl (.int, List.replicate 7 0)),
  .inl (5, [.ref 9, .ref 10, .ref 11, .ref 12, .ref 13, .int 0, .int 0]),
  .inr (.inl (.int, List.replicate 9 0)),
  .inr (.inl (.int, List.replicate 9 0)),
  .inr (.inl (.int, List.replicate 9 0)),
  .inr (.inl (.int, List.replicate 9 0)),
  .inr (.inl (.int, List.replicate 9 0)),
  .inl (6, [.ref 15, .ref 28, .ref 41, .int 0]),
  .inl (7, [.ref 16, .ref 27, .int 0]),
  .inr (.inr (.inr (.long, [17, 18, 19, 20, 21, 22, 23, 24, 25, 26]))),
  .inr (.inr (.inl (List.replicate 7 0))),
  .inr (.inr (.inl (List.replicate 7 0))),
  .inr (.inr (.inl (List.replicate 7 0))),
  .inr (.inr (.inl (List.replicate 7 0))),
  .inr (.inr (.inl (List.replicate 7 0))),
  .inr (.inr (.inl (List.replicate 7 0))),
  .inr (.inr (.inl (List.replicate 7 0))),
  .inr (.inr (.inl (List.replicate 7 0))),
  .inr (.inr (.inl (List.replicate 7 0))),
  .inr (.inr (.inl (List.replicate 7 0))),
  .inr (.inl (.int, List.replicate 7 (-1))),
  .inl (7, [.ref 29, .ref 40, .int 0]),
  .inr (.inr (.inr (.long, [30, 31, 32, 33, 34, 35, 36, 37, 38, 39]))),
  .inr (.inr (.inl (List.replicate 7 0))),
  .inr (.inr (.inl (List.replicate 7 0))),
  .inr (.inr (.inl (List.replicate 7 0))),
  .inr (.inr (.inl (List.replicate 7 0))),
  .inr (.inr (.inl (List.replicate 7 0))),
  .inr (.inr (.inl (List.replicate 7 0))),
  .inr (.inr (.inl (List.replicate 7 0))),
  .inr (.inr (.inl (List.replicate 7 0))),
  .inr (.inr (.inl (List.replicate 7 0))),
  .inr (.inr (.inl (List.replicate 7 0))),
  .inr (.inl (.int, List.replicate 7 0)),
  .inr (.inl (.int, List.replicate 9 0)),
  .inl (8, [.ref 43, .int 0]),
  .inr (.inl (.int, List.replicate 35 0)),
  .inl (9, [.ref 45, .ref 47, .ref 83]),
  .inl (8, [.ref 46, .int 0]),
  .inr (.inl (.int, List.replicate 35 0)),
  .inr (.inr (.inr (.int, [48, 49, 50, 51, 52, 53, 54, 55, 56, 57, 58, 59, 60, 61, 62, 63, 64, 65, 66, 67, 68, 69, 70, 71, 72, 73, 74, 75, 76, 77, 78, 79, 80, 81, 82]))),
  .inr (.inl (.int, List.replicate 7 0)),
  .inr (.inl (.int, List.replicate 7 0)),
  .inr (.inl (.int, List.replicate 7 0)),
  .inr (.inl (.int, List.replicate 7 0)),
  .inr (.inl (.int, List.replicate 7 0)),
  .inr (.inl (.int, List.replicate 7 0)),
  .inr (.inl (.int, List.replicate 7 0)),
  .inr (.inl (.int, List.replicate 7 0)),
  .inr (.inl (.int, List.replicate 7 0)),
  .inr (.inl (.int, List.replicate 7 0)),
  .inr (.inl (.int, List.replicate 7 0)),
  .inr (.inl (.int, List.replicate 7 0)),
  .inr (.inl (.int, List.replicate 7 0)),
  .inr (.inl (.int, List.replicate 7 0)),
  .inr (.inl (.int, List.replicate 7 0)),
  .inr (.inl (.int, List.replicate 7 0)),
  .inr (.inl (.int, List.replicate 7 0)),
  .inr (.inl (.int, List.replicate 7 0)),
  .inr (.inl (.int, List.replicate 7 0)),
  .inr (.inl (.int, List.replicate 7 0)),
  .inr (.inl (.int, List.replicate 7 0)),
  .inr (.inl (.int, List.replicate 7 0)),
  .inr (.inl (.int, List.replicate 7 0)),
  .inr (.inl (.int, List.replicate 7 0)),
  .inr (.inl (.int, List.replicate 7 0)),
  .inr (.inl (.int, List.replicate 7 0)),
  .inr (.inl (.int, List.replicate 7 0)),
  .inr (.inl (.int, List.replicate 7 0)),
  .inr (.inl (.int, List.replicate 7 0)),
  .inr (.inl (.int, List.replicate 7 0)),
  .inr (.inl (.int, List.replicate 7 0)),
  .inr (.inl (.int, List.replicate 7 0)),
  .inr (.inl (.int, List.replicate 7 0)),
  .inr (.inl (.int, List.replicate 7 0)),
  .inr (.inl (.int, List.replicate 7 0)),
  .inl (7, [.ref 84, .ref 95, .int 0]),
  .inr (.inr (.inr (.long, [85, 86, 87, 88, 89, 90, 91, 92, 93, 94]))),
  .inr (.inr (.inl (List.replicate 7 0))),
  .inr (.inr (.inl (List.replicate 7 0))),
  .inr (.inr (.inl (List.replicate 7 0))),
  .inr (.inr (.inl (List.replicate 7 0))),
  .inr (.inr (.inl (List.replicate 7 0))),
  .inr (.inr (.inl (List.replicate 7 0))),
  .inr (.inr (.inl (List.replicate 7 0))),
  .inr (.inr (.inl (List.replicate 7 0))),
  .inr (.inr (.inl (List.replicate 7 0))),
  .inr (.inr (.inl (List.replicate 7 0))),
  .inr (.inl (.int, List.replicate 7 0)),
  .inl (4, [.ref 97, .ref 107, .ref 108, .ref 109, .int 0, .int 0]),
  .inr (.inr (.inr (.int, [98, 99, 100, 101, 102, 103, 104, 105, 106]))),
  .inr (.inl (.int, List.replicate 7 0)),
  .inr (.inl (.int, List.replicate 7 0)),
  .inr (.inl (.int, List.replicate 7 0)),
  .inr (.inl (.int, List.replicate 7 0)),
  .inr (.inl (.int, List.replicate 7 0)),
  .inr (.inl (.int, List.replicate 7 0)),
  .inr (.inl (.int, List.replicate 7 0)),
  .inr (.inl (.int, List.replicate 7 0)),
  .inr (.inl (.int, List.replicate 7 0)),
  .inr (.inl (.int, List.replicate 9 0)),
  .inr (.inl (.int, List.replicate 10 0)),
  .inr (.inl (.int, List.replicate 10 0)),
  .inl (4, [.ref 111, .ref 121, .ref 122, .ref 123, .int 0, .int 0]),
  .inr (.inr (.inr (.int, [112, 113, 114, 115, 116, 117, 118, 119, 120]))),
  .inr (.inl (.int, List.replicate 7 0)),
  .inr (.inl (.int, List.replicate 7 0)),
  .inr (.inl (.int, List.replicate 7 0)),
  .inr (.inl (.int, List.replicate 7 0)),
  .inr (.inl (.int, List.replicate 7 0)),
  .inr (.inl (.int, List.replicate 7 0)),
  .inr (.inl (.int, List.replicate 7 0)),
  .inr (.inl (.int, List.replicate 7 0)),
  .inr (.inl (.int, List.replicate 7 0)),
  .inr (.inl (.int, List.replicate 9 0)),
  .inr (.inl (.int, List.replicate 10 0)),
  .inr (.inl (.int, List.replicate 10 0)),
  .inl (10, [.ref 125, .int 0, .int 0, .ref 126, .ref 127, .int 0, .ref 128, .ref 129, .int 0, .int 0, .ref 130, .ref 131, .ref 132, .ref 133, .int 0, .ref 134, .int 0, .ref 135, .ref 136, .int 0, .ref 137, .ref 138]),
  .inr (.inl (.char, List.replicate 100 0)),
  .inr (.inl (.int, List.replicate 77 0)),
  .inr (.inl (.boolean, List.replicate 121 0)),
  .inr (.inl (.int, List.replicate 7 0)),
  .inr (.inl (.int, List.replicate 7 0)),
  .inr (.inl (.int, List.replicate 63 0)),
  .inr (.inl (.boolean, List.replicate 81 0)),
  .inr (.inl (.boolean, [1, 0, 0, 0, 0, 0, 0, 0, 0, 0, 1, 0, 0, 0, 0, 0, 0, 0, 0, 0, 1, 0, 0, 0, 0, 0, 0, 0, 0, 0, 1, 0, 0, 0, 0, 0, 0, 0, 0, 0, 1, 0, 0, 0, 0, 0, 0, 0, 0, 0, 1, 0, 0, 0, 0, 0, 0, 0, 0, 0, 1, 0, 0, 0, 0, 0, 0, 0, 0, 0, 1, 0, 0, 0, 0, 0, 0, 0, 0, 0, 1])),
  .inr (.inl (.int, List.replicate 9 0)),
  .inr (.inl (.int, List.replicate 35 0)),
  .inr (.inl (.int, List.replicate 35 0)),
  .inr (.inl (.int, List.replicate 245 0)),
  .inr (.inr (.inl (List.replicate 70 0))),
  .inr (.inl (.int, List.replicate 7 0))]
set_option maxRecDepth 100000 in
theorem z1_take_2 : zsts zP zFT zCD none 82 1500 (59, [some (.ref 124), some (.int 6), some (.int 1), none], [.ref 124], zσ_take1, 0, 0) = some (207, [some (.ref 124), some (.int 0), some (.int 1), some (.int 3)], [.int 9, .ref 132, .int 12, .ref 132], zσ_take2, 0, 0) := zeqs_eq (by decide +kernel)
set_option maxRecDepth 100000 in
theorem z1_take_3 : zsts zP zFT zCD none 82 1500 (207, [some (.ref 124), some (.int 0), some (.int 1), some (.int 3)], [.int 9, .ref 132, .int 12, .ref 132], zσ_take2, 0, 0) = some (172, [some (.ref 124), some (.int 0), some (.int 6), some (.int 5)], [.int 9, .int 5], zσ_take2, 0, 0) := zeqs_eq (by decide +kernel)
set_option maxRecDepth 100000 in
theorem z1_take_4 : zsts zP zFT zCD none 82 1500 (172, [some (.ref 124), some (.int 0), some (.int 6), some (.int 5)], [.int 9, .int 5], zσ_take2, 0, 0) = some (185, [some (.ref 124), some (.int 1), some (.int 2), some (.int 4)], [.int 22, .ref 132], zσ_take2, 0, 0) := zeqs_eq (by decide +kernel)
set_option maxRecDepth 100000 in
theorem z1_take_5 : zsts zP zFT zCD none 82 1500 (185, [some (.ref 124), some (.int 1), some (.int 2), some (.int 4)], [.int 22, .ref 132], zσ_take2, 0, 0) = some (200, [some (.ref 124), some (.int 1), some (.int 7), some (.int 5)], [.ref 124, .int 68, .ref 132], zσ_take2, 0, 0) := zeqs_eq (by decide +kernel)
set_option maxRecDepth 100000 in
theorem z1_take_6 : zsts zP zFT zCD none 82 1500 (200, [some (.ref 124), some (.int 1), some (.int 7), some (.int 5)], [.ref 124, .int 68, .ref 132], zσ_take2, 0, 0) = some (231, [some (.ref 124), some (.int 2), some (.int 3), some (.int 4)], [.int 31, .ref 132], zσ_take2, 0, 0) := zeqs_eq (by decide +kernel)
set_option maxRecDepth 100000 in
theorem z1_take_7 : zsts zP zFT zCD none 82 1500 (231, [some (.ref 124), some (.int 2), some (.int 3), some (.int 4)], [.int 31, .ref 132], zσ_take2, 0, 0) = some (181, [some (.ref 124), some (.int 2), some (.int 8), some (.int 6)], [.int 9, .ref 132], zσ_take2, 0, 0) := zeqs_eq (by decide +kernel)
set_option maxRecDepth 100000 in
theorem z1_take_8 : zsts zP zFT zCD none 82 1500 (181, [some (.ref 124), some (.int 2), some (.int 8), some (.int 6)], [.int 9, .ref 132], zσ_take2, 0, 0) = some (192, [some (.ref 124), some (.int 3), some (.int 4), some (.int 5)], [.int 4, .int 9, .ref 132, .int 41, .ref 132], zσ_take2, 0, 0) := zeqs_eq (by decide +kernel)
set_option maxRecDepth 100000 in
theorem z1_take_9 : zsts zP zFT zCD none 82 1500 (192, [some (.ref 124), some (.int 3), some (.int 4), some (.int 5)], [.int 4, .int 9, .ref 132, .int 41, .ref 132], zσ_take2, 0, 0) = some (205, [some (.ref 124), some (.int 4), some (.int 0), some (.int 6)], [.int 9, .ref 132, .int 6, .ref 132], zσ_take2, 0, 0) := zeqs_eq (by decide +kernel)
set_option maxRecDepth 100000 in
theorem z1_take_10 : zsts zP zFT zCD none 82 1500 (205, [some (.ref 124), some (.int 4), some (.int 0), some (.int 6)], [.int 9, .ref 132, .int 6, .ref 132], zσ_take2, 0, 0) = some (169, [some (.ref 124), some (.int 4), some (.int 5), some (.int 6)], [], zσ_take2, 0, 0) := zeqs_eq (by decide +kernel)
set_option maxRecDepth 100000 in
theorem z1_take_11 : zsts zP zFT zCD none 82 1500 (169, [some (.ref 124), some (.int 4), some (.int 5), some (.int 6)], [], zσ_take2, 0, 0) = some (183, [some (.ref 124), some (.int 5), some (.int 1), some (.int 7)], [.int 9, .ref 132], zσ_take2, 0, 0) := zeqs_eq (by decide +kernel)
set_option maxRecDepth 100000 in
theorem z1_take_12 : zsts zP zFT zCD none 82 1500 (183, [some (.ref 124), some (.int 5), some (.int 1), some (.int 7)], [.int 9, .ref 132], zσ_take2, 0, 0) = some (185, [some (.ref 124), some (.int 5), some (.int 6), some (.int 6)], [.int 60, .ref 132], zσ_take2, 0, 0) := zeqs_eq (by decide +kernel)
set_option maxRecDepth 100000 in
theorem z1_take_13 : zsts zP zFT zCD none 82 1500 (185, [some (.ref 124), some (.int 5), some (.int 6), some (.int 6)], [.int 60, .ref 132], zσ_take2, 0, 0) = some (209, [some (.ref 124), some (.int 6), some (.int 2), some (.int 7)], [.int 24, .ref 132, .int 25, .ref 132], zσ_take2, 0, 0) := zeqs_eq (by decide +kernel)
set_option maxRecDepth 100000 in
theorem z1_take_14 : zsts zP zFT zCD none 82 1500 (209, [some (.ref 124), some (.int 6), some (.int 2), some (.int 7)], [.int 24, .ref 132, .int 25, .ref 132], zσ_take2, 0, 0) = some (231, [some (.ref 124), some (.int 6), some (.int 7), some (.int 6)], [.int 69, .ref 132], zσ_take2, 0, 0) := zeqs_eq (by decide +kernel)
set_option maxRecDepth 100000 in
theorem z1_take_15 : zsts zP zFT zCD none 82 1500 (231, [some (.ref 124), some (.int 6), some (.int 7), some (.int 6)], [.int 69, .ref 132], zσ_take2, 0, 0) = some (189, [some (.ref 124), some (.int 7), some (.int 3), some (.int 8)], [.ref 132, .int 35, .ref 132], zσ_take2, 0, 0) := zeqs_eq (by decide +kernel)
set_option maxRecDepth 100000 in
theorem z1_take_16 : zsts zP zFT zCD none 82 1500 (189, [some (.ref 124), some (.int 7), some (.int 3), some (.int 8)], [.ref 132, .int 35, .ref 132], zσ_take2, 0, 0) = some (192, [some (.ref 124), some (.int 7), some (.int 8), some (.int 7)], [.int 8, .int 9, .ref 132, .int 79, .ref 132], zσ_take2, 0, 0) := zeqs_eq (by decide +kernel)
set_option maxRecDepth 100000 in
theorem z1_take_17 : zsts zP zFT zCD none 82 1500 (192, [some (.ref 124), some (.int 7), some (.int 8), some (.int 7)], [.int 8, .int 9, .ref 132, .int 79, .ref 132], zσ_take2, 0, 0) = some (233, [some (.ref 124), some (.int 8), some (.int 4), some (.int 8)], [], zσ_take2, 0, 0) := zeqs_eq (by decide +kernel)
set_option maxRecDepth 100000 in
theorem z1_take_18 : zsts zP zFT zCD none 82 1248 (233, [some (.ref 124), some (.int 8), some (.int 4), some (.int 8)], [], zσ_take2, 0, 0) = some (252, [some (.ref 124), some (.int 9), some (.int 9), some (.int 9)], [.ref 124], zσ_take2, 0, 0) := zeqs_eq (by decide +kernel)
def zσ_take3 : List zC := [.inl (0, [.ref 2, .ref 4, .ref 5, .ref 8, .ref 14, .ref 42, .ref 44, .ref 110, .ref 96]),
  .inl (1, [.ref 3, .int 0]),
  .inr (.inl (.char, List.replicate 100 0)),
  .inl (2, [.int 0, .int 0, .int 0]),
  .inl (3, [.ref 6, .ref 7, .int 1, .int 32]),
  .inr (.inl (.int, List.replicate 7 0)),
  .inr (.inl (.int, List.replicate 7 0)),
  .inl (5, [.ref 9, .ref 10, .ref 11, .ref 12, .ref 13, .int 0, .int 0]),
  .inr (.inl (.int, List.replicate 9 0)),
  .inr (.inl (.int, List.replicate 9 0)),
  .inr (.inl (.int, List.replicate 9 0)),
  .inr (.inl (.int, List.replicate 9 0)),
  .inr (.inl (.int, List.replicate 9 0)),
  .inl (6, [.ref 15, .ref 28, .ref 41, .int 0]),
  .inl (7, [.ref 16, .ref 27, .int 0]),
  .inr (.inr (.inr (.long, [17, 18, 19, 20, 21, 22, 23, 24, 25, 26]))),
  .inr (.inr (.inl (List.replicate 7 0))),
  .inr (.inr (.inl (List.replicate 7 0))),
  .inr (.inr (.inl (List.replicate 7 0))),
  .inr (.inr (.inl (List.replicate 7 0))),
  .inr (.inr (.inl (List.replicate 7 0))),
  .inr (.inr (.inl (List.replicate 7 0))),
  .inr (.inr (.inl (List.replicate 7 0))),
  .inr (.inr (.inl (List.replicate 7 0))),
  .inr (.inr (.inl (List.replicate 7 0))),
  .inr (.inr (.inl (List.replicate 7 0))),
  .inr (.inl (.int, List.replicate 7 (-1))),
  .inl (7, [.ref 29, .ref 40, .int 0]),
  .inr (.inr (.inr (.long, [30, 31, 32, 33, 34, 35, 36, 37, 38, 39]))),
  .inr (.inr (.inl (List.replicate 7 0))),
  .inr (.inr (.inl (List.replicate 7 0))),
  .inr (.inr (.inl (List.replicate 7 0))),
  .inr (.inr (.inl (List.replicate 7 0))),
  .inr (.inr (.inl (List.replicate 7 0))),
  .inr (.inr (.inl (List.replicate 7 0))),
  .inr (.inr (.inl (List.replicate 7 0))),
  .inr (.inr (.inl (List.replicate 7 0))),
  .inr (.inr (.inl (List.replicate 7 0))),
  .inr (.inr (.inl (List.replicate 7 0))),
  .inr (.inl (.int, List.replicate 7 0)),
  .inr (.inl (.int, List.replicate 9 0)),
  .inl (8, [.ref 43, .int 0]),
  .inr (.inl (.int, List.replicate 35 0)),
  .inl (9, [.ref 45, .ref 47, .ref 83]),
  .inl (8, [.ref 46, .int 0]),
  .inr (.inl (.int, List.replicate 35 0)),
  .inr (.inr (.inr (.int, [48, 49, 50, 51, 52, 53, 54, 55, 56, 57, 58, 59, 60, 61, 62, 63, 64, 65, 66, 67, 68, 69, 70, 71, 72, 73, 74, 75, 76, 77, 78, 79, 80, 81, 82]))),
  .inr (.inl (.int, List.replicate 7 0)),
  .inr (.inl (.int, List.replicate 7 0)),
  .inr (.inl (.int, List.replicate 7 0)),
  .inr (.inl (.int, List.replicate 7 0)),
  .inr (.inl (.int, List.replicate 7 0)),
  .inr (.inl (.int, List.replicate 7 0)),
  .inr (.inl (.int, List.replicate 7 0)),
  .inr (.inl (.int, List.replicate 7 0)),
  .inr (.inl (.int, List.replicate 7 0)),
  .inr (.inl (.int, List.replicate 7 0)),
  .inr (.inl (.int, List.replicate 7 0)),
  .inr (.inl (.int, List.replicate 7 0)),
  .inr (.inl (.int, List.replicate 7 0)),
  .inr (.inl (.int, List.replicate 7 0)),
  .inr (.inl (.int, List.replicate 7 0)),
  .inr (.inl (.int, List.replicate 7 0)),
  .inr (.inl (.int, List.replicate 7 0)),
  .inr (.inl (.int, List.replicate 7 0)),
  .inr (.inl (.int, List.replicate 7 0)),
  .inr (.inl (.int, List.replicate 7 0)),
  .inr (.inl (.int, List.replicate 7 0)),
  .inr (.inl (.int, List.replicate 7 0)),
  .inr (.inl (.int, List.replicate 7 0)),
  .inr (.inl (.int, List.replicate 7 0)),
  .inr (.inl (.int, List.replicate 7 0)),
  .inr (.inl (.int, List.replicate 7 0)),
  .inr (.inl (.int, List.replicate 7 0)),
  .inr (.inl (.int, List.replicate 7 0)),
  .inr (.inl (.int, List.replicate 7 0)),
  .inr (.inl (.int, List.replicate 7 0)),
  .inr (.inl (.int, List.replicate 7 0)),
  .inr (.inl (.int, List.replicate 7 0)),
  .inr (.inl (.int, List.replicate 7 0)),
  .inr (.inl (.int, List.replicate 7 0)),
  .inr (.inl (.int, List.replicate 7 0)),
  .inl (7, [.ref 84, .ref 95, .int 0]),
  .inr (.inr (.inr (.long, [85, 86, 87, 88, 89, 90, 91, 92, 93, 94]))),
  .inr (.inr (.inl (List.replicate 7 0))),
  .inr (.inr (.inl (List.replicate 7 0))),
  .inr (.inr (.inl (List.replicate 7 0))),
  .inr (.inr (.inl (List.replicate 7 0))),
  .inr (.inr (.inl (List.replicate 7 0))),
  .inr (.inr (.inl (List.replicate 7 0))),
  .inr (.inr (.inl (List.replicate 7 0))),
  .inr (.inr (.inl (List.replicate 7 0))),
  .inr (.inr (.inl (List.replicate 7 0))),
  .inr (.inr (.inl (List.replicate 7 0))),
  .inr (.inl (.int, List.replicate 7 0)),
  .inl (4, [.ref 97, .ref 107, .ref 108, .ref 109, .int 0, .int 0]),
  .inr (.inr (.inr (.int, [98, 99, 100, 101, 102, 103, 104, 105, 106]))),
  .inr (.inl (.int, List.replicate 7 0)),
  .inr (.inl (.int, List.replicate 7 0)),
  .inr (.inl (.int, List.replicate 7 0)),
  .inr (.inl (.int, List.replicate 7 0)),
  .inr (.inl (.int, List.replicate 7 0)),
  .inr (.inl (.int, List.replicate 7 0)),
  .inr (.inl (.int, List.replicate 7 0)),
  .inr (.inl (.int, List.replicate 7 0)),
  .inr (.inl (.int, List.replicate 7 0)),
  .inr (.inl (.int, List.replicate 9 0)),
  .inr (.inl (.int, List.replicate 10 0)),
  .inr (.inl (.int, List.replicate 10 0)),
  .inl (4, [.ref 111, .ref 121, .ref 122, .ref 123, .int 0, .int 0]),
  .inr (.inr (.inr (.int, [112, 113, 114, 115, 116, 117, 118, 119, 120]))),
  .inr (.inl (.int, List.replicate 7 0)),
  .inr (.inl (.int, List.replicate 7 0)),
  .inr (.inl (.int, List.replicate 7 0)),
  .inr (.inl (.int, List.replicate 7 0)),
  .inr (.inl (.int, List.replicate 7 0)),
  .inr (.inl (.int, List.replicate 7 0)),
  .inr (.inl (.int, List.replicate 7 0)),
  .inr (.inl (.int, List.replicate 7 0)),
  .inr (.inl (.int, List.replicate 7 0)),
  .inr (.inl (.int, List.replicate 9 0)),
  .inr (.inl (.int, List.replicate 10 0)),
  .inr (.inl (.int, List.replicate 10 0)),
  .inl (10, [.ref 125, .int 0, .int 0, .ref 126, .ref 127, .int 0, .ref 128, .ref 129, .int 0, .int 0, .ref 130, .ref 131, .ref 132, .ref 133, .int 0, .ref 134, .int 0, .ref 135, .ref 136, .int 0, .ref 137, .ref 138]),
  .inr (.inl (.char, List.replicate 100 0)),
  .inr (.inl (.int, List.replicate 77 0)),
  .inr (.inl (.boolean, List.replicate 121 0)),
  .inr (.inl (.int, List.replicate 7 0)),
  .inr (.inl (.int, List.replicate 7 0)),
  .inr (.inl (.int, List.replicate 63 0)),
  .inr (.inl (.boolean, List.replicate 81 0)),
  .inr (.inl (.boolean, [1, 0, 0, 0, 0, 0, 0, 0, 0, 0, 1, 0, 0, 0, 0, 0, 0, 0, 0, 0, 1, 0, 0, 0, 0, 0, 0, 0, 0, 0, 1, 0, 0, 0, 0, 0, 0, 0, 0, 0, 1, 0, 0, 0, 0, 0, 0, 0, 0, 0, 1, 0, 0, 0, 0, 0, 0, 0, 0, 0, 1, 0, 0, 0, 0, 0, 0, 0, 0, 0, 1, 0, 0, 0, 0, 0, 0, 0, 0, 0, 1])),
  .inr (.inl (.int, [0, 1, 2, 3, 4, 5, 6, 7, 8])),
  .inr (.inl (.int, List.replicate 35 0)),
  .inr (.inl (.int, List.replicate 35 0)),
  .inr (.inl (.int, List.replicate 245 0)),
  .inr (.inr (.inl (List.replicate 70 0))),
  .inr (.inl (.int, List.replicate 7 0))]
set_option maxRecDepth 100000 in
theorem z1_take_19 : zrun zP zFT zCD 60000 none 71 (0, zent [.ref 124] 4, [], zσ_take2, 0, 0) = some (none, zσ_take3, 0, 0) := zeqo_eq (by decide +kernel)
set_option maxRecDepth 100000 in
theorem z1_take_20 : zsts zP zFT zCD none 82 7 (255, [some (.ref 124), some (.int 9), some (.int 9), some (.int 9)], [], zσ_take3, 0, 0) = some (266, [some (.ref 124), some (.int 9), some (.int 9), some (.int 9)], [.ref 124], zσ_take3, 0, 0) := zeqs_eq (by decide +kernel)
set_option maxRecDepth 100000 in
theorem z1_take_21 : zrun zP zFT zCD 60000 none 73 (0, zent [.ref 124] 3, [], zσ_take3, 0, 0) = some (some (.int 0), zσ_take3, 0, 0) := zeqo_eq (by decide +kernel)
set_option maxRecDepth 100000 in
theorem z1_take_22 : zsts zP zFT zCD none 82 1403 (269, [some (.ref 124), some (.int 9), some (.int 9), some (.int 9)], [.int 0], zσ_take3, 0, 0) = some (303, [some (.ref 124), some (.int 0), some (.int 128), some (.int 9)], [], zσ_take3, 0, 0) := zeqs_eq (by decide +kernel)
set_option maxRecDepth 100000 in
theorem z1_take : zR none 82 (0, zent [.ref 124] 4, [], zσ_readX, 0, 0) (none, zσ_take3, 0, 0) := by
  refine zRn_n 1500 z1_take_0 ?_
  refine zRn_n 1500 z1_take_1 ?_
  refine zRn_n 1500 z1_take_2 ?_
  refine zRn_n 1500 z1_take_3 ?_
  refine zRn_n 1500 z1_take_4 ?_
  refine zRn_n 1500 z1_take_5 ?_
  refine zRn_n 1500 z1_take_6 ?_
  refine zRn_n 1500 z1_take_7 ?_
  refine zRn_n 1500 z1_take_8 ?_
  refine zRn_n 1500 z1_take_9 ?_
  refine zRn_n 1500 z1_take_10 ?_
  refine zRn_n 1500 z1_take_11 ?_
  refine zRn_n 1500 z1_take_12 ?_
  refine zRn_n 1500 z1_take_13 ?_
  refine zRn_n 1500 z1_take_14 ?_
  refine zRn_n 1500 z1_take_15 ?_
  refine zRn_n 1500 z1_take_16 ?_
  refine zRn_n 1500 z1_take_17 ?_
  refine zRn_n 1248 z1_take_18 ?_
  refine zRn_call rfl ⟨_, z1_take_19⟩ rfl ?_
  refine zRn_n 7 z1_take_20 ?_
  refine zRn_call rfl ⟨_, z1_take_21⟩ rfl ?_
  refine zRn_n 1403 z1_take_22 ?_
  exact zRn_ret rfl
set_option maxRecDepth 100000 in
theorem z1_readM_0 : zsts zP zFT zCD none 83 1 (0, [some (.ref 124), none, none, none], [], zσ_readX, 0, 0) = some (1, [some (.ref 124), none, none, none], [.ref 124], zσ_readX, 0, 0) := zeqs_eq (by decide +kernel)
set_option maxRecDepth 100000 in
theorem z1_readM_1 : zrun zP zFT zCD 60000 none 65 (0, zent [.ref 124] 4, [], zσ_readX, 0, 0) = some (some (.int (-1)), zσ_readX, 0, 0) := zeqo_eq (by decide +kernel)
set_option maxRecDepth 100000 in
theorem z1_readM_2 : zsts zP zFT zCD none 83 1225 (4, [some (.ref 124), none, none, none], [.int (-1)], zσ_readX, 0, 0) = some (45, [some (.ref 124), some (.int (-1)), some (.int 121), none], [.ref 124], zσ_readX, 0, 0) := zeqs_eq (by decide +kernel)
set_option maxRecDepth 100000 in
theorem z1_readM_3 : zrun zP zFT zCD 60000 none 66 (0, zent [.ref 124] 2, [], zσ_readX, 0, 0) = some (none, zσ_readX, 0, 0) := zeqo_eq (by decide +kernel)
set_option maxRecDepth 100000 in
theorem z1_readM_4 : zsts zP zFT zCD none 83 16 (48, [some (.ref 124), some (.int (-1)), some (.int 121), none], [], zσ_readX, 0, 0) = some (107, [some (.ref 124), some (.int (-1)), some (.int 1), some (.int 0)], [.ref 124], zσ_readX, 0, 0) := zeqs_eq (by decide +kernel)
def zσ_readM0 : List zC := [.inl (0, [.ref 2, .ref 4, .ref 5, .ref 8, .ref 14, .ref 42, .ref 44, .ref 110, .ref 96]),
  .inl (1, [.ref 3, .int 0]),
  .inr (.inl (.char, List.replicate 100 0)),
  .inl (2, [.int 0, .int 0, .int 0]),
  .inl (3, [.ref 6, .ref 7, .int 1, .int 32]),
  .inr (.inl (.int, List.replicate 7 0)),
  .inr (.inl (.int, List.replicate 7 0)),
  .inl (5, [.ref 9, .ref 10, .ref 11, .ref 12, .ref 13, .int 0, .int 0]),
  .inr (.inl (.int, List.replicate 9 0)),
  .inr (.inl (.int, List.replicate 9 0)),
  .inr (.inl (.int, List.replicate 9 0)),
  .inr (.inl (.int, List.replicate 9 0)),
  .inr (.inl (.int, List.replicate 9 0)),
  .inl (6, [.ref 15, .ref 28, .ref 41, .int 0]),
  .inl (7, [.ref 16, .ref 27, .int 0]),
  .inr (.inr (.inr (.long, [17, 18, 19, 20, 21, 22, 23, 24, 25, 26]))),
  .inr (.inr (.inl (List.replicate 7 0))),
  .inr (.inr (.inl (List.replicate 7 0))),
  .inr (.inr (.inl (List.replicate 7 0))),
  .inr (.inr (.inl (List.replicate 7 0))),
  .inr (.inr (.inl (List.replicate 7 0))),
  .inr (.inr (.inl (List.replicate 7 0))),
  .inr (.inr (.inl (List.replicate 7 0))),
  .inr (.inr (.inl (List.replicate 7 0))),
  .inr (.inr (.inl (List.replicate 7 0))),
  .inr (.inr (.inl (List.replicate 7 0))),
  .inr (.inl (.int, List.replicate 7 (-1))),
  .inl (7, [.ref 29, .ref 40, .int 0]),
  .inr (.inr (.inr (.long, [30, 31, 32, 33, 34, 35, 36, 37, 38, 39]))),
  .inr (.inr (.inl (List.replicate 7 0))),
  .inr (.inr (.inl (List.replicate 7 0))),
  .inr (.inr (.inl (List.replicate 7 0))),
  .inr (.inr (.inl (List.replicate 7 0))),
  .inr (.inr (.inl (List.replicate 7 0))),
  .inr (.inr (.inl (List.replicate 7 0))),
  .inr (.inr (.inl (List.replicate 7 0))),
  .inr (.inr (.inl (List.replicate 7 0))),
  .inr (.inr (.inl (List.replicate 7 0))),
  .inr (.inr (.inl (List.replicate 7 0))),
  .inr (.inl (.int, List.replicate 7 0)),
  .inr (.inl (.int, List.replicate 9 0)),
  .inl (8, [.ref 43, .int 0]),
  .inr (.inl (.int, List.replicate 35 0)),
  .inl (9, [.ref 45, .ref 47, .ref 83]),
  .inl (8, [.ref 46, .int 0]),
  .inr (.inl (.int, List.replicate 35 0)),
  .inr (.inr (.inr (.int, [48, 49, 50, 51, 52, 53, 54, 55, 56, 57, 58, 59, 60, 61, 62, 63, 64, 65, 66, 67, 68, 69, 70, 71, 72, 73, 74, 75, 76, 77, 78, 79, 80, 81, 82]))),
  .inr (.inl (.int, List.replicate 7 0)),
  .inr (.inl (.int, List.replicate 7 0)),
  .inr (.inl (.int, List.replicate 7 0)),
  .inr (.inl (.int, List.replicate 7 0)),
  .inr (.inl (.int, List.replicate 7 0)),
  .inr (.inl (.int, List.replicate 7 0)),
  .inr (.inl (.int, List.replicate 7 0)),
  .inr (.inl (.int, List.replicate 7 0)),
  .inr (.inl (.int, List.replicate 7 0)),
  .inr (.inl (.int, List.replicate 7 0)),
  .inr (.inl (.int, List.replicate 7 0)),
  .inr (.inl (.int, List.replicate 7 0)),
  .inr (.inl (.int, List.replicate 7 0)),
  .inr (.inl (.int, List.replicate 7 0)),
  .inr (.inl (.int, List.replicate 7 0)),
  .inr (.inl (.int, List.replicate 7 0)),
  .inr (.inl (.int, List.replicate 7 0)),
  .inr (.inl (.int, List.replicate 7 0)),
  .inr (.inl (.int, List.replicate 7 0)),
  .inr (.inl (.int, List.replicate 7 0)),
  .inr (.inl (.int, List.replicate 7 0)),
  .inr (.inl (.int, List.replicate 7 0)),
  .inr (.inl (.int, List.replicate 7 0)),
  .inr (.inl (.int, List.replicate 7 0)),
  .inr (.inl (.int, List.replicate 7 0)),
  .inr (.inl (.int, List.replicate 7 0)),
  .inr (.inl (.int, List.replicate 7 0)),
  .inr (.inl (.int, List.replicate 7 0)),
  .inr (.inl (.int, List.replicate 7 0)),
  .inr (.inl (.int, List.replicate 7 0)),
  .inr (.inl (.int, List.replicate 7 0)),
  .inr (.inl (.int, List.replicate 7 0)),
  .inr (.inl (.int, List.replicate 7 0)),
  .inr (.inl (.int, List.replicate 7 0)),
  .inr (.inl (.int, List.replicate 7 0)),
  .inl (7, [.ref 84, .ref 95, .int 0]),
  .inr (.inr (.inr (.long, [85, 86, 87, 88, 89, 90, 91, 92, 93, 94]))),
  .inr (.inr (.inl (List.replicate 7 0))),
  .inr (.inr (.inl (List.replicate 7 0))),
  .inr (.inr (.inl (List.replicate 7 0))),
  .inr (.inr (.inl (List.replicate 7 0))),
  .inr (.inr (.inl (List.replicate 7 0))),
  .inr (.inr (.inl (List.replicate 7 0))),
  .inr (.inr (.inl (List.replicate 7 0))),
  .inr (.inr (.inl (List.replicate 7 0))),
  .inr (.inr (.inl (List.replicate 7 0))),
  .inr (.inr (.inl (List.replicate 7 0))),
  .inr (.inl (.int, List.replicate 7 0)),
  .inl (4, [.ref 97, .ref 107, .ref 108, .ref 109, .int 0, .int 0]),
  .inr (.inr (.inr (.int, [98, 99, 100, 101, 102, 103, 104, 105, 106]))),
  .inr (.inl (.int, List.replicate 7 0)),
  .inr (.inl (.int, List.replicate 7 0)),
  .inr (.inl (.int, List.replicate 7 0)),
  .inr (.inl (.int, List.replicate 7 0)),
  .inr (.inl (.int, List.replicate 7 0)),
  .inr (.inl (.int, List.replicate 7 0)),
  .inr (.inl (.int, List.replicate 7 0)),
  .inr (.inl (.int, List.replicate 7 0)),
  .inr (.inl (.int, List.replicate 7 0)),
  .inr (.inl (.int, List.replicate 9 0)),
  .inr (.inl (.int, List.replicate 10 0)),
  .inr (.inl (.int, List.replicate 10 0)),
  .inl (4, [.ref 111, .ref 121, .ref 122, .ref 123, .int 0, .int 0]),
  .inr (.inr (.inr (.int, [112, 113, 114, 115, 116, 117, 118, 119, 120]))),
  .inr (.inl (.int, List.replicate 7 0)),
  .inr (.inl (.int, List.replicate 7 0)),
  .inr (.inl (.int, List.replicate 7 0)),
  .inr (.inl (.int, List.replicate 7 0)),
  .inr (.inl (.int, List.replicate 7 0)),
  .inr (.inl (.int, List.replicate 7 0)),
  .inr (.inl (.int, List.replicate 7 0)),
  .inr (.inl (.int, List.replicate 7 0)),
  .inr (.inl (.int, List.replicate 7 0)),
  .inr (.inl (.int, List.replicate 9 0)),
  .inr (.inl (.int, List.replicate 10 0)),
  .inr (.inl (.int, List.replicate 10 0)),
  .inl (10, [.ref 125, .int 0, .int 0, .ref 126, .ref 127, .int 0, .ref 128, .ref 129, .int 0, .int 0, .ref 130, .ref 131, .ref 132, .ref 133, .int 0, .ref 134, .int 0, .ref 135, .ref 136, .int 0, .ref 137, .ref 138]),
  .inr (.inl (.char, List.replicate 100 0)),
  .inr (.inl (.int, List.replicate 77 0)),
  .inr (.inl (.boolean, List.replicate 121 0)),
  .inr (.inl (.int, List.replicate 7 0)),
  .inr (.inl (.int, List.replicate 7 0)),
  .inr (.inl (.int, List.replicate 63 0)),
  .inr (.inl (.boolean, List.replicate 81 0)),
  .inr (.inl (.boolean, [1, 0, 0, 0, 0, 0, 0, 0, 0, 0, 1, 0, 0, 0, 0, 0, 0, 0, 0, 0, 1, 0, 0, 0, 0, 0, 0, 0, 0, 0, 1, 0, 0, 0, 0, 0, 0, 0, 0, 0, 1, 0, 0, 0, 0, 0, 0, 0, 0, 0, 1, 0, 0, 0, 0, 0, 0, 0, 0, 0, 1, 0, 0, 0, 0, 0, 0, 0, 0, 0, 1, 0, 0, 0, 0, 0, 0, 0, 0, 0, 1])),
  .inr (.inl (.int, [0, 1, 2, 3, 4, 5, 6, 7, 8])),
  .inr (.inl (.int, List.replicate 35 0)),
  .inr (.inl (.int, List.replicate 35 0)),
  .inr (.inl (.int, List.replicate 245 0)),
  .inr (.inr (.inl (List.replicate 70 0))),
  .inr (.inl (.int, List.replicate 7 0))]
set_option maxRecDepth 100000 in
theorem z1_readM_6 : zsts zP zFT zCD none 83 2 (110, [some (.ref 124), some (.int (-1)), some (.int 1), some (.int 0)], [], zσ_readM0, 0, 0) = some (114, [some (.ref 124), some (.int (-1)), some (.int 1), some (.int 0)], [.int 0], zσ_readM0, 0, 0) := zeqs_eq (by decide +kernel)
set_option maxRecDepth 100000 in
theorem z1_readM : zR none 83 (0, zent [.ref 124] 4, [], zσ_readX, 0, 0) (some (.int 0), zσ_readM0, 0, 0) := by
  refine zRn_n 1 z1_readM_0 ?_
  refine zRn_call rfl ⟨_, z1_readM_1⟩ rfl ?_
  refine zRn_n 1225 z1_readM_2 ?_
  refine zRn_call rfl ⟨_, z1_readM_3⟩ rfl ?_
  refine zRn_n 16 z1_readM_4 ?_
  refine zRn_call rfl z1_take rfl ?_
  refine zRn_n 2 z1_readM_6 ?_
  exact zRn_ret rfl
set_option maxRecDepth 100000 in
theorem z1_reacX : zrun zP zFT zCD 60000 none 84 (0, zent [.ref 1] 1, [], zσ0, 0, 0) = some (some (.int 0), zσ0, 0, 0) := zeqo_eq (by decide +kernel)
set_option maxRecDepth 100000 in
theorem z1_reacM : zrun zP zFT zCD 60000 none 85 (0, zent [.ref 124] 1, [], zσ0, 0, 0) = some (some (.int 0), zσ0, 0, 0) := zeqo_eq (by decide +kernel)
set_option maxRecDepth 100000 in
theorem z1_complX : zrun zP zFT zCD 60000 none 86 (0, zent [.ref 1] 1, [], zσ0, 0, 0) = some (some (.int 0), zσ0, 0, 0) := zeqo_eq (by decide +kernel)
set_option maxRecDepth 100000 in
theorem z1_complM : zrun zP zFT zCD 60000 none 87 (0, zent [.ref 124] 1, [], zσ0, 0, 0) = some (some (.int 0), zσ0, 0, 0) := zeqo_eq (by decide +kernel)
set_option maxRecDepth 100000 in
theorem z1_occX : zrun zP zFT zCD 60000 none 92 (0, zent [.ref 1] 1, [], zσ0, 0, 0) = some (some (.int 0), zσ0, 0, 0) := zeqo_eq (by decide +kernel)
set_option maxRecDepth 100000 in
theorem z1_occM : zrun zP zFT zCD 60000 none 73 (0, zent [.ref 124] 3, [], zσ0, 0, 0) = some (some (.int 0), zσ0, 0, 0) := zeqo_eq (by decide +kernel)
set_option maxRecDepth 100000 in
theorem z1_linkX : zrun zP zFT zCD 60000 none 93 (0, zent [.ref 1] 1, [], zσ0, 0, 0) = some (some (.int 0), zσ0, 0, 0) := zeqo_eq (by decide +kernel)
set_option maxRecDepth 100000 in
theorem z1_linkM : zrun zP zFT zCD 60000 none 94 (0, zent [.ref 124] 3, [], zσ0, 0, 0) = some (some (.int 0), zσ0, 0, 0) := zeqo_eq (by decide +kernel)
set_option maxRecDepth 100000 in
theorem z1_strongX : zrun zP zFT zCD 60000 none 97 (0, zent [.ref 1] 1, [], zσ0, 0, 0) = some (some (.int 0), zσ0, 0, 0) := zeqo_eq (by decide +kernel)
set_option maxRecDepth 100000 in
theorem z1_strongM : zrun zP zFT zCD 60000 none 99 (0, zent [.ref 124] 3, [], zσ0, 0, 0) = some (some (.int 0), zσ0, 0, 0) := zeqo_eq (by decide +kernel)
set_option maxRecDepth 100000 in
theorem z1_rankX : zrun zP zFT zCD 60000 none 102 (0, zent [.ref 1] 1, [], zσ0, 0, 0) = some (some (.int 0), zσ0, 0, 0) := zeqo_eq (by decide +kernel)
set_option maxRecDepth 100000 in
theorem z1_rankM : zrun zP zFT zCD 60000 none 103 (0, zent [.ref 124] 1, [], zσ0, 0, 0) = some (some (.int 0), zσ0, 0, 0) := zeqo_eq (by decide +kernel)
set_option maxRecDepth 100000 in
theorem z1_nsiphX : zrun zP zFT zCD 60000 none 106 (0, zent [.ref 1] 1, [], zσ0, 0, 0) = some (some (.int 0), zσ0, 0, 0) := zeqo_eq (by decide +kernel)
set_option maxRecDepth 100000 in
theorem z1_nsiphM : zrun zP zFT zCD 60000 none 107 (0, zent [.ref 124] 1, [], zσ0, 0, 0) = some (some (.int 0), zσ0, 0, 0) := zeqo_eq (by decide +kernel)
set_option maxRecDepth 100000 in
theorem z1_sumsX : zrun zP zFT zCD 60000 none 114 (0, zent [.ref 1] 1, [], zσ0, 0, 0) = some (some (.int 0), zσ0, 0, 0) := zeqo_eq (by decide +kernel)
set_option maxRecDepth 100000 in
theorem z1_sumsM : zrun zP zFT zCD 60000 none 115 (0, zent [.ref 124] 1, [], zσ0, 0, 0) = some (some (.int 0), zσ0, 0, 0) := zeqo_eq (by decide +kernel)
set_option maxRecDepth 100000 in
theorem z1_flagsX : zrun zP zFT zCD 60000 none 125 (0, zent [.ref 1] 2, [], zσ0, 0, 0) = some (some (.int 31), zσ0, 0, 0) := zeqo_eq (by decide +kernel)
set_option maxRecDepth 100000 in
theorem z1_flagsM : zrun zP zFT zCD 60000 none 127 (0, zent [.ref 124] 6, [], zσ0, 0, 0) = some (some (.int 31), zσ0, 0, 0) := zeqo_eq (by decide +kernel)
theorem z1_defX (x : Int32) (h : x = -1) : zR none 104 (0, zent [.ref 1, .int x] 2, [], zσ0, 0, 0) (some (.int 0), zσ0, 0, 0) := by
  subst h
  exact zRn_n 14 rfl (zRn_ret rfl)
theorem z1_defX2 (x : Int32) (h : ¬ x = -1) : zR none 104 (0, zent [.ref 1, .int x] 2, [], zσ0, 0, 0) (some (.int (-1)), zσ0, 0, 0) := by
  refine zRn_n 3 rfl ?_
  refine zR_ne (fun h2 => absurd h2 h) (fun _ => ?_)
  refine zRn_n 2 rfl ?_
  refine zR_lt (fun h => zRn_n 1 rfl (zRn_ret rfl)) (fun h => ?_)
  refine zRn_n 5 rfl ?_
  exact zR_lt (fun h2 => absurd h2 h) (fun h2 => zRn_n 1 rfl (zRn_ret rfl))
theorem z1_defM (x : Int32) (h : x = -1) : zR none 105 (0, zent [.ref 124, .int x] 5, [], zσ0, 0, 0) (some (.int 0), zσ0, 0, 0) := by
  subst h
  refine zRn_n 6 rfl ?_
  refine zRn_call rfl ⟨_, z1_linkM⟩ rfl ?_
  refine zRn_n 2 rfl ?_
  refine zRn_call rfl ⟨_, z1_rankM⟩ rfl ?_
  exact zRn_n 1 rfl (zRn_ret rfl)
theorem z1_defM2 (x : Int32) (h : ¬ x = -1) : zR none 105 (0, zent [.ref 124, .int x] 5, [], zσ0, 0, 0) (some (.int (-1)), zσ0, 0, 0) := by
  refine zRn_n 3 rfl ?_
  refine zR_ne (fun h2 => absurd h2 h) (fun _ => ?_)
  exact zRn_n 14 rfl (zRn_ret rfl)
def zσT (x : Int32) : List zC := (zσ0.set 2 (.inr (.inl (.char, (List.replicate 100 0).set 0 (vp_nar .char x))))).set 1 (.inl (1, [.ref 3, .int (0 + Int32.ofInt 1)]))
def zσU (x : Int32) : List zC := ((zσT x).set 124 (.inr (.inl (.char, (List.replicate 100 0).set 0 (vp_nar .char x))))).set 123 (.inl (10, [.ref 125, .int (0 + Int32.ofInt 1), .int 0, .ref 126, .ref 127, .int 0, .ref 128, .ref 129, .int 0, .int 0, .ref 130, .ref 131, .ref 132, .ref 133, .int 0, .ref 134, .int 0, .ref 135, .ref 136, .int 0, .ref 137, .ref 138]))
theorem z1_appN (x : Int32) (h : x < 32 ∨ 126 < x) : zR none 11 (0, zent [.ref 2, .int x] 2, [], zσ0, 0, 0) (some (.int 0), zσ0, 0, 0) := by
  refine zRn_n 3 rfl ?_
  refine zR_lt (fun _ => zRn_n 1 rfl (zRn_ret rfl)) (fun h1 => ?_)
  refine zRn_n 3 rfl ?_
  exact zR_gt (fun _ => zRn_n 1 rfl (zRn_ret rfl)) (fun h2 => absurd h (fun q => q.elim h1 h2))
theorem z1_appY (x : Int32) (h1 : ¬ x < 32) (h2 : ¬ 126 < x) : zR none 11 (0, zent [.ref 2, .int x] 2, [], zσ0, 0, 0) (some (.int 1), zσT x, 0, 0) := by
  refine zRn_n 3 rfl ?_
  refine zR_lt (fun h => absurd h h1) (fun _ => ?_)
  refine zRn_n 3 rfl ?_
  refine zR_gt (fun h => absurd h h2) (fun _ => ?_)
  exact zRn_n 17 rfl (zRn_ret rfl)
theorem z1_typeXN (x : Int32) (h : x < 32 ∨ 126 < x) : zR none 12 (0, zent [.ref 1, .int x] 2, [], zσ0, 0, 0) (some (.int 0), zσ0, 0, 0) := by
  exact zRn_n 3 rfl (zRn_call rfl (z1_appN x h) rfl (zRn_ret rfl))
theorem z1_typeXY (x : Int32) (h1 : ¬ x < 32) (h2 : ¬ 126 < x) : zR none 12 (0, zent [.ref 1, .int x] 2, [], zσ0, 0, 0) (some (.int 1), zσT x, 0, 0) := zRn_n 3 rfl (zRn_call rfl (z1_appY x h1 h2) rfl (zRn_ret rfl))
theorem z1_typeMN (x : Int32) (h : x < 32 ∨ 126 < x) : zR none 13 (0, zent [.ref 124, .int x] 2, [], zσ0, 0, 0) (some (.int 0), zσ0, 0, 0) := by
  refine zRn_n 3 rfl ?_
  refine zR_lt (fun _ => zRn_n 1 rfl (zRn_ret rfl)) (fun h1 => ?_)
  refine zRn_n 3 rfl ?_
  exact zR_gt (fun _ => zRn_n 1 rfl (zRn_ret rfl)) (fun h2 => absurd h (fun q => q.elim h1 h2))
theorem z1_typeMY (x : Int32) (h1 : ¬ x < 32) (h2 : ¬ 126 < x) : zR none 13 (0, zent [.ref 124, .int x] 2, [], (zσT x), 0, 0) (some (.int 1), zσU x, 0, 0) := by
  refine zRn_n 3 rfl ?_
  refine zR_lt (fun h => absurd h h1) (fun _ => ?_)
  refine zRn_n 3 rfl ?_
  refine zR_gt (fun h => absurd h h2) (fun _ => ?_)
  exact zRn_n 17 rfl (zRn_ret rfl)

/-! Static methods without a store, by wip/gen/symx.py: what they answer. -/
def zf_17 (x : Int32) : Int32 := if x < 0 then Int32.ofInt 0 else if ((Int8.ofInt 7).toInt32) ≤ x then Int32.ofInt 0 else Int32.ofInt 1
set_option maxHeartbeats 8000000 in
theorem zr_17 (σ : List zC) (x : Int32) : zR none 17 (0, zent [.int x] 1, [], σ, 0, 0) (some (.int (zf_17 x)), σ, 0, 0) := by
  unfold zf_17
  refine zRn_n 2 rfl ?_
  refine zR_lt (fun h1 => ?_) (fun h1 => ?_)
  · rw [if_pos h1]
    exact zRn_n 1 rfl (zRn_ret rfl)
  · rw [if_neg h1]
    refine zRn_n 3 rfl ?_
    refine zR_ge (fun h2 => ?_) (fun h2 => ?_)
    · rw [if_pos h2]
      exact zRn_n 1 rfl (zRn_ret rfl)
    · rw [if_neg h2]
      exact zRn_n 2 rfl (zRn_ret rfl)
def zf_34 (a b : Int32) : Int32 := if ((a >>> (b &&& 31)) &&& (Int32.ofInt 1)) = 0 then Int32.ofInt 0 else Int32.ofInt 1
set_option maxHeartbeats 8000000 in
theorem zr_34 (σ : List zC) (a b : Int32) : zR none 34 (0, zent [.int a, .int b] 2, [], σ, 0, 0) (some (.int (zf_34 a b)), σ, 0, 0) := by
  unfold zf_34
  refine zRn_n 6 rfl ?_
  refine zR_eq (fun h1 => ?_) (fun h1 => ?_)
  · rw [if_pos h1]
    exact zRn_n 1 rfl (zRn_ret rfl)
  · rw [if_neg h1]
    exact zRn_n 2 rfl (zRn_ret rfl)
def zf_51 (a b : Int32) : Int32 := if (a &&& (b ^^^ (Int32.ofInt (-1)))) = 0 then Int32.ofInt 1 else Int32.ofInt 0
set_option maxHeartbeats 8000000 in
theorem zr_51 (σ : List zC) (a b : Int32) : zR none 51 (0, zent [.int a, .int b] 2, [], σ, 0, 0) (some (.int (zf_51 a b)), σ, 0, 0) := by
  unfold zf_51
  refine zRn_n 6 rfl ?_
  refine zR_ne (fun h1 => ?_) (fun h1 => ?_)
  · rw [if_pos h1]
    exact zRn_n 2 rfl (zRn_ret rfl)
  · rw [if_neg h1]
    exact zRn_n 1 rfl (zRn_ret rfl)
def zf_64 (s c : Int32) : Int32 := if (s &&& ((Int8.ofInt 7).toInt32)) = (Int32.ofInt 2) then if c < ((Int8.ofInt 65).toInt32) then if c < ((Int8.ofInt 49).toInt32) then if c = ((Int8.ofInt 48).toInt32) then if (s &&& ((Int8.ofInt 7).toInt32)) = 0 then s + (Int32.ofInt 3) else Int32.ofInt (-1) else if c = ((Int8.ofInt 43).toInt32) then if (s &&& ((Int8.ofInt 7).toInt32)) = (Int32.ofInt 2) then s + (Int32.ofInt 2) else Int32.ofInt (-1) else if c = ((Int8.ofInt 62).toInt32) then if ((Int8.ofInt 8).toInt32) ≤ s then Int32.ofInt (-1) else (Int8.ofInt 8).toInt32 else if c = ((Int8.ofInt 61).toInt32) then if ((Int8.ofInt 8).toInt32) ≤ s then Int32.ofInt (-1) else (Int8.ofInt 8).toInt32 else if c = ((Int8.ofInt 59).toInt32) then if s < ((Int8.ofInt 8).toInt32) then Int32.ofInt (-1) else Int32.ofInt 0 else Int32.ofInt (-1) else if ((Int8.ofInt 57).toInt32) < c then if c = ((Int8.ofInt 48).toInt32) then if (s &&& ((Int8.ofInt 7).toInt32)) = 0 then s + (Int32.ofInt 3) else Int32.ofInt (-1) else if c = ((Int8.ofInt 43).toInt32) then if (s &&& ((Int8.ofInt 7).toInt32)) = (Int32.ofInt 2) then s + (Int32.ofInt 2) else Int32.ofInt (-1) else if c = ((Int8.ofInt 62).toInt32) then if ((Int8.ofInt 8).toInt32) ≤ s then Int32.ofInt (-1) else (Int8.ofInt 8).toInt32 else if c = ((Int8.ofInt 61).toInt32) then if ((Int8.ofInt 8).toInt32) ≤ s then Int32.ofInt (-1) else (Int8.ofInt 8).toInt32 else if c = ((Int8.ofInt 59).toInt32) then if s < ((Int8.ofInt 8).toInt32) then Int32.ofInt (-1) else Int32.ofInt 0 else Int32.ofInt (-1) else if (s &&& ((Int8.ofInt 7).toInt32)) = 0 then (s - (s &&& ((Int8.ofInt 7).toInt32))) + (Int32.ofInt 1) else if (s &&& ((Int8.ofInt 7).toInt32)) = (Int32.ofInt 4) then (s - (s &&& ((Int8.ofInt 7).toInt32))) + (Int32.ofInt 1) else Int32.ofInt (-1) else if ((Int8.ofInt 71).toInt32) < c then if c < ((Int8.ofInt 49).toInt32) then if c = ((Int8.ofInt 48).toInt32) then if (s &&& ((Int8.ofInt 7).toInt32)) = 0 then s + (Int32.ofInt 3) else Int32.ofInt (-1) else if c = ((Int8.ofInt 43).toInt32) then if (s &&& ((Int8.ofInt 7).toInt32)) = (Int32.ofInt 2) then s + (Int32.ofInt 2) else Int32.ofInt (-1) else if c = ((Int8.ofInt 62).toInt32) then if ((Int8.ofInt 8).toInt32) ≤ s then Int32.ofInt (-1) else (Int8.ofInt 8).toInt32 else if c = ((Int8.ofInt 61).toInt32) then if ((Int8.ofInt 8).toInt32) ≤ s then Int32.ofInt (-1) else (Int8.ofInt 8).toInt32 else if c = ((Int8.ofInt 59).toInt32) then if s < ((Int8.ofInt 8).toInt32) then Int32.ofInt (-1) else Int32.ofInt 0 else Int32.ofInt (-1) else if ((Int8.ofInt 57).toInt32) < c then if c = ((Int8.ofInt 48).toInt32) then if (s &&& ((Int8.ofInt 7).toInt32)) = 0 then s + (Int32.ofInt 3) else Int32.ofInt (-1) else if c = ((Int8.ofInt 43).toInt32) then if (s &&& ((Int8.ofInt 7).toInt32)) = (Int32.ofInt 2) then s + (Int32.ofInt 2) else Int32.ofInt (-1) else if c = ((Int8.ofInt 62).toInt32) then if ((Int8.ofInt 8).toInt32) ≤ s then Int32.ofInt (-1) else (Int8.ofInt 8).toInt32 else if c = ((Int8.ofInt 61).toInt32) then if ((Int8.ofInt 8).toInt32) ≤ s then Int32.ofInt (-1) else (Int8.ofInt 8).toInt32 else if c = ((Int8.ofInt 59).toInt32) then if s < ((Int8.ofInt 8).toInt32) then Int32.ofInt (-1) else Int32.ofInt 0 else Int32.ofInt (-1) else if (s &&& ((Int8.ofInt 7).toInt32)) = 0 then (s - (s &&& ((Int8.ofInt 7).toInt32))) + (Int32.ofInt 1) else if (s &&& ((Int8.ofInt 7).toInt32)) = (Int32.ofInt 4) then (s - (s &&& ((Int8.ofInt 7).toInt32))) + (Int32.ofInt 1) else Int32.ofInt (-1) else if (s &&& ((Int8.ofInt 7).toInt32)) = 0 then (s - (s &&& ((Int8.ofInt 7).toInt32))) + (Int32.ofInt 2) else if (s &&& ((Int8.ofInt 7).toInt32)) = (Int32.ofInt 1) then (s - (s &&& ((Int8.ofInt 7).toInt32))) + (Int32.ofInt 2) else if (s &&& ((Int8.ofInt 7).toInt32)) = (Int32.ofInt 4) then (s - (s &&& ((Int8.ofInt 7).toInt32))) + (Int32.ofInt 2) else Int32.ofInt (-1) else if (s &&& ((Int8.ofInt 7).toInt32)) = (Int32.ofInt 3) then if c < ((Int8.ofInt 65).toInt32) then if c < ((Int8.ofInt 49).toInt32) then if c = ((Int8.ofInt 48).toInt32) then if (s &&& ((Int8.ofInt 7).toInt32)) = 0 then s + (Int32.ofInt 3) else Int32.ofInt (-1) else if c = ((Int8.ofInt 43).toInt32) then if (s &&& ((Int8.ofInt 7).toInt32)) = (Int32.ofInt 2) then s + (Int32.ofInt 2) else Int32.ofInt (-1) else if c = ((Int8.ofInt 62).toInt32) then if ((Int8.ofInt 8).toInt32) ≤ s then Int32.ofInt (-1) else (Int8.ofInt 8).toInt32 else if c = ((Int8.ofInt 61).toInt32) then if ((Int8.ofInt 8).toInt32) ≤ s then Int32.ofInt (-1) else (Int8.ofInt 8).toInt32 else if c = ((Int8.ofInt 59).toInt32) then if s < ((Int8.ofInt 8).toInt32) then Int32.ofInt (-1) else Int32.ofInt 0 else Int32.ofInt (-1) else if ((Int8.ofInt 57).toInt32) < c then if c = ((Int8.ofInt 48).toInt32) then if (s &&& ((Int8.ofInt 7).toInt32)) = 0 then s + (Int32.ofInt 3) else Int32.ofInt (-1) else if c = ((Int8.ofInt 43).toInt32) then if (s &&& ((Int8.ofInt 7).toInt32)) = (Int32.ofInt 2) then s + (Int32.ofInt 2) else Int32.ofInt (-1) else if c = ((Int8.ofInt 62).toInt32) then if ((Int8.ofInt 8).toInt32) ≤ s then Int32.ofInt (-1) else (Int8.ofInt 8).toInt32 else if c = ((Int8.ofInt 61).toInt32) then if ((Int8.ofInt 8).toInt32) ≤ s then Int32.ofInt (-1) else (Int8.ofInt 8).toInt32 else if c = ((Int8.ofInt 59).toInt32) then if s < ((Int8.ofInt 8).toInt32) then Int32.ofInt (-1) else Int32.ofInt 0 else Int32.ofInt (-1) else if (s &&& ((Int8.ofInt 7).toInt32)) = 0 then (s - (s &&& ((Int8.ofInt 7).toInt32))) + (Int32.ofInt 1) else if (s &&& ((Int8.ofInt 7).toInt32)) = (Int32.ofInt 4) then (s - (s &&& ((Int8.ofInt 7).toInt32))) + (Int32.ofInt 1) else Int32.ofInt (-1) else if ((Int8.ofInt 71).toInt32) < c then if c < ((Int8.ofInt 49).toInt32) then if c = ((Int8.ofInt 48).toInt32) then if (s &&& ((Int8.ofInt 7).toInt32)) = 0 then s + (Int32.ofInt 3) else Int32.ofInt (-1) else if c = ((Int8.ofInt 43).toInt32) then if (s &&& ((Int8.ofInt 7).toInt32)) = (Int32.ofInt 2) then s + (Int32.ofInt 2) else Int32.ofInt (-1) else if c = ((Int8.ofInt 62).toInt32) then if ((Int8.ofInt 8).toInt32) ≤ s then Int32.ofInt (-1) else (Int8.ofInt 8).toInt32 else if c = ((Int8.ofInt 61).toInt32) then if ((Int8.ofInt 8).toInt32) ≤ s then Int32.ofInt (-1) else (Int8.ofInt 8).toInt32 else if c = ((Int8.ofInt 59).toInt32) then if s < ((Int8.ofInt 8).toInt32) then Int32.ofInt (-1) else Int32.ofInt 0 else Int32.ofInt (-1) else if ((Int8.ofInt 57).toInt32) < c then if c = ((Int8.ofInt 48).toInt32) then if (s &&& ((Int8.ofInt 7).toInt32)) = 0 then s + (Int32.ofInt 3) else Int32.ofInt (-1) else if c = ((Int8.ofInt 43).toInt32) then if (s &&& ((Int8.ofInt 7).toInt32)) = (Int32.ofInt 2) then s + (Int32.ofInt 2) else Int32.ofInt (-1) else if c = ((Int8.ofInt 62).toInt32) then if ((Int8.ofInt 8).toInt32) ≤ s then Int32.ofInt (-1) else (Int8.ofInt 8).toInt32 else if c = ((Int8.ofInt 61).toInt32) then if ((Int8.ofInt 8).toInt32) ≤ s then Int32.ofInt (-1) else (Int8.ofInt 8).toInt32 else if c = ((Int8.ofInt 59).toInt32) then if s < ((Int8.ofInt 8).toInt32) then Int32.ofInt (-1) else Int32.ofInt 0 else Int32.ofInt (-1) else if (s &&& ((Int8.ofInt 7).toInt32)) = 0 then (s - (s &&& ((Int8.ofInt 7).toInt32))) + (Int32.ofInt 1) else if (s &&& ((Int8.ofInt 7).toInt32)) = (Int32.ofInt 4) then (s - (s &&& ((Int8.ofInt 7).toInt32))) + (Int32.ofInt 1) else Int32.ofInt (-1) else if (s &&& ((Int8.ofInt 7).toInt32)) = 0 then (s - (s &&& ((Int8.ofInt 7).toInt32))) + (Int32.ofInt 2) else if (s &&& ((Int8.ofInt 7).toInt32)) = (Int32.ofInt 1) then (s - (s &&& ((Int8.ofInt 7).toInt32))) + (Int32.ofInt 2) else if (s &&& ((Int8.ofInt 7).toInt32)) = (Int32.ofInt 4) then (s - (s &&& ((Int8.ofInt 7).toInt32))) + (Int32.ofInt 2) else Int32.ofInt (-1) else if c < ((Int8.ofInt 65).toInt32) then if c < ((Int8.ofInt 49).toInt32) then if c = ((Int8.ofInt 48).toInt32) then if (s &&& ((Int8.ofInt 7).toInt32)) = 0 then s + (Int32.ofInt 3) else Int32.ofInt (-1) else if c = ((Int8.ofInt 43).toInt32) then if (s &&& ((Int8.ofInt 7).toInt32)) = (Int32.ofInt 2) then s + (Int32.ofInt 2) else Int32.ofInt (-1) else if c = ((Int8.ofInt 62).toInt32) then Int32.ofInt (-1) else if c = ((Int8.ofInt 61).toInt32) then Int32.ofInt (-1) else if c = ((Int8.ofInt 59).toInt32) then Int32.ofInt (-1) else Int32.ofInt (-1) else if ((Int8.ofInt 57).toInt32) < c then if c = ((Int8.ofInt 48).toInt32) then if (s &&& ((Int8.ofInt 7).toInt32)) = 0 then s + (Int32.ofInt 3) else Int32.ofInt (-1) else if c = ((Int8.ofInt 43).toInt32) then if (s &&& ((Int8.ofInt 7).toInt32)) = (Int32.ofInt 2) then s + (Int32.ofInt 2) else Int32.ofInt (-1) else if c = ((Int8.ofInt 62).toInt32) then Int32.ofInt (-1) else if c = ((Int8.ofInt 61).toInt32) then Int32.ofInt (-1) else if c = ((Int8.ofInt 59).toInt32) then Int32.ofInt (-1) else Int32.ofInt (-1) else if (s &&& ((Int8.ofInt 7).toInt32)) = 0 then (s - (s &&& ((Int8.ofInt 7).toInt32))) + (Int32.ofInt 1) else if (s &&& ((Int8.ofInt 7).toInt32)) = (Int32.ofInt 4) then (s - (s &&& ((Int8.ofInt 7).toInt32))) + (Int32.ofInt 1) else Int32.ofInt (-1) else if ((Int8.ofInt 71).toInt32) < c then if c < ((Int8.ofInt 49).toInt32) then if c = ((Int8.ofInt 48).toInt32) then if (s &&& ((Int8.ofInt 7).toInt32)) = 0 then s + (Int32.ofInt 3) else Int32.ofInt (-1) else if c = ((Int8.ofInt 43).toInt32) then if (s &&& ((Int8.ofInt 7).toInt32)) = (Int32.ofInt 2) then s + (Int32.ofInt 2) else Int32.ofInt (-1) else if c = ((Int8.ofInt 62).toInt32) then Int32.ofInt (-1) else if c = ((Int8.ofInt 61).toInt32) then Int32.ofInt (-1) else if c = ((Int8.ofInt 59).toInt32) then Int32.ofInt (-1) else Int32.ofInt (-1) else if ((Int8.ofInt 57).toInt32) < c then if c = ((Int8.ofInt 48).toInt32) then if (s &&& ((Int8.ofInt 7).toInt32)) = 0 then s + (Int32.ofInt 3) else Int32.ofInt (-1) else if c = ((Int8.ofInt 43).toInt32) then if (s &&& ((Int8.ofInt 7).toInt32)) = (Int32.ofInt 2) then s + (Int32.ofInt 2) else Int32.ofInt (-1) else if c = ((Int8.ofInt 62).toInt32) then Int32.ofInt (-1) else if c = ((Int8.ofInt 61).toInt32) then Int32.ofInt (-1) else if c = ((Int8.ofInt 59).toInt32) then Int32.ofInt (-1) else Int32.ofInt (-1) else if (s &&& ((Int8.ofInt 7).toInt32)) = 0 then (s - (s &&& ((Int8.ofInt 7).toInt32))) + (Int32.ofInt 1) else if (s &&& ((Int8.ofInt 7).toInt32)) = (Int32.ofInt 4) then (s - (s &&& ((Int8.ofInt 7).toInt32))) + (Int32.ofInt 1) else Int32.ofInt (-1) else if (s &&& ((Int8.ofInt 7).toInt32)) = 0 then (s - (s &&& ((Int8.ofInt 7).toInt32))) + (Int32.ofInt 2) else if (s &&& ((Int8.ofInt 7).toInt32)) = (Int32.ofInt 1) then (s - (s &&& ((Int8.ofInt 7).toInt32))) + (Int32.ofInt 2) else if (s &&& ((Int8.ofInt 7).toInt32)) = (Int32.ofInt 4) then (s - (s &&& ((Int8.ofInt 7).toInt32))) + (Int32.ofInt 2) else Int32.ofInt (-1)
set_option maxHeartbeats 8000000 in
theorem zr_64 (σ : List zC) (s c : Int32) : zR none 64 (0, zent [.int s, .int c] 4, [], σ, 0, 0) (some (.int (zf_64 s c)), σ, 0, 0) := by
  unfold zf_64
  refine zRn_n 7 rfl ?_
  refine zR_eq (fun h1 => ?_) (fun h1 => ?_)
  · rw [if_pos h1]
    refine zRn_n 6 rfl ?_
    refine zR_lt (fun h2 => ?_) (fun h2 => ?_)
    · rw [if_pos h2]
      refine zRn_n 3 rfl ?_
      refine zR_lt (fun h3 => ?_) (fun h3 => ?_)
      · rw [if_pos h3]
        refine zRn_n 3 rfl ?_
        refine zR_ne (fun h4 => ?_) (fun h4 => ?_)
        · rw [if_pos h4]
          refine zRn_n 2 rfl ?_
          refine zR_ne (fun h5 => ?_) (fun h5 => ?_)
          · rw [if_pos h5]
            exact zRn_n 4 rfl (zRn_ret rfl)
          · rw [if_neg h5]
            exact zRn_n 1 rfl (zRn_ret rfl)
        · rw [if_neg h4]
          refine zRn_n 3 rfl ?_
          refine zR_ne (fun h6 => ?_) (fun h6 => ?_)
          · rw [if_pos h6]
            refine zRn_n 3 rfl ?_
            refine zR_ne (fun h7 => ?_) (fun h7 => ?_)
            · rw [if_pos h7]
              exact zRn_n 4 rfl (zRn_ret rfl)
            · rw [if_neg h7]
              exact zRn_n 1 rfl (zRn_ret rfl)
          · rw [if_neg h6]
            refine zRn_n 3 rfl ?_
            refine zR_eq (fun h8 => ?_) (fun h8 => ?_)
            · rw [if_pos h8]
              refine zRn_n 5 rfl ?_
              refine zR_ge (fun h9 => ?_) (fun h9 => ?_)
              · rw [if_pos h9]
                exact zRn_n 1 rfl (zRn_ret rfl)
              · rw [if_neg h9]
                exact zRn_n 2 rfl (zRn_ret rfl)
            · rw [if_neg h8]
              refine zRn_n 3 rfl ?_
              refine zR_ne (fun h10 => ?_) (fun h10 => ?_)
              · rw [if_pos h10]
                refine zRn_n 5 rfl ?_
                refine zR_ge (fun h11 => ?_) (fun h11 => ?_)
                · rw [if_pos h11]
                  exact zRn_n 1 rfl (zRn_ret rfl)
                · rw [if_neg h11]
                  exact zRn_n 2 rfl (zRn_ret rfl)
              · rw [if_neg h10]
                refine zRn_n 3 rfl ?_
                refine zR_ne (fun h12 => ?_) (fun h12 => ?_)
                · rw [if_pos h12]
                  refine zRn_n 5 rfl ?_
                  refine zR_lt (fun h13 => ?_) (fun h13 => ?_)
                  · rw [if_pos h13]
                    exact zRn_n 1 rfl (zRn_ret rfl)
                  · rw [if_neg h13]
                    exact zRn_n 2 rfl (zRn_ret rfl)
                · rw [if_neg h12]
                  exact zRn_n 1 rfl (zRn_ret rfl)
      · rw [if_neg h3]
        refine zRn_n 3 rfl ?_
        refine zR_gt (fun h14 => ?_) (fun h14 => ?_)
        · rw [if_pos h14]
          refine zRn_n 3 rfl ?_
          refine zR_ne (fun h15 => ?_) (fun h15 => ?_)
          · rw [if_pos h15]
            refine zRn_n 2 rfl ?_
            refine zR_ne (fun h16 => ?_) (fun h16 => ?_)
            · rw [if_pos h16]
              exact zRn_n 4 rfl (zRn_ret rfl)
            · rw [if_neg h16]
              exact zRn_n 1 rfl (zRn_ret rfl)
          · rw [if_neg h15]
            refine zRn_n 3 rfl ?_
            refine zR_ne (fun h17 => ?_) (fun h17 => ?_)
            · rw [if_pos h17]
              refine zRn_n 3 rfl ?_
              refine zR_ne (fun h18 => ?_) (fun h18 => ?_)
              · rw [if_pos h18]
                exact zRn_n 4 rfl (zRn_ret rfl)
              · rw [if_neg h18]
                exact zRn_n 1 rfl (zRn_ret rfl)
            · rw [if_neg h17]
              refine zRn_n 3 rfl ?_
              refine zR_eq (fun h19 => ?_) (fun h19 => ?_)
              · rw [if_pos h19]
                refine zRn_n 5 rfl ?_
                refine zR_ge (fun h20 => ?_) (fun h20 => ?_)
                · rw [if_pos h20]
                  exact zRn_n 1 rfl (zRn_ret rfl)
                · rw [if_neg h20]
                  exact zRn_n 2 rfl (zRn_ret rfl)
              · rw [if_neg h19]
                refine zRn_n 3 rfl ?_
                refine zR_ne (fun h21 => ?_) (fun h21 => ?_)
                · rw [if_pos h21]
                  refine zRn_n 5 rfl ?_
                  refine zR_ge (fun h22 => ?_) (fun h22 => ?_)
                  · rw [if_pos h22]
                    exact zRn_n 1 rfl (zRn_ret rfl)
                  · rw [if_neg h22]
                    exact zRn_n 2 rfl (zRn_ret rfl)
                · rw [if_neg h21]
                  refine zRn_n 3 rfl ?_
                  refine zR_ne (fun h23 => ?_) (fun h23 => ?_)
                  · rw [if_pos h23]
                    refine zRn_n 5 rfl ?_
                    refine zR_lt (fun h24 => ?_) (fun h24 => ?_)
                    · rw [if_pos h24]
                      exact zRn_n 1 rfl (zRn_ret rfl)
                    · rw [if_neg h24]
                      exact zRn_n 2 rfl (zRn_ret rfl)
                  · rw [if_neg h23]
                    exact zRn_n 1 rfl (zRn_ret rfl)
        · rw [if_neg h14]
          refine zRn_n 2 rfl ?_
          refine zR_eq (fun h25 => ?_) (fun h25 => ?_)
          · rw [if_pos h25]
            exact zRn_n 6 rfl (zRn_ret rfl)
          · rw [if_neg h25]
            refine zRn_n 3 rfl ?_
            refine zR_ne (fun h26 => ?_) (fun h26 => ?_)
            · rw [if_pos h26]
              exact zRn_n 6 rfl (zRn_ret rfl)
            · rw [if_neg h26]
              exact zRn_n 1 rfl (zRn_ret rfl)
    · rw [if_neg h2]
      refine zRn_n 3 rfl ?_
      refine zR_gt (fun h27 => ?_) (fun h27 => ?_)
      · rw [if_pos h27]
        refine zRn_n 3 rfl ?_
        refine zR_lt (fun h28 => ?_) (fun h28 => ?_)
        · rw [if_pos h28]
          refine zRn_n 3 rfl ?_
          refine zR_ne (fun h29 => ?_) (fun h29 => ?_)
          · rw [if_pos h29]
            refine zRn_n 2 rfl ?_
            refine zR_ne (fun h30 => ?_) (fun h30 => ?_)
            · rw [if_pos h30]
              exact zRn_n 4 rfl (zRn_ret rfl)
            · rw [if_neg h30]
              exact zRn_n 1 rfl (zRn_ret rfl)
          · rw [if_neg h29]
            refine zRn_n 3 rfl ?_
            refine zR_ne (fun h31 => ?_) (fun h31 => ?_)
            · rw [if_pos h31]
              refine zRn_n 3 rfl ?_
              refine zR_ne (fun h32 => ?_) (fun h32 => ?_)
              · rw [if_pos h32]
                exact zRn_n 4 rfl (zRn_ret rfl)
              · rw [if_neg h32]
                exact zRn_n 1 rfl (zRn_ret rfl)
            · rw [if_neg h31]
              refine zRn_n 3 rfl ?_
              refine zR_eq (fun h33 => ?_) (fun h33 => ?_)
              · rw [if_pos h33]
                refine zRn_n 5 rfl ?_
                refine zR_ge (fun h34 => ?_) (fun h34 => ?_)
                · rw [if_pos h34]
                  exact zRn_n 1 rfl (zRn_ret rfl)
                · rw [if_neg h34]
                  exact zRn_n 2 rfl (zRn_ret rfl)
              · rw [if_neg h33]
                refine zRn_n 3 rfl ?_
                refine zR_ne (fun h35 => ?_) (fun h35 => ?_)
                · rw [if_pos h35]
                  refine zRn_n 5 rfl ?_
                  refine zR_ge (fun h36 => ?_) (fun h36 => ?_)
                  · rw [if_pos h36]
                    exact zRn_n 1 rfl (zRn_ret rfl)
                  · rw [if_neg h36]
                    exact zRn_n 2 rfl (zRn_ret rfl)
                · rw [if_neg h35]
                  refine zRn_n 3 rfl ?_
                  refine zR_ne (fun h37 => ?_) (fun h37 => ?_)
                  · rw [if_pos h37]
                    refine zRn_n 5 rfl ?_
                    refine zR_lt (fun h38 => ?_) (fun h38 => ?_)
                    · rw [if_pos h38]
                      exact zRn_n 1 rfl (zRn_ret rfl)
                    · rw [if_neg h38]
                      exact zRn_n 2 rfl (zRn_ret rfl)
                  · rw [if_neg h37]
                    exact zRn_n 1 rfl (zRn_ret rfl)
        · rw [if_neg h28]
          refine zRn_n 3 rfl ?_
          refine zR_gt (fun h39 => ?_) (fun h39 => ?_)
          · rw [if_pos h39]
            refine zRn_n 3 rfl ?_
            refine zR_ne (fun h40 => ?_) (fun h40 => ?_)
            · rw [if_pos h40]
              refine zRn_n 2 rfl ?_
              refine zR_ne (fun h41 => ?_) (fun h41 => ?_)
              · rw [if_pos h41]
                exact zRn_n 4 rfl (zRn_ret rfl)
              · rw [if_neg h41]
                exact zRn_n 1 rfl (zRn_ret rfl)
            · rw [if_neg h40]
              refine zRn_n 3 rfl ?_
              refine zR_ne (fun h42 => ?_) (fun h42 => ?_)
              · rw [if_pos h42]
                refine zRn_n 3 rfl ?_
                refine zR_ne (fun h43 => ?_) (fun h43 => ?_)
                · rw [if_pos h43]
                  exact zRn_n 4 rfl (zRn_ret rfl)
                · rw [if_neg h43]
                  exact zRn_n 1 rfl (zRn_ret rfl)
              · rw [if_neg h42]
                refine zRn_n 3 rfl ?_
                refine zR_eq (fun h44 => ?_) (fun h44 => ?_)
                · rw [if_pos h44]
                  refine zRn_n 5 rfl ?_
                  refine zR_ge (fun h45 => ?_) (fun h45 => ?_)
                  · rw [if_pos h45]
                    exact zRn_n 1 rfl (zRn_ret rfl)
                  · rw [if_neg h45]
                    exact zRn_n 2 rfl (zRn_ret rfl)
                · rw [if_neg h44]
                  refine zRn_n 3 rfl ?_
                  refine zR_ne (fun h46 => ?_) (fun h46 => ?_)
                  · rw [if_pos h46]
                    refine zRn_n 5 rfl ?_
                    refine zR_ge (fun h47 => ?_) (fun h47 => ?_)
                    · rw [if_pos h47]
                      exact zRn_n 1 rfl (zRn_ret rfl)
                    · rw [if_neg h47]
                      exact zRn_n 2 rfl (zRn_ret rfl)
                  · rw [if_neg h46]
                    refine zRn_n 3 rfl ?_
                    refine zR_ne (fun h48 => ?_) (fun h48 => ?_)
                    · rw [if_pos h48]
                      refine zRn_n 5 rfl ?_
                      refine zR_lt (fun h49 => ?_) (fun h49 => ?_)
                      · rw [if_pos h49]
                        exact zRn_n 1 rfl (zRn_ret rfl)
                      · rw [if_neg h49]
                        exact zRn_n 2 rfl (zRn_ret rfl)
                    · rw [if_neg h48]
                      exact zRn_n 1 rfl (zRn_ret rfl)
          · rw [if_neg h39]
            refine zRn_n 2 rfl ?_
            refine zR_eq (fun h50 => ?_) (fun h50 => ?_)
            · rw [if_pos h50]
              exact zRn_n 6 rfl (zRn_ret rfl)
            · rw [if_neg h50]
              refine zRn_n 3 rfl ?_
              refine zR_ne (fun h51 => ?_) (fun h51 => ?_)
              · rw [if_pos h51]
                exact zRn_n 6 rfl (zRn_ret rfl)
              · rw [if_neg h51]
                exact zRn_n 1 rfl (zRn_ret rfl)
      · rw [if_neg h27]
        refine zRn_n 2 rfl ?_
        refine zR_eq (fun h52 => ?_) (fun h52 => ?_)
        · rw [if_pos h52]
          exact zRn_n 6 rfl (zRn_ret rfl)
        · rw [if_neg h52]
          refine zRn_n 3 rfl ?_
          refine zR_eq (fun h53 => ?_) (fun h53 => ?_)
          · rw [if_pos h53]
            exact zRn_n 6 rfl (zRn_ret rfl)
          · rw [if_neg h53]
            refine zRn_n 3 rfl ?_
            refine zR_ne (fun h54 => ?_) (fun h54 => ?_)
            · rw [if_pos h54]
              exact zRn_n 6 rfl (zRn_ret rfl)
            · rw [if_neg h54]
              exact zRn_n 1 rfl (zRn_ret rfl)
  · rw [if_neg h1]
    refine zRn_n 3 rfl ?_
    refine zR_ne (fun h55 => ?_) (fun h55 => ?_)
    · rw [if_pos h55]
      refine zRn_n 6 rfl ?_
      refine zR_lt (fun h56 => ?_) (fun h56 => ?_)
      · rw [if_pos h56]
        refine zRn_n 3 rfl ?_
        refine zR_lt (fun h57 => ?_) (fun h57 => ?_)
        · rw [if_pos h57]
          refine zRn_n 3 rfl ?_
          refine zR_ne (fun h58 => ?_) (fun h58 => ?_)
          · rw [if_pos h58]
            refine zRn_n 2 rfl ?_
            refine zR_ne (fun h59 => ?_) (fun h59 => ?_)
            · rw [if_pos h59]
              exact zRn_n 4 rfl (zRn_ret rfl)
            · rw [if_neg h59]
              exact zRn_n 1 rfl (zRn_ret rfl)
          · rw [if_neg h58]
            refine zRn_n 3 rfl ?_
            refine zR_ne (fun h60 => ?_) (fun h60 => ?_)
            · rw [if_pos h60]
              refine zRn_n 3 rfl ?_
              refine zR_ne (fun h61 => ?_) (fun h61 => ?_)
              · rw [if_pos h61]
                exact zRn_n 4 rfl (zRn_ret rfl)
              · rw [if_neg h61]
                exact zRn_n 1 rfl (zRn_ret rfl)
            · rw [if_neg h60]
              refine zRn_n 3 rfl ?_
              refine zR_eq (fun h62 => ?_) (fun h62 => ?_)
              · rw [if_pos h62]
                refine zRn_n 5 rfl ?_
                refine zR_ge (fun h63 => ?_) (fun h63 => ?_)
                · rw [if_pos h63]
                  exact zRn_n 1 rfl (zRn_ret rfl)
                · rw [if_neg h63]
                  exact zRn_n 2 rfl (zRn_ret rfl)
              · rw [if_neg h62]
                refine zRn_n 3 rfl ?_
                refine zR_ne (fun h64 => ?_) (fun h64 => ?_)
                · rw [if_pos h64]
                  refine zRn_n 5 rfl ?_
                  refine zR_ge (fun h65 => ?_) (fun h65 => ?_)
                  · rw [if_pos h65]
                    exact zRn_n 1 rfl (zRn_ret rfl)
                  · rw [if_neg h65]
                    exact zRn_n 2 rfl (zRn_ret rfl)
                · rw [if_neg h64]
                  refine zRn_n 3 rfl ?_
                  refine zR_ne (fun h66 => ?_) (fun h66 => ?_)
                  · rw [if_pos h66]
                    refine zRn_n 5 rfl ?_
                    refine zR_lt (fun h67 => ?_) (fun h67 => ?_)
                    · rw [if_pos h67]
                      exact zRn_n 1 rfl (zRn_ret rfl)
                    · rw [if_neg h67]
                      exact zRn_n 2 rfl (zRn_ret rfl)
                  · rw [if_neg h66]
                    exact zRn_n 1 rfl (zRn_ret rfl)
        · rw [if_neg h57]
          refine zRn_n 3 rfl ?_
          refine zR_gt (fun h68 => ?_) (fun h68 => ?_)
          · rw [if_pos h68]
            refine zRn_n 3 rfl ?_
            refine zR_ne (fun h69 => ?_) (fun h69 => ?_)
            · rw [if_pos h69]
              refine zRn_n 2 rfl ?_
              refine zR_ne (fun h70 => ?_) (fun h70 => ?_)
              · rw [if_pos h70]
                exact zRn_n 4 rfl (zRn_ret rfl)
              · rw [if_neg h70]
                exact zRn_n 1 rfl (zRn_ret rfl)
            · rw [if_neg h69]
              refine zRn_n 3 rfl ?_
              refine zR_ne (fun h71 => ?_) (fun h71 => ?_)
              · rw [if_pos h71]
                refine zRn_n 3 rfl ?_
                refine zR_ne (fun h72 => ?_) (fun h72 => ?_)
                · rw [if_pos h72]
                  exact zRn_n 4 rfl (zRn_ret rfl)
                · rw [if_neg h72]
                  exact zRn_n 1 rfl (zRn_ret rfl)
              · rw [if_neg h71]
                refine zRn_n 3 rfl ?_
                refine zR_eq (fun h73 => ?_) (fun h73 => ?_)
                · rw [if_pos h73]
                  refine zRn_n 5 rfl ?_
                  refine zR_ge (fun h74 => ?_) (fun h74 => ?_)
                  · rw [if_pos h74]
                    exact zRn_n 1 rfl (zRn_ret rfl)
                  · rw [if_neg h74]
                    exact zRn_n 2 rfl (zRn_ret rfl)
                · rw [if_neg h73]
                  refine zRn_n 3 rfl ?_
                  refine zR_ne (fun h75 => ?_) (fun h75 => ?_)
                  · rw [if_pos h75]
                    refine zRn_n 5 rfl ?_
                    refine zR_ge (fun h76 => ?_) (fun h76 => ?_)
                    · rw [if_pos h76]
                      exact zRn_n 1 rfl (zRn_ret rfl)
                    · rw [if_neg h76]
                      exact zRn_n 2 rfl (zRn_ret rfl)
                  · rw [if_neg h75]
                    refine zRn_n 3 rfl ?_
                    refine zR_ne (fun h77 => ?_) (fun h77 => ?_)
                    · rw [if_pos h77]
                      refine zRn_n 5 rfl ?_
                      refine zR_lt (fun h78 => ?_) (fun h78 => ?_)
                      · rw [if_pos h78]
                        exact zRn_n 1 rfl (zRn_ret rfl)
                      · rw [if_neg h78]
                        exact zRn_n 2 rfl (zRn_ret rfl)
                    · rw [if_neg h77]
                      exact zRn_n 1 rfl (zRn_ret rfl)
          · rw [if_neg h68]
            refine zRn_n 2 rfl ?_
            refine zR_eq (fun h79 => ?_) (fun h79 => ?_)
            · rw [if_pos h79]
              exact zRn_n 6 rfl (zRn_ret rfl)
            · rw [if_neg h79]
              refine zRn_n 3 rfl ?_
              refine zR_ne (fun h80 => ?_) (fun h80 => ?_)
              · rw [if_pos h80]
                exact zRn_n 6 rfl (zRn_ret rfl)
              · rw [if_neg h80]
                exact zRn_n 1 rfl (zRn_ret rfl)
      · rw [if_neg h56]
        refine zRn_n 3 rfl ?_
        refine zR_gt (fun h81 => ?_) (fun h81 => ?_)
        · rw [if_pos h81]
          refine zRn_n 3 rfl ?_
          refine zR_lt (fun h82 => ?_) (fun h82 => ?_)
          · rw [if_pos h82]
            refine zRn_n 3 rfl ?_
            refine zR_ne (fun h83 => ?_) (fun h83 => ?_)
            · rw [if_pos h83]
              refine zRn_n 2 rfl ?_
              refine zR_ne (fun h84 => ?_) (fun h84 => ?_)
              · rw [if_pos h84]
                exact zRn_n 4 rfl (zRn_ret rfl)
              · rw [if_neg h84]
                exact zRn_n 1 rfl (zRn_ret rfl)
            · rw [if_neg h83]
              refine zRn_n 3 rfl ?_
              refine zR_ne (fun h85 => ?_) (fun h85 => ?_)
              · rw [if_pos h85]
                refine zRn_n 3 rfl ?_
                refine zR_ne (fun h86 => ?_) (fun h86 => ?_)
                · rw [if_pos h86]
                  exact zRn_n 4 rfl (zRn_ret rfl)
                · rw [if_neg h86]
                  exact zRn_n 1 rfl (zRn_ret rfl)
              · rw [if_neg h85]
                refine zRn_n 3 rfl ?_
                refine zR_eq (fun h87 => ?_) (fun h87 => ?_)
                · rw [if_pos h87]
                  refine zRn_n 5 rfl ?_
                  refine zR_ge (fun h88 => ?_) (fun h88 => ?_)
                  · rw [if_pos h88]
                    exact zRn_n 1 rfl (zRn_ret rfl)
                  · rw [if_neg h88]
                    exact zRn_n 2 rfl (zRn_ret rfl)
                · rw [if_neg h87]
                  refine zRn_n 3 rfl ?_
                  refine zR_ne (fun h89 => ?_) (fun h89 => ?_)
                  · rw [if_pos h89]
                    refine zRn_n 5 rfl ?_
                    refine zR_ge (fun h90 => ?_) (fun h90 => ?_)
                    · rw [if_pos h90]
                      exact zRn_n 1 rfl (zRn_ret rfl)
                    · rw [if_neg h90]
                      exact zRn_n 2 rfl (zRn_ret rfl)
                  · rw [if_neg h89]
                    refine zRn_n 3 rfl ?_
                    refine zR_ne (fun h91 => ?_) (fun h91 => ?_)
                    · rw [if_pos h91]
                      refine zRn_n 5 rfl ?_
                      refine zR_lt (fun h92 => ?_) (fun h92 => ?_)
                      · rw [if_pos h92]
                        exact zRn_n 1 rfl (zRn_ret rfl)
                      · rw [if_neg h92]
                        exact zRn_n 2 rfl (zRn_ret rfl)
                    · rw [if_neg h91]
                      exact zRn_n 1 rfl (zRn_ret rfl)
          · rw [if_neg h82]
            refine zRn_n 3 rfl ?_
            refine zR_gt (fun h93 => ?_) (fun h93 => ?_)
            · rw [if_pos h93]
              refine zRn_n 3 rfl ?_
              refine zR_ne (fun h94 => ?_) (fun h94 => ?_)
              · rw [if_pos h94]
                refine zRn_n 2 rfl ?_
                refine zR_ne (fun h95 => ?_) (fun h95 => ?_)
                · rw [if_pos h95]
                  exact zRn_n 4 rfl (zRn_ret rfl)
                · rw [if_neg h95]
                  exact zRn_n 1 rfl (zRn_ret rfl)
              · rw [if_neg h94]
                refine zRn_n 3 rfl ?_
                refine zR_ne (fun h96 => ?_) (fun h96 => ?_)
                · rw [if_pos h96]
                  refine zRn_n 3 rfl ?_
                  refine zR_ne (fun h97 => ?_) (fun h97 => ?_)
                  · rw [if_pos h97]
                    exact zRn_n 4 rfl (zRn_ret rfl)
                  · rw [if_neg h97]
                    exact zRn_n 1 rfl (zRn_ret rfl)
                · rw [if_neg h96]
                  refine zRn_n 3 rfl ?_
                  refine zR_eq (fun h98 => ?_) (fun h98 => ?_)
                  · rw [if_pos h98]
                    refine zRn_n 5 rfl ?_
                    refine zR_ge (fun h99 => ?_) (fun h99 => ?_)
                    · rw [if_pos h99]
                      exact zRn_n 1 rfl (zRn_ret rfl)
                    · rw [if_neg h99]
                      exact zRn_n 2 rfl (zRn_ret rfl)
                  · rw [if_neg h98]
                    refine zRn_n 3 rfl ?_
                    refine zR_ne (fun h100 => ?_) (fun h100 => ?_)
                    · rw [if_pos h100]
                      refine zRn_n 5 rfl ?_
                      refine zR_ge (fun h101 => ?_) (fun h101 => ?_)
                      · rw [if_pos h101]
                        exact zRn_n 1 rfl (zRn_ret rfl)
                      · rw [if_neg h101]
                        exact zRn_n 2 rfl (zRn_ret rfl)
                    · rw [if_neg h100]
                      refine zRn_n 3 rfl ?_
                      refine zR_ne (fun h102 => ?_) (fun h102 => ?_)
                      · rw [if_pos h102]
                        refine zRn_n 5 rfl ?_
                        refine zR_lt (fun h103 => ?_) (fun h103 => ?_)
                        · rw [if_pos h103]
                          exact zRn_n 1 rfl (zRn_ret rfl)
                        · rw [if_neg h103]
                          exact zRn_n 2 rfl (zRn_ret rfl)
                      · rw [if_neg h102]
                        exact zRn_n 1 rfl (zRn_ret rfl)
            · rw [if_neg h93]
              refine zRn_n 2 rfl ?_
              refine zR_eq (fun h104 => ?_) (fun h104 => ?_)
              · rw [if_pos h104]
                exact zRn_n 6 rfl (zRn_ret rfl)
              · rw [if_neg h104]
                refine zRn_n 3 rfl ?_
                refine zR_ne (fun h105 => ?_) (fun h105 => ?_)
                · rw [if_pos h105]
                  exact zRn_n 6 rfl (zRn_ret rfl)
                · rw [if_neg h105]
                  exact zRn_n 1 rfl (zRn_ret rfl)
        · rw [if_neg h81]
          refine zRn_n 2 rfl ?_
          refine zR_eq (fun h106 => ?_) (fun h106 => ?_)
          · rw [if_pos h106]
            exact zRn_n 6 rfl (zRn_ret rfl)
          · rw [if_neg h106]
            refine zRn_n 3 rfl ?_
            refine zR_eq (fun h107 => ?_) (fun h107 => ?_)
            · rw [if_pos h107]
              exact zRn_n 6 rfl (zRn_ret rfl)
            · rw [if_neg h107]
              refine zRn_n 3 rfl ?_
              refine zR_ne (fun h108 => ?_) (fun h108 => ?_)
              · rw [if_pos h108]
                exact zRn_n 6 rfl (zRn_ret rfl)
              · rw [if_neg h108]
                exact zRn_n 1 rfl (zRn_ret rfl)
    · rw [if_neg h55]
      refine zRn_n 5 rfl ?_
      refine zR_lt (fun h109 => ?_) (fun h109 => ?_)
      · rw [if_pos h109]
        refine zRn_n 3 rfl ?_
        refine zR_lt (fun h110 => ?_) (fun h110 => ?_)
        · rw [if_pos h110]
          refine zRn_n 3 rfl ?_
          refine zR_ne (fun h111 => ?_) (fun h111 => ?_)
          · rw [if_pos h111]
            refine zRn_n 2 rfl ?_
            refine zR_ne (fun h112 => ?_) (fun h112 => ?_)
            · rw [if_pos h112]
              exact zRn_n 4 rfl (zRn_ret rfl)
            · rw [if_neg h112]
              exact zRn_n 1 rfl (zRn_ret rfl)
          · rw [if_neg h111]
            refine zRn_n 3 rfl ?_
            refine zR_ne (fun h113 => ?_) (fun h113 => ?_)
            · rw [if_pos h113]
              refine zRn_n 3 rfl ?_
              refine zR_ne (fun h114 => ?_) (fun h114 => ?_)
              · rw [if_pos h114]
                exact zRn_n 4 rfl (zRn_ret rfl)
              · rw [if_neg h114]
                exact zRn_n 1 rfl (zRn_ret rfl)
            · rw [if_neg h113]
              refine zRn_n 3 rfl ?_
              refine zR_eq (fun h115 => ?_) (fun h115 => ?_)
              · rw [if_pos h115]
                exact zRn_n 3 rfl (zRn_ret rfl)
              · rw [if_neg h115]
                refine zRn_n 3 rfl ?_
                refine zR_ne (fun h116 => ?_) (fun h116 => ?_)
                · rw [if_pos h116]
                  exact zRn_n 3 rfl (zRn_ret rfl)
                · rw [if_neg h116]
                  refine zRn_n 3 rfl ?_
                  refine zR_ne (fun h117 => ?_) (fun h117 => ?_)
                  · rw [if_pos h117]
                    exact zRn_n 3 rfl (zRn_ret rfl)
                  · rw [if_neg h117]
                    exact zRn_n 1 rfl (zRn_ret rfl)
        · rw [if_neg h110]
          refine zRn_n 3 rfl ?_
          refine zR_gt (fun h118 => ?_) (fun h118 => ?_)
          · rw [if_pos h118]
            refine zRn_n 3 rfl ?_
            refine zR_ne (fun h119 => ?_) (fun h119 => ?_)
            · rw [if_pos h119]
              refine zRn_n 2 rfl ?_
              refine zR_ne (fun h120 => ?_) (fun h120 => ?_)
              · rw [if_pos h120]
                exact zRn_n 4 rfl (zRn_ret rfl)
              · rw [if_neg h120]
                exact zRn_n 1 rfl (zRn_ret rfl)
            · rw [if_neg h119]
              refine zRn_n 3 rfl ?_
              refine zR_ne (fun h121 => ?_) (fun h121 => ?_)
              · rw [if_pos h121]
                refine zRn_n 3 rfl ?_
                refine zR_ne (fun h122 => ?_) (fun h122 => ?_)
                · rw [if_pos h122]
                  exact zRn_n 4 rfl (zRn_ret rfl)
                · rw [if_neg h122]
                  exact zRn_n 1 rfl (zRn_ret rfl)
              · rw [if_neg h121]
                refine zRn_n 3 rfl ?_
                refine zR_eq (fun h123 => ?_) (fun h123 => ?_)
                · rw [if_pos h123]
                  exact zRn_n 3 rfl (zRn_ret rfl)
                · rw [if_neg h123]
                  refine zRn_n 3 rfl ?_
                  refine zR_ne (fun h124 => ?_) (fun h124 => ?_)
                  · rw [if_pos h124]
                    exact zRn_n 3 rfl (zRn_ret rfl)
                  · rw [if_neg h124]
                    refine zRn_n 3 rfl ?_
                    refine zR_ne (fun h125 => ?_) (fun h125 => ?_)
                    · rw [if_pos h125]
                      exact zRn_n 3 rfl (zRn_ret rfl)
                    · rw [if_neg h125]
                      exact zRn_n 1 rfl (zRn_ret rfl)
          · rw [if_neg h118]
            refine zRn_n 2 rfl ?_
            refine zR_eq (fun h126 => ?_) (fun h126 => ?_)
            · rw [if_pos h126]
              exact zRn_n 6 rfl (zRn_ret rfl)
            · rw [if_neg h126]
              refine zRn_n 3 rfl ?_
              refine zR_ne (fun h127 => ?_) (fun h127 => ?_)
              · rw [if_pos h127]
                exact zRn_n 6 rfl (zRn_ret rfl)
              · rw [if_neg h127]
                exact zRn_n 1 rfl (zRn_ret rfl)
      · rw [if_neg h109]
        refine zRn_n 3 rfl ?_
        refine zR_gt (fun h128 => ?_) (fun h128 => ?_)
        · rw [if_pos h128]
          refine zRn_n 3 rfl ?_
          refine zR_lt (fun h129 => ?_) (fun h129 => ?_)
          · rw [if_pos h129]
            refine zRn_n 3 rfl ?_
            refine zR_ne (fun h130 => ?_) (fun h130 => ?_)
            · rw [if_pos h130]
              refine zRn_n 2 rfl ?_
              refine zR_ne (fun h131 => ?_) (fun h131 => ?_)
              · rw [if_pos h131]
                exact zRn_n 4 rfl (zRn_ret rfl)
              · rw [if_neg h131]
                exact zRn_n 1 rfl (zRn_ret rfl)
            · rw [if_neg h130]
              refine zRn_n 3 rfl ?_
              refine zR_ne (fun h132 => ?_) (fun h132 => ?_)
              · rw [if_pos h132]
                refine zRn_n 3 rfl ?_
                refine zR_ne (fun h133 => ?_) (fun h133 => ?_)
                · rw [if_pos h133]
                  exact zRn_n 4 rfl (zRn_ret rfl)
                · rw [if_neg h133]
                  exact zRn_n 1 rfl (zRn_ret rfl)
              · rw [if_neg h132]
                refine zRn_n 3 rfl ?_
                refine zR_eq (fun h134 => ?_) (fun h134 => ?_)
                · rw [if_pos h134]
                  exact zRn_n 3 rfl (zRn_ret rfl)
                · rw [if_neg h134]
                  refine zRn_n 3 rfl ?_
                  refine zR_ne (fun h135 => ?_) (fun h135 => ?_)
                  · rw [if_pos h135]
                    exact zRn_n 3 rfl (zRn_ret rfl)
                  · rw [if_neg h135]
                    refine zRn_n 3 rfl ?_
                    refine zR_ne (fun h136 => ?_) (fun h136 => ?_)
                    · rw [if_pos h136]
                      exact zRn_n 3 rfl (zRn_ret rfl)
                    · rw [if_neg h136]
                      exact zRn_n 1 rfl (zRn_ret rfl)
          · rw [if_neg h129]
            refine zRn_n 3 rfl ?_
            refine zR_gt (fun h137 => ?_) (fun h137 => ?_)
            · rw [if_pos h137]
              refine zRn_n 3 rfl ?_
              refine zR_ne (fun h138 => ?_) (fun h138 => ?_)
              · rw [if_pos h138]
                refine zRn_n 2 rfl ?_
                refine zR_ne (fun h139 => ?_) (fun h139 => ?_)
                · rw [if_pos h139]
                  exact zRn_n 4 rfl (zRn_ret rfl)
                · rw [if_neg h139]
                  exact zRn_n 1 rfl (zRn_ret rfl)
              · rw [if_neg h138]
                refine zRn_n 3 rfl ?_
                refine zR_ne (fun h140 => ?_) (fun h140 => ?_)
                · rw [if_pos h140]
                  refine zRn_n 3 rfl ?_
                  refine zR_ne (fun h141 => ?_) (fun h141 => ?_)
                  · rw [if_pos h141]
                    exact zRn_n 4 rfl (zRn_ret rfl)
                  · rw [if_neg h141]
                    exact zRn_n 1 rfl (zRn_ret rfl)
                · rw [if_neg h140]
                  refine zRn_n 3 rfl ?_
                  refine zR_eq (fun h142 => ?_) (fun h142 => ?_)
                  · rw [if_pos h142]
                    exact zRn_n 3 rfl (zRn_ret rfl)
                  · rw [if_neg h142]
                    refine zRn_n 3 rfl ?_
                    refine zR_ne (fun h143 => ?_) (fun h143 => ?_)
                    · rw [if_pos h143]
                      exact zRn_n 3 rfl (zRn_ret rfl)
                    · rw [if_neg h143]
                      refine zRn_n 3 rfl ?_
                      refine zR_ne (fun h144 => ?_) (fun h144 => ?_)
                      · rw [if_pos h144]
                        exact zRn_n 3 rfl (zRn_ret rfl)
                      · rw [if_neg h144]
                        exact zRn_n 1 rfl (zRn_ret rfl)
            · rw [if_neg h137]
              refine zRn_n 2 rfl ?_
              refine zR_eq (fun h145 => ?_) (fun h145 => ?_)
              · rw [if_pos h145]
                exact zRn_n 6 rfl (zRn_ret rfl)
              · rw [if_neg h145]
                refine zRn_n 3 rfl ?_
                refine zR_ne (fun h146 => ?_) (fun h146 => ?_)
                · rw [if_pos h146]
                  exact zRn_n 6 rfl (zRn_ret rfl)
                · rw [if_neg h146]
                  exact zRn_n 1 rfl (zRn_ret rfl)
        · rw [if_neg h128]
          refine zRn_n 2 rfl ?_
          refine zR_eq (fun h147 => ?_) (fun h147 => ?_)
          · rw [if_pos h147]
            exact zRn_n 6 rfl (zRn_ret rfl)
          · rw [if_neg h147]
            refine zRn_n 3 rfl ?_
            refine zR_eq (fun h148 => ?_) (fun h148 => ?_)
            · rw [if_pos h148]
              exact zRn_n 6 rfl (zRn_ret rfl)
            · rw [if_neg h148]
              refine zRn_n 3 rfl ?_
              refine zR_ne (fun h149 => ?_) (fun h149 => ?_)
              · rw [if_pos h149]
                exact zRn_n 6 rfl (zRn_ret rfl)
              · rw [if_neg h149]
                exact zRn_n 1 rfl (zRn_ret rfl)

/-! The methods 0 to 31, instruction by instruction. -/
set_option maxRecDepth 100000 in
theorem zb_0 : zMb zCL zP zm_0 = true := by decide +kernel
set_option maxRecDepth 100000 in
theorem zw_0 : (zMw "SiphonReport" zCL zP zm_0).map some = ([(false, 67), (false, 61), (false, 62), (false, 72), (false, 68)] : List (Bool × Nat)).map (zpl zTs zNs) := rfl
set_option maxRecDepth 100000 in
theorem zs_0 : (zMs zCL zP zm_0).map Prod.fst = (zMs zCL zP zm_0).map Prod.snd := rfl
set_option maxRecDepth 100000 in
theorem zc_0 : zmeth zTs zm_0 := zM_meth (Ns := zNs) (zpl_hold (is := [(false, 66), (false, 43), (false, 65)]) rfl) (by decide +kernel) (by decide +kernel) (plainFor_of_name (by decide +kernel)) (fun _ => ⟨rfl, rfl⟩)
theorem zo_0 : (Nat.ble zm_0.2.2.2.2.2.2.1 2 = true → zmeth zTs zm_0) ∧ ∀ row ∈ zm_0.2.2.2.2.2.2.2.2, zrowok "SiphonReport" zTs zNs zCL zP zm_0 row := ⟨fun _ => zc_0, zM_rows zb_0 (zpl_hold zw_0) zs_0⟩
set_option maxRecDepth 100000 in
theorem zb_1 : zMb zCL zP zm_1 = true := by decide +kernel
set_option maxRecDepth 100000 in
theorem zw_1 : (zMw "SiphonReport" zCL zP zm_1).map some = ([(false, 77), (false, 61), (false, 62)] : List (Bool × Nat)).map (zpl zTs zNs) := rfl
set_option maxRecDepth 100000 in
theorem zs_1 : (zMs zCL zP zm_1).map Prod.fst = (zMs zCL zP zm_1).map Prod.snd := rfl
set_option maxRecDepth 100000 in
theorem zc_1 : zmeth zTs zm_1 := zM_meth (Ns := zNs) (zpl_hold (is := [(false, 76), (false, 44), (false, 75)]) rfl) (by decide +kernel) (by decide +kernel) (plainFor_of_name (by decide +kernel)) (fun _ => ⟨rfl, rfl⟩)
theorem zo_1 : (Nat.ble zm_1.2.2.2.2.2.2.1 2 = true → zmeth zTs zm_1) ∧ ∀ row ∈ zm_1.2.2.2.2.2.2.2.2, zrowok "SiphonReport" zTs zNs zCL zP zm_1 row := ⟨fun _ => zc_1, zM_rows zb_1 (zpl_hold zw_1) zs_1⟩
set_option maxRecDepth 100000 in
theorem zb_2 : zMb zCL zP zm_2 = true := by decide +kernel
set_option maxRecDepth 100000 in
theorem zw_2 : (zMw "SiphonReport" zCL zP zm_2).map some = ([(false, 88), (false, 61), (false, 62), (false, 97), (false, 89), (false, 97), (false, 90)] : List (Bool × Nat)).map (zpl zTs zNs) := rfl
set_option maxRecDepth 100000 in
theorem zs_2 : (zMs zCL zP zm_2).map Prod.fst = (zMs zCL zP zm_2).map Prod.snd := rfl
set_option maxRecDepth 100000 in
theorem zc_2 : zmeth zTs zm_2 := zM_meth (Ns := zNs) (zpl_hold (is := [(false, 87), (false, 45), (false, 86)]) rfl) (by decide +kernel) (by decide +kernel) (plainFor_of_name (by decide +kernel)) (fun _ => ⟨rfl, rfl⟩)
theorem zo_2 : (Nat.ble zm_2.2.2.2.2.2.2.1 2 = true → zmeth zTs zm_2) ∧ ∀ row ∈ zm_2.2.2.2.2.2.2.2.2, zrowok "SiphonReport" zTs zNs zCL zP zm_2 row := ⟨fun _ => zc_2, zM_rows zb_2 (zpl_hold zw_2) zs_2⟩
set_option maxRecDepth 100000 in
theorem zb_3 : zMb zCL zP zm_3 = true := by decide +kernel
set_option maxRecDepth 100000 in
theorem zw_3 : (zMw "SiphonReport" zCL zP zm_3).map some = ([(false, 102), (false, 61), (false, 62), (false, 97), (false, 103), (false, 97), (false, 104), (false, 97), (false, 105), (false, 97), (false, 106), (false, 97), (false, 107)] : List (Bool × Nat)).map (zpl zTs zNs) := rfl
set_option maxRecDepth 100000 in
theorem zs_3 : (zMs zCL zP zm_3).map Prod.fst = (zMs zCL zP zm_3).map Prod.snd := rfl
set_option maxRecDepth 100000 in
theorem zc_3 : zmeth zTs zm_3 := zM_meth (Ns := zNs) (zpl_hold (is := [(false, 101), (false, 46), (false, 100)]) rfl) (by decide +kernel) (by decide +kernel) (plainFor_of_name (by decide +kernel)) (fun _ => ⟨rfl, rfl⟩)
theorem zo_3 : (Nat.ble zm_3.2.2.2.2.2.2.1 2 = true → zmeth zTs zm_3) ∧ ∀ row ∈ zm_3.2.2.2.2.2.2.2.2, zrowok "SiphonReport" zTs zNs zCL zP zm_3 row := ⟨fun _ => zc_3, zM_rows zb_3 (zpl_hold zw_3) zs_3⟩
set_option maxRecDepth 100000 in
theorem zb_4 : zMb zCL zP zm_4 = true := by decide +kernel
set_option maxRecDepth 100000 in
theorem zw_4 : (zMw "SiphonReport" zCL zP zm_4).map some = ([(false, 126), (false, 61), (false, 62), (false, 127), (false, 128), (false, 97), (false, 129)] : List (Bool × Nat)).map (zpl zTs zNs) := rfl
set_option maxRecDepth 100000 in
theorem zs_4 : (zMs zCL zP zm_4).map Prod.fst = (zMs zCL zP zm_4).map Prod.snd := rfl
set_option maxRecDepth 100000 in
theorem zc_4 : zmeth zTs zm_4 := zM_meth (Ns := zNs) (zpl_hold (is := [(false, 125), (false, 48), (false, 124)]) rfl) (by decide +kernel) (by decide +kernel) (plainFor_of_name (by decide +kernel)) (fun _ => ⟨rfl, rfl⟩)
theorem zo_4 : (Nat.ble zm_4.2.2.2.2.2.2.1 2 = true → zmeth zTs zm_4) ∧ ∀ row ∈ zm_4.2.2.2.2.2.2.2.2, zrowok "SiphonReport" zTs zNs zCL zP zm_4 row := ⟨fun _ => zc_4, zM_rows zb_4 (zpl_hold zw_4) zs_4⟩
set_option maxRecDepth 100000 in
theorem zb_5 : zMb zCL zP zm_5 = true := by decide +kernel
set_option maxRecDepth 100000 in
theorem zw_5 : (zMw "SiphonReport" zCL zP zm_5).map some = ([(false, 121), (false, 61), (false, 62), (false, 122), (false, 123), (false, 48), (true, 17), (false, 135), (false, 122), (false, 123), (false, 48), (true, 17), (false, 136), (false, 97), (false, 137)] : List (Bool × Nat)).map (zpl zTs zNs) := rfl
set_option maxRecDepth 100000 in
theorem zs_5 : (zMs zCL zP zm_5).map Prod.fst = (zMs zCL zP zm_5).map Prod.snd := rfl
set_option maxRecDepth 100000 in
theorem zc_5 : zmeth zTs zm_5 := zM_meth (Ns := zNs) (zpl_hold (is := [(false, 120), (false, 47), (false, 119)]) rfl) (by decide +kernel) (by decide +kernel) (plainFor_of_name (by decide +kernel)) (fun _ => ⟨rfl, rfl⟩)
theorem zo_5 : (Nat.ble zm_5.2.2.2.2.2.2.1 2 = true → zmeth zTs zm_5) ∧ ∀ row ∈ zm_5.2.2.2.2.2.2.2.2, zrowok "SiphonReport" zTs zNs zCL zP zm_5 row := ⟨fun _ => zc_5, zM_rows zb_5 (zpl_hold zw_5) zs_5⟩
set_option maxRecDepth 100000 in
theorem zb_6 : zMb zCL zP zm_6 = true := by decide +kernel
set_option maxRecDepth 100000 in
theorem zw_6 : (zMw "SiphonReport" zCL zP zm_6).map some = ([(false, 147), (false, 61), (false, 62), (false, 97), (false, 148)] : List (Bool × Nat)).map (zpl zTs zNs) := rfl
set_option maxRecDepth 100000 in
theorem zs_6 : (zMs zCL zP zm_6).map Prod.fst = (zMs zCL zP zm_6).map Prod.snd := rfl
set_option maxRecDepth 100000 in
theorem zc_6 : zmeth zTs zm_6 := zM_meth (Ns := zNs) (zpl_hold (is := [(false, 146), (false, 49), (false, 145)]) rfl) (by decide +kernel) (by decide +kernel) (plainFor_of_name (by decide +kernel)) (fun _ => ⟨rfl, rfl⟩)
theorem zo_6 : (Nat.ble zm_6.2.2.2.2.2.2.1 2 = true → zmeth zTs zm_6) ∧ ∀ row ∈ zm_6.2.2.2.2.2.2.2.2, zrowok "SiphonReport" zTs zNs zCL zP zm_6 row := ⟨fun _ => zc_6, zM_rows zb_6 (zpl_hold zw_6) zs_6⟩
set_option maxRecDepth 100000 in
theorem zb_7 : zMb zCL zP zm_7 = true := by decide +kernel
set_option maxRecDepth 100000 in
theorem zw_7 : (zMw "SiphonReport" zCL zP zm_7).map some = ([(false, 156), (false, 61), (false, 62), (false, 157), (false, 144), (false, 49), (true, 28), (false, 160), (false, 158), (false, 161), (false, 159), (false, 123), (false, 48), (true, 29), (false, 162)] : List (Bool × Nat)).map (zpl zTs zNs) := rfl
set_option maxRecDepth 100000 in
theorem zs_7 : (zMs zCL zP zm_7).map Prod.fst = (zMs zCL zP zm_7).map Prod.snd := rfl
set_option maxRecDepth 100000 in
theorem zc_7 : zmeth zTs zm_7 := zM_meth (Ns := zNs) (zpl_hold (is := [(false, 155), (false, 50), (false, 154)]) rfl) (by decide +kernel) (by decide +kernel) (plainFor_of_name (by decide +kernel)) (fun _ => ⟨rfl, rfl⟩)
theorem zo_7 : (Nat.ble zm_7.2.2.2.2.2.2.1 2 = true → zmeth zTs zm_7) ∧ ∀ row ∈ zm_7.2.2.2.2.2.2.2.2, zrowok "SiphonReport" zTs zNs zCL zP zm_7 row := ⟨fun _ => zc_7, zM_rows zb_7 (zpl_hold zw_7) zs_7⟩
set_option maxRecDepth 100000 in
theorem zb_8 : zMb zCL zP zm_8 = true := by decide +kernel
set_option maxRecDepth 100000 in
theorem zw_8 : (zMw "SiphonReport" zCL zP zm_8).map some = ([(false, 170), (false, 61), (false, 62), (false, 171), (false, 172), (false, 97), (false, 173), (false, 97), (false, 174), (false, 97), (false, 175)] : List (Bool × Nat)).map (zpl zTs zNs) := rfl
set_option maxRecDepth 100000 in
theorem zs_8 : (zMs zCL zP zm_8).map Prod.fst = (zMs zCL zP zm_8).map Prod.snd := rfl
set_option maxRecDepth 100000 in
theorem zc_8 : zmeth zTs zm_8 := zM_meth (Ns := zNs) (zpl_hold (is := [(false, 169), (false, 51), (false, 168)]) rfl) (by decide +kernel) (by decide +kernel) (plainFor_of_name (by decide +kernel)) (fun _ => ⟨rfl, rfl⟩)
theorem zo_8 : (Nat.ble zm_8.2.2.2.2.2.2.1 2 = true → zmeth zTs zm_8) ∧ ∀ row ∈ zm_8.2.2.2.2.2.2.2.2, zrowok "SiphonReport" zTs zNs zCL zP zm_8 row := ⟨fun _ => zc_8, zM_rows zb_8 (zpl_hold zw_8) zs_8⟩
set_option maxRecDepth 100000 in
theorem zb_9 : zMb zCL zP zm_9 = true := by decide +kernel
set_option maxRecDepth 100000 in
theorem zw_9 : (zMw "SiphonReport" zCL zP zm_9).map some = ([(false, 60), (false, 61), (false, 62), (false, 63), (false, 64), (false, 43), (true, 0), (false, 184), (false, 73), (false, 74), (false, 44), (true, 6), (false, 185), (false, 84), (false, 85), (false, 45), (true, 7), (false, 186), (false, 98), (false, 99), (false, 46), (true, 8), (false, 187), (false, 117), (false, 118), (false, 47), (true, 16), (false, 188), (false, 143), (false, 144), (false, 49), (true, 24), (false, 189), (false, 152), (false, 153), (false, 50), (true, 27), (false, 190), (false, 166), (false, 167), (false, 51), (true, 32), (false, 191), (false, 166), (false, 167), (false, 51), (true, 32), (false, 192)] : List (Bool × Nat)).map (zpl zTs zNs) := rfl
set_option maxRecDepth 100000 in
theorem zs_9 : (zMs zCL zP zm_9).map Prod.fst = (zMs zCL zP zm_9).map Prod.snd := rfl
set_option maxRecDepth 100000 in
theorem zc_9 : zmeth zTs zm_9 := zM_meth (Ns := zNs) (zpl_hold (is := [(false, 59), (false, 42), (false, 58)]) rfl) (by decide +kernel) (by decide +kernel) (plainFor_of_name (by decide +kernel)) (fun _ => ⟨rfl, rfl⟩)
theorem zo_9 : (Nat.ble zm_9.2.2.2.2.2.2.1 2 = true → zmeth zTs zm_9) ∧ ∀ row ∈ zm_9.2.2.2.2.2.2.2.2, zrowok "SiphonReport" zTs zNs zCL zP zm_9 row := ⟨fun _ => zc_9, zM_rows zb_9 (zpl_hold zw_9) zs_9⟩
set_option maxRecDepth 100000 in
theorem zb_10 : zMb zCL zP zm_10 = true := by decide +kernel
set_option maxRecDepth 100000 in
theorem zw_10 : (zMw "SiphonReport" zCL zP zm_10).map some = ([(false, 485), (false, 61), (false, 62), (false, 72), (false, 486), (false, 97), (false, 489), (false, 530), (false, 490), (false, 97), (false, 492), (false, 97), (false, 493), (false, 97), (false, 496), (false, 530), (false, 497), (false, 530), (false, 498), (false, 97), (false, 499), (false, 97), (false, 501), (false, 97), (false, 503), (false, 97), (false, 504), (false, 134), (false, 506), (false, 97), (false, 507)] : List (Bool × Nat)).map (zpl zTs zNs) := rfl
set_option maxRecDepth 100000 in
theorem zs_10 : (zMs zCL zP zm_10).map Prod.fst = (zMs zCL zP zm_10).map Prod.snd := rfl
set_option maxRecDepth 100000 in
theorem zc_10 : zmeth zTs zm_10 := zM_meth (Ns := zNs) (zpl_hold (is := [(false, 484), (false, 52), (false, 483)]) rfl) (by decide +kernel) (by decide +kernel) (plainFor_of_name (by decide +kernel)) (fun _ => ⟨rfl, rfl⟩)
theorem zo_10 : (Nat.ble zm_10.2.2.2.2.2.2.1 2 = true → zmeth zTs zm_10) ∧ ∀ row ∈ zm_10.2.2.2.2.2.2.2.2, zrowok "SiphonReport" zTs zNs zCL zP zm_10 row := ⟨fun _ => zc_10, zM_rows zb_10 (zpl_hold zw_10) zs_10⟩
set_option maxRecDepth 100000 in
theorem zb_11 : zMb zCL zP zm_11 = true := by decide +kernel
set_option maxRecDepth 100000 in
theorem zw_11 : (zMw "SiphonReport" zCL zP zm_11).map some = ([(false, 69), (false, 68), (false, 69), (false, 69), (false, 69)] : List (Bool × Nat)).map (zpl zTs zNs) := rfl
set_option maxRecDepth 100000 in
theorem zs_11 : (zMs zCL zP zm_11).map Prod.fst = (zMs zCL zP zm_11).map Prod.snd := rfl
set_option maxRecDepth 100000 in
theorem zc_11 : zmeth zTs zm_11 := zM_meth (Ns := zNs) (zpl_hold (is := [(false, 209), (false, 43), (false, 207), (false, 208)]) rfl) (by decide +kernel) (by decide +kernel) (plainFor_of_name (by decide +kernel)) (fun h => by cases h)
theorem zo_11 : (Nat.ble zm_11.2.2.2.2.2.2.1 2 = true → zmeth zTs zm_11) ∧ ∀ row ∈ zm_11.2.2.2.2.2.2.2.2, zrowok "SiphonReport" zTs zNs zCL zP zm_11 row := ⟨fun _ => zc_11, zM_rows zb_11 (zpl_hold zw_11) zs_11⟩
set_option maxRecDepth 100000 in
theorem zb_12 : zMb zCL zP zm_12 = true := by decide +kernel
set_option maxRecDepth 100000 in
theorem zw_12 : (zMw "SiphonReport" zCL zP zm_12).map some = ([(false, 184), (false, 206)] : List (Bool × Nat)).map (zpl zTs zNs) := rfl
set_option maxRecDepth 100000 in
theorem zs_12 : (zMs zCL zP zm_12).map Prod.fst = (zMs zCL zP zm_12).map Prod.snd := rfl
set_option maxRecDepth 100000 in
theorem zc_12 : zmeth zTs zm_12 := zM_meth (Ns := zNs) (zpl_hold (is := [(false, 205), (false, 42), (false, 203), (false, 204)]) rfl) (by decide +kernel) (by decide +kernel) (plainFor_of_name (by decide +kernel)) (fun h => by cases h)
theorem zo_12 : (Nat.ble zm_12.2.2.2.2.2.2.1 2 = true → zmeth zTs zm_12) ∧ ∀ row ∈ zm_12.2.2.2.2.2.2.2.2, zrowok "SiphonReport" zTs zNs zCL zP zm_12 row := ⟨fun _ => zc_12, zM_rows zb_12 (zpl_hold zw_12) zs_12⟩
set_option maxRecDepth 100000 in
theorem zb_13 : zMb zCL zP zm_13 = true := by decide +kernel
set_option maxRecDepth 100000 in
theorem zw_13 : (zMw "SiphonReport" zCL zP zm_13).map some = ([(false, 487), (false, 486), (false, 487), (false, 487), (false, 487)] : List (Bool × Nat)).map (zpl zTs zNs) := rfl
set_option maxRecDepth 100000 in
theorem zs_13 : (zMs zCL zP zm_13).map Prod.fst = (zMs zCL zP zm_13).map Prod.snd := rfl
set_option maxRecDepth 100000 in
theorem zc_13 : zmeth zTs zm_13 := zM_meth (Ns := zNs) (zpl_hold (is := [(false, 534), (false, 52), (false, 532), (false, 533)]) rfl) (by decide +kernel) (by decide +kernel) (plainFor_of_name (by decide +kernel)) (fun h => by cases h)
theorem zo_13 : (Nat.ble zm_13.2.2.2.2.2.2.1 2 = true → zmeth zTs zm_13) ∧ ∀ row ∈ zm_13.2.2.2.2.2.2.2.2, zrowok "SiphonReport" zTs zNs zCL zP zm_13 row := ⟨fun _ => zc_13, zM_rows zb_13 (zpl_hold zw_13) zs_13⟩
set_option maxRecDepth 100000 in
theorem zb_14 : zMb zCL zP zm_14 = true := by decide +kernel
set_option maxRecDepth 100000 in
theorem zw_14 : (zMw "SiphonReport" zCL zP zm_14).map some = ([(false, 184), (true, 5)] : List (Bool × Nat)).map (zpl zTs zNs) := rfl
set_option maxRecDepth 100000 in
theorem zs_14 : (zMs zCL zP zm_14).map Prod.fst = (zMs zCL zP zm_14).map Prod.snd := rfl
set_option maxRecDepth 100000 in
theorem zc_14 : zmeth zTs zm_14 := zM_meth (Ns := zNs) (zpl_hold (is := [(false, 213), (false, 42), (false, 211), (false, 212)]) rfl) (by decide +kernel) (by decide +kernel) (plainFor_of_name (by decide +kernel)) (fun h => by cases h)
theorem zo_14 : (Nat.ble zm_14.2.2.2.2.2.2.1 2 = true → zmeth zTs zm_14) ∧ ∀ row ∈ zm_14.2.2.2.2.2.2.2.2, zrowok "SiphonReport" zTs zNs zCL zP zm_14 row := ⟨fun _ => zc_14, zM_rows zb_14 (zpl_hold zw_14) zs_14⟩
set_option maxRecDepth 100000 in
theorem zb_15 : zMb zCL zP zm_15 = true := by decide +kernel
set_option maxRecDepth 100000 in
theorem zw_15 : (zMw "SiphonReport" zCL zP zm_15).map some = ([(false, 487)] : List (Bool × Nat)).map (zpl zTs zNs) := rfl
set_option maxRecDepth 100000 in
theorem zs_15 : (zMs zCL zP zm_15).map Prod.fst = (zMs zCL zP zm_15).map Prod.snd := rfl
set_option maxRecDepth 100000 in
theorem zc_15 : zmeth zTs zm_15 := zM_meth (Ns := zNs) (zpl_hold (is := [(false, 538), (false, 52), (false, 536), (false, 537)]) rfl) (by decide +kernel) (by decide +kernel) (plainFor_of_name (by decide +kernel)) (fun h => by cases h)
theorem zo_15 : (Nat.ble zm_15.2.2.2.2.2.2.1 2 = true → zmeth zTs zm_15) ∧ ∀ row ∈ zm_15.2.2.2.2.2.2.2.2, zrowok "SiphonReport" zTs zNs zCL zP zm_15 row := ⟨fun _ => zc_15, zM_rows zb_15 (zpl_hold zw_15) zs_15⟩
set_option maxRecDepth 100000 in
theorem zb_16 : zMb zCL zP zm_16 = true := by decide +kernel
set_option maxRecDepth 100000 in
theorem zw_16 : (zMw "SiphonReport" zCL zP zm_16).map some = ([(false, 78)] : List (Bool × Nat)).map (zpl zTs zNs) := rfl
set_option maxRecDepth 100000 in
theorem zs_16 : (zMs zCL zP zm_16).map Prod.fst = (zMs zCL zP zm_16).map Prod.snd := rfl
set_option maxRecDepth 100000 in
theorem zc_16 : zmeth zTs zm_16 := zM_meth (Ns := zNs) (zpl_hold (is := [(false, 230), (false, 44), (false, 229), (false, 2)]) rfl) (by decide +kernel) (by decide +kernel) (plainFor_of_name (by decide +kernel)) (fun h => by cases h)
theorem zo_16 : (Nat.ble zm_16.2.2.2.2.2.2.1 2 = true → zmeth zTs zm_16) ∧ ∀ row ∈ zm_16.2.2.2.2.2.2.2.2, zrowok "SiphonReport" zTs zNs zCL zP zm_16 row := ⟨fun _ => zc_16, zM_rows zb_16 (zpl_hold zw_16) zs_16⟩
set_option maxRecDepth 100000 in
theorem zb_17 : zMb zCL zP zm_17 = true := by decide +kernel
set_option maxRecDepth 100000 in
theorem zw_17 : (zMw "SiphonReport" zCL zP zm_17).map some = ([] : List (Bool × Nat)).map (zpl zTs zNs) := rfl
set_option maxRecDepth 100000 in
theorem zs_17 : (zMs zCL zP zm_17).map Prod.fst = (zMs zCL zP zm_17).map Prod.snd := rfl
set_option maxRecDepth 100000 in
theorem zc_17 : zmeth zTs zm_17 := zM_meth (Ns := zNs) (zpl_hold (is := [(false, 238), (false, 42), (false, 237)]) rfl) (by decide +kernel) (by decide +kernel) (plainFor_of_name (by decide +kernel)) (fun h => by cases h)
theorem zo_17 : (Nat.ble zm_17.2.2.2.2.2.2.1 2 = true → zmeth zTs zm_17) ∧ ∀ row ∈ zm_17.2.2.2.2.2.2.2.2, zrowok "SiphonReport" zTs zNs zCL zP zm_17 row := ⟨fun _ => zc_17, zM_rows zb_17 (zpl_hold zw_17) zs_17⟩
set_option maxRecDepth 100000 in
theorem zb_18 : zMb zCL zP zm_18 = true := by decide +kernel
set_option maxRecDepth 100000 in
theorem zw_18 : (zMw "SiphonReport" zCL zP zm_18).map some = ([(true, 47), (false, 228)] : List (Bool × Nat)).map (zpl zTs zNs) := rfl
set_option maxRecDepth 100000 in
theorem zs_18 : (zMs zCL zP zm_18).map Prod.fst = (zMs zCL zP zm_18).map Prod.snd := rfl
set_option maxRecDepth 100000 in
theorem zc_18 : zmeth zTs zm_18 := zM_meth (Ns := zNs) (zpl_hold (is := [(false, 236), (false, 44), (false, 235), (false, 4)]) rfl) (by decide +kernel) (by decide +kernel) (plainFor_of_name (by decide +kernel)) (fun h => by cases h)
theorem zo_18 : (Nat.ble zm_18.2.2.2.2.2.2.1 2 = true → zmeth zTs zm_18) ∧ ∀ row ∈ zm_18.2.2.2.2.2.2.2.2, zrowok "SiphonReport" zTs zNs zCL zP zm_18 row := ⟨fun _ => zc_18, zM_rows zb_18 (zpl_hold zw_18) zs_18⟩
set_option maxRecDepth 100000 in
theorem zb_19 : zMb zCL zP zm_19 = true := by decide +kernel
set_option maxRecDepth 100000 in
theorem zw_19 : (zMw "SiphonReport" zCL zP zm_19).map some = ([(false, 228), (false, 234)] : List (Bool × Nat)).map (zpl zTs zNs) := rfl
set_option maxRecDepth 100000 in
theorem zs_19 : (zMs zCL zP zm_19).map Prod.fst = (zMs zCL zP zm_19).map Prod.snd := rfl
set_option maxRecDepth 100000 in
theorem zc_19 : zmeth zTs zm_19 := zM_meth (Ns := zNs) (zpl_hold (is := [(false, 233), (false, 44), (false, 232), (false, 3)]) rfl) (by decide +kernel) (by decide +kernel) (plainFor_of_name (by decide +kernel)) (fun h => by cases h)
theorem zo_19 : (Nat.ble zm_19.2.2.2.2.2.2.1 2 = true → zmeth zTs zm_19) ∧ ∀ row ∈ zm_19.2.2.2.2.2.2.2.2, zrowok "SiphonReport" zTs zNs zCL zP zm_19 row := ⟨fun _ => zc_19, zM_rows zb_19 (zpl_hold zw_19) zs_19⟩
set_option maxRecDepth 100000 in
theorem zb_20 : zMb zCL zP zm_20 = true := by decide +kernel
set_option maxRecDepth 100000 in
theorem zw_20 : (zMw "SiphonReport" zCL zP zm_20).map some = ([(false, 228), (false, 231)] : List (Bool × Nat)).map (zpl zTs zNs) := rfl
set_option maxRecDepth 100000 in
theorem zs_20 : (zMs zCL zP zm_20).map Prod.fst = (zMs zCL zP zm_20).map Prod.snd := rfl
set_option maxRecDepth 100000 in
theorem zc_20 : zmeth zTs zm_20 := zM_meth (Ns := zNs) (zpl_hold (is := [(false, 227), (false, 44), (false, 226), (false, 1)]) rfl) (by decide +kernel) (by decide +kernel) (plainFor_of_name (by decide +kernel)) (fun h => by cases h)
theorem zo_20 : (Nat.ble zm_20.2.2.2.2.2.2.1 2 = true → zmeth zTs zm_20) ∧ ∀ row ∈ zm_20.2.2.2.2.2.2.2.2, zrowok "SiphonReport" zTs zNs zCL zP zm_20 row := ⟨fun _ => zc_20, zM_rows zb_20 (zpl_hold zw_20) zs_20⟩
set_option maxRecDepth 100000 in
theorem zb_21 : zMb zCL zP zm_21 = true := by decide +kernel
set_option maxRecDepth 100000 in
theorem zw_21 : (zMw "SiphonReport" zCL zP zm_21).map some = ([(false, 228)] : List (Bool × Nat)).map (zpl zTs zNs) := rfl
set_option maxRecDepth 100000 in
theorem zs_21 : (zMs zCL zP zm_21).map Prod.fst = (zMs zCL zP zm_21).map Prod.snd := rfl
set_option maxRecDepth 100000 in
theorem zc_21 : zmeth zTs zm_21 := zM_meth (Ns := zNs) (zpl_hold (is := [(false, 241), (false, 44), (false, 240), (false, 5)]) rfl) (by decide +kernel) (by decide +kernel) (plainFor_of_name (by decide +kernel)) (fun h => by cases h)
theorem zo_21 : (Nat.ble zm_21.2.2.2.2.2.2.1 2 = true → zmeth zTs zm_21) ∧ ∀ row ∈ zm_21.2.2.2.2.2.2.2.2, zrowok "SiphonReport" zTs zNs zCL zP zm_21 row := ⟨fun _ => zc_21, zM_rows zb_21 (zpl_hold zw_21) zs_21⟩
set_option maxRecDepth 100000 in
theorem zb_22 : zMb zCL zP zm_22 = true := by decide +kernel
set_option maxRecDepth 100000 in
theorem zw_22 : (zMw "SiphonReport" zCL zP zm_22).map some = ([(false, 79), (false, 79), (false, 79), (false, 78)] : List (Bool × Nat)).map (zpl zTs zNs) := rfl
set_option maxRecDepth 100000 in
theorem zs_22 : (zMs zCL zP zm_22).map Prod.fst = (zMs zCL zP zm_22).map Prod.snd := rfl
set_option maxRecDepth 100000 in
theorem zc_22 : zmeth zTs zm_22 := zM_meth (Ns := zNs) (zpl_hold (is := [(false, 244), (false, 44), (false, 243), (false, 6)]) rfl) (by decide +kernel) (by decide +kernel) (plainFor_of_name (by decide +kernel)) (fun h => by cases h)
theorem zo_22 : (Nat.ble zm_22.2.2.2.2.2.2.1 2 = true → zmeth zTs zm_22) ∧ ∀ row ∈ zm_22.2.2.2.2.2.2.2.2, zrowok "SiphonReport" zTs zNs zCL zP zm_22 row := ⟨fun _ => zc_22, zM_rows zb_22 (zpl_hold zw_22) zs_22⟩
set_option maxRecDepth 100000 in
theorem zb_23 : zMb zCL zP zm_23 = true := by decide +kernel
set_option maxRecDepth 100000 in
theorem zw_23 : (zMw "SiphonReport" zCL zP zm_23).map some = ([(false, 78), (false, 225), (false, 231), (false, 234), (false, 239), (false, 242), (false, 242)] : List (Bool × Nat)).map (zpl zTs zNs) := rfl
set_option maxRecDepth 100000 in
theorem zs_23 : (zMs zCL zP zm_23).map Prod.fst = (zMs zCL zP zm_23).map Prod.snd := rfl
set_option maxRecDepth 100000 in
theorem zc_23 : zmeth zTs zm_23 := zM_meth (Ns := zNs) (zpl_hold (is := [(false, 224), (false, 44), (false, 223), (false, 0)]) rfl) (by decide +kernel) (by decide +kernel) (plainFor_of_name (by decide +kernel)) (fun h => by cases h)
theorem zo_23 : (Nat.ble zm_23.2.2.2.2.2.2.1 2 = true → zmeth zTs zm_23) ∧ ∀ row ∈ zm_23.2.2.2.2.2.2.2.2, zrowok "SiphonReport" zTs zNs zCL zP zm_23 row := ⟨fun _ => zc_23, zM_rows zb_23 (zpl_hold zw_23) zs_23⟩
set_option maxRecDepth 100000 in
theorem zb_24 : zMb zCL zP zm_24 = true := by decide +kernel
set_option maxRecDepth 100000 in
theorem zw_24 : (zMw "SiphonReport" zCL zP zm_24).map some = ([(false, 78), (false, 79), (false, 80), (true, 4), (true, 2), (false, 222), (false, 80), (true, 4)] : List (Bool × Nat)).map (zpl zTs zNs) := rfl
set_option maxRecDepth 100000 in
theorem zs_24 : (zMs zCL zP zm_24).map Prod.fst = (zMs zCL zP zm_24).map Prod.snd := rfl
set_option maxRecDepth 100000 in
theorem zc_24 : zmeth zTs zm_24 := zM_meth (Ns := zNs) (zpl_hold (is := [(false, 221), (false, 44), (false, 219), (false, 220)]) rfl) (by decide +kernel) (by decide +kernel) (plainFor_of_name (by decide +kernel)) (fun h => by cases h)
theorem zo_24 : (Nat.ble zm_24.2.2.2.2.2.2.1 2 = true → zmeth zTs zm_24) ∧ ∀ row ∈ zm_24.2.2.2.2.2.2.2.2, zrowok "SiphonReport" zTs zNs zCL zP zm_24 row := ⟨fun _ => zc_24, zM_rows zb_24 (zpl_hold zw_24) zs_24⟩
set_option maxRecDepth 100000 in
theorem zb_25 : zMb zCL zP zm_25 = true := by decide +kernel
set_option maxRecDepth 100000 in
theorem zw_25 : (zMw "SiphonReport" zCL zP zm_25).map some = ([(false, 78), (false, 78), (false, 80), (false, 78), (false, 79)] : List (Bool × Nat)).map (zpl zTs zNs) := rfl
set_option maxRecDepth 100000 in
theorem zs_25 : (zMs zCL zP zm_25).map Prod.fst = (zMs zCL zP zm_25).map Prod.snd := rfl
set_option maxRecDepth 100000 in
theorem zc_25 : zmeth zTs zm_25 := zM_meth (Ns := zNs) (zpl_hold (is := [(false, 248), (false, 44), (false, 246), (false, 247)]) rfl) (by decide +kernel) (by decide +kernel) (plainFor_of_name (by decide +kernel)) (fun h => by cases h)
theorem zo_25 : (Nat.ble zm_25.2.2.2.2.2.2.1 2 = true → zmeth zTs zm_25) ∧ ∀ row ∈ zm_25.2.2.2.2.2.2.2.2, zrowok "SiphonReport" zTs zNs zCL zP zm_25 row := ⟨fun _ => zc_25, zM_rows zb_25 (zpl_hold zw_25) zs_25⟩
set_option maxRecDepth 100000 in
theorem zb_26 : zMb zCL zP zm_26 = true := by decide +kernel
set_option maxRecDepth 100000 in
theorem zw_26 : (zMw "SiphonReport" zCL zP zm_26).map some = ([(false, 89), (false, 90), (false, 91), (false, 92)] : List (Bool × Nat)).map (zpl zTs zNs) := rfl
set_option maxRecDepth 100000 in
theorem zs_26 : (zMs zCL zP zm_26).map Prod.fst = (zMs zCL zP zm_26).map Prod.snd := rfl
set_option maxRecDepth 100000 in
theorem zc_26 : zmeth zTs zm_26 := zM_meth (Ns := zNs) (zpl_hold (is := [(false, 255), (false, 45), (false, 254), (false, 7)]) rfl) (by decide +kernel) (by decide +kernel) (plainFor_of_name (by decide +kernel)) (fun h => by cases h)
theorem zo_26 : (Nat.ble zm_26.2.2.2.2.2.2.1 2 = true → zmeth zTs zm_26) ∧ ∀ row ∈ zm_26.2.2.2.2.2.2.2.2, zrowok "SiphonReport" zTs zNs zCL zP zm_26 row := ⟨fun _ => zc_26, zM_rows zb_26 (zpl_hold zw_26) zs_26⟩
set_option maxRecDepth 100000 in
theorem zb_27 : zMb zCL zP zm_27 = true := by decide +kernel
set_option maxRecDepth 100000 in
theorem zw_27 : (zMw "SiphonReport" zCL zP zm_27).map some = ([] : List (Bool × Nat)).map (zpl zTs zNs) := rfl
set_option maxRecDepth 100000 in
theorem zs_27 : (zMs zCL zP zm_27).map Prod.fst = (zMs zCL zP zm_27).map Prod.snd := rfl
set_option maxRecDepth 100000 in
theorem zc_27 : zmeth zTs zm_27 := zM_meth (Ns := zNs) (zpl_hold (is := [(false, 261), (false, 45), (false, 260)]) rfl) (by decide +kernel) (by decide +kernel) (plainFor_of_name (by decide +kernel)) (fun h => by cases h)
theorem zo_27 : (Nat.ble zm_27.2.2.2.2.2.2.1 2 = true → zmeth zTs zm_27) ∧ ∀ row ∈ zm_27.2.2.2.2.2.2.2.2, zrowok "SiphonReport" zTs zNs zCL zP zm_27 row := ⟨fun _ => zc_27, zM_rows zb_27 (zpl_hold zw_27) zs_27⟩
set_option maxRecDepth 100000 in
theorem zb_28 : zMb zCL zP zm_28 = true := by decide +kernel
set_option maxRecDepth 100000 in
theorem zw_28 : (zMw "SiphonReport" zCL zP zm_28).map some = ([] : List (Bool × Nat)).map (zpl zTs zNs) := rfl
set_option maxRecDepth 100000 in
theorem zs_28 : (zMs zCL zP zm_28).map Prod.fst = (zMs zCL zP zm_28).map Prod.snd := rfl
set_option maxRecDepth 100000 in
theorem zc_28 : zmeth zTs zm_28 := zM_meth (Ns := zNs) (zpl_hold (is := [(false, 263), (false, 42), (false, 262)]) rfl) (by decide +kernel) (by decide +kernel) (plainFor_of_name (by decide +kernel)) (fun h => by cases h)
theorem zo_28 : (Nat.ble zm_28.2.2.2.2.2.2.1 2 = true → zmeth zTs zm_28) ∧ ∀ row ∈ zm_28.2.2.2.2.2.2.2.2, zrowok "SiphonReport" zTs zNs zCL zP zm_28 row := ⟨fun _ => zc_28, zM_rows zb_28 (zpl_hold zw_28) zs_28⟩
set_option maxRecDepth 100000 in
theorem zb_29 : zMb zCL zP zm_29 = true := by decide +kernel
set_option maxRecDepth 100000 in
theorem zw_29 : (zMw "SiphonReport" zCL zP zm_29).map some = ([(false, 176), (false, 172), (true, 49), (false, 176), (false, 176), (false, 173), (false, 172), (false, 173), (false, 176), (false, 176)] : List (Bool × Nat)).map (zpl zTs zNs) := rfl
set_option maxRecDepth 100000 in
theorem zs_29 : (zMs zCL zP zm_29).map Prod.fst = (zMs zCL zP zm_29).map Prod.snd := rfl
set_option maxRecDepth 100000 in
theorem zc_29 : zmeth zTs zm_29 := zM_meth (Ns := zNs) (zpl_hold (is := [(false, 267), (false, 51), (false, 265), (false, 266)]) rfl) (by decide +kernel) (by decide +kernel) (plainFor_of_name (by decide +kernel)) (fun h => by cases h)
theorem zo_29 : (Nat.ble zm_29.2.2.2.2.2.2.1 2 = true → zmeth zTs zm_29) ∧ ∀ row ∈ zm_29.2.2.2.2.2.2.2.2, zrowok "SiphonReport" zTs zNs zCL zP zm_29 row := ⟨fun _ => zc_29, zM_rows zb_29 (zpl_hold zw_29) zs_29⟩
set_option maxRecDepth 100000 in
theorem zb_30 : zMb zCL zP zm_30 = true := by decide +kernel
set_option maxRecDepth 100000 in
theorem zw_30 : (zMw "SiphonReport" zCL zP zm_30).map some = ([(false, 177), (false, 174), (false, 175), (false, 177), (false, 174), (false, 177), (false, 175), (false, 177), (false, 177), (false, 177)] : List (Bool × Nat)).map (zpl zTs zNs) := rfl
set_option maxRecDepth 100000 in
theorem zs_30 : (zMs zCL zP zm_30).map Prod.fst = (zMs zCL zP zm_30).map Prod.snd := rfl
set_option maxRecDepth 100000 in
theorem zc_30 : zmeth zTs zm_30 := zM_meth (Ns := zNs) (zpl_hold (is := [(false, 271), (false, 51), (false, 269), (false, 270)]) rfl) (by decide +kernel) (by decide +kernel) (plainFor_of_name (by decide +kernel)) (fun h => by cases h)
theorem zo_30 : (Nat.ble zm_30.2.2.2.2.2.2.1 2 = true → zmeth zTs zm_30) ∧ ∀ row ∈ zm_30.2.2.2.2.2.2.2.2, zrowok "SiphonReport" zTs zNs zCL zP zm_30 row := ⟨fun _ => zc_30, zM_rows zb_30 (zpl_hold zw_30) zs_30⟩
set_option maxRecDepth 100000 in
theorem zb_31 : zMb zCL zP zm_31 = true := by decide +kernel
set_option maxRecDepth 100000 in
theorem zw_31 : (zMw "SiphonReport" zCL zP zm_31).map some = ([(false, 89), (false, 259), (false, 90), (false, 259), (false, 89), (false, 90), (true, 48), (false, 89), (false, 264), (false, 90), (false, 264), (false, 268), (false, 92), (false, 268)] : List (Bool × Nat)).map (zpl zTs zNs) := rfl
set_option maxRecDepth 100000 in
theorem zs_31 : (zMs zCL zP zm_31).map Prod.fst = (zMs zCL zP zm_31).map Prod.snd := rfl
set_option maxRecDepth 100000 in
theorem zc_31 : zmeth zTs zm_31 := zM_meth (Ns := zNs) (zpl_hold (is := [(false, 258), (false, 45), (false, 257), (false, 8)]) rfl) (by decide +kernel) (by decide +kernel) (plainFor_of_name (by decide +kernel)) (fun h => by cases h)
theorem zo_31 : (Nat.ble zm_31.2.2.2.2.2.2.1 2 = true → zmeth zTs zm_31) ∧ ∀ row ∈ zm_31.2.2.2.2.2.2.2.2, zrowok "SiphonReport" zTs zNs zCL zP zm_31 row := ⟨fun _ => zc_31, zM_rows zb_31 (zpl_hold zw_31) zs_31⟩

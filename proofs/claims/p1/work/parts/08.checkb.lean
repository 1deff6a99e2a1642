/-! The methods 32 to 49, instruction by instruction. -/
set_option maxRecDepth 100000 in
theorem zb_32 : zMb zCL zP zm_32 = true := by decide +kernel
set_option maxRecDepth 100000 in
theorem zw_32 : (zMw "SiphonReport" zCL zP zm_32).map some = ([(false, 92), (false, 91), (true, 50), (false, 92), (false, 89), (false, 90), (false, 91), (false, 91)] : List (Bool × Nat)).map (zpl zTs zNs) := rfl
set_option maxRecDepth 100000 in
theorem zs_32 : (zMs zCL zP zm_32).map Prod.fst = (zMs zCL zP zm_32).map Prod.snd := rfl
set_option maxRecDepth 100000 in
theorem zc_32 : zmeth zTs zm_32 := zM_meth (Ns := zNs) (zpl_hold (is := [(false, 274), (false, 45), (false, 273), (false, 9)]) rfl) (by decide +kernel) (by decide +kernel) (plainFor_of_name (by decide +kernel)) (fun h => by cases h)
theorem zo_32 : (Nat.ble zm_32.2.2.2.2.2.2.1 2 = true → zmeth zTs zm_32) ∧ ∀ row ∈ zm_32.2.2.2.2.2.2.2.2, zrowok "SiphonReport" zTs zNs zCL zP zm_32 row := ⟨fun _ => zc_32, zM_rows zb_32 (zpl_hold zw_32) zs_32⟩
set_option maxRecDepth 100000 in
theorem zb_33 : zMb zCL zP zm_33 = true := by decide +kernel
set_option maxRecDepth 100000 in
theorem zw_33 : (zMw "SiphonReport" zCL zP zm_33).map some = ([(true, 41), (true, 43), (false, 253), (true, 3), (true, 1), (false, 256), (false, 253), (false, 272), (false, 92), (false, 256)] : List (Bool × Nat)).map (zpl zTs zNs) := rfl
set_option maxRecDepth 100000 in
theorem zs_33 : (zMs zCL zP zm_33).map Prod.fst = (zMs zCL zP zm_33).map Prod.snd := rfl
set_option maxRecDepth 100000 in
theorem zc_33 : zmeth zTs zm_33 := zM_meth (Ns := zNs) (zpl_hold (is := [(false, 252), (false, 45), (false, 250), (false, 251)]) rfl) (by decide +kernel) (by decide +kernel) (plainFor_of_name (by decide +kernel)) (fun h => by cases h)
theorem zo_33 : (Nat.ble zm_33.2.2.2.2.2.2.1 2 = true → zmeth zTs zm_33) ∧ ∀ row ∈ zm_33.2.2.2.2.2.2.2.2, zrowok "SiphonReport" zTs zNs zCL zP zm_33 row := ⟨fun _ => zc_33, zM_rows zb_33 (zpl_hold zw_33) zs_33⟩
set_option maxRecDepth 100000 in
theorem zb_34 : zMb zCL zP zm_34 = true := by decide +kernel
set_option maxRecDepth 100000 in
theorem zw_34 : (zMw "SiphonReport" zCL zP zm_34).map some = ([] : List (Bool × Nat)).map (zpl zTs zNs) := rfl
set_option maxRecDepth 100000 in
theorem zs_34 : (zMs zCL zP zm_34).map Prod.fst = (zMs zCL zP zm_34).map Prod.snd := rfl
set_option maxRecDepth 100000 in
theorem zc_34 : zmeth zTs zm_34 := zM_meth (Ns := zNs) (zpl_hold (is := [(false, 283), (false, 42), (false, 282)]) rfl) (by decide +kernel) (by decide +kernel) (plainFor_of_name (by decide +kernel)) (fun h => by cases h)
theorem zo_34 : (Nat.ble zm_34.2.2.2.2.2.2.1 2 = true → zmeth zTs zm_34) ∧ ∀ row ∈ zm_34.2.2.2.2.2.2.2.2, zrowok "SiphonReport" zTs zNs zCL zP zm_34 row := ⟨fun _ => zc_34, zM_rows zb_34 (zpl_hold zw_34) zs_34⟩
set_option maxRecDepth 100000 in
theorem zb_35 : zMb zCL zP zm_35 = true := by decide +kernel
set_option maxRecDepth 100000 in
theorem zw_35 : (zMw "SiphonReport" zCL zP zm_35).map some = ([(true, 51)] : List (Bool × Nat)).map (zpl zTs zNs) := rfl
set_option maxRecDepth 100000 in
theorem zs_35 : (zMs zCL zP zm_35).map Prod.fst = (zMs zCL zP zm_35).map Prod.snd := rfl
set_option maxRecDepth 100000 in
theorem zc_35 : zmeth zTs zm_35 := zM_meth (Ns := zNs) (zpl_hold (is := [(false, 281), (false, 46), (false, 280)]) rfl) (by decide +kernel) (by decide +kernel) (plainFor_of_name (by decide +kernel)) (fun h => by cases h)
theorem zo_35 : (Nat.ble zm_35.2.2.2.2.2.2.1 2 = true → zmeth zTs zm_35) ∧ ∀ row ∈ zm_35.2.2.2.2.2.2.2.2, zrowok "SiphonReport" zTs zNs zCL zP zm_35 row := ⟨fun _ => zc_35, zM_rows zb_35 (zpl_hold zw_35) zs_35⟩
set_option maxRecDepth 100000 in
theorem zb_36 : zMb zCL zP zm_36 = true := by decide +kernel
set_option maxRecDepth 100000 in
theorem zw_36 : (zMw "SiphonReport" zCL zP zm_36).map some = ([(true, 51)] : List (Bool × Nat)).map (zpl zTs zNs) := rfl
set_option maxRecDepth 100000 in
theorem zs_36 : (zMs zCL zP zm_36).map Prod.fst = (zMs zCL zP zm_36).map Prod.snd := rfl
set_option maxRecDepth 100000 in
theorem zc_36 : zmeth zTs zm_36 := zM_meth (Ns := zNs) (zpl_hold (is := [(false, 289), (false, 46), (false, 288)]) rfl) (by decide +kernel) (by decide +kernel) (plainFor_of_name (by decide +kernel)) (fun h => by cases h)
theorem zo_36 : (Nat.ble zm_36.2.2.2.2.2.2.1 2 = true → zmeth zTs zm_36) ∧ ∀ row ∈ zm_36.2.2.2.2.2.2.2.2, zrowok "SiphonReport" zTs zNs zCL zP zm_36 row := ⟨fun _ => zc_36, zM_rows zb_36 (zpl_hold zw_36) zs_36⟩
set_option maxRecDepth 100000 in
theorem zb_37 : zMb zCL zP zm_37 = true := by decide +kernel
set_option maxRecDepth 100000 in
theorem zw_37 : (zMw "SiphonReport" zCL zP zm_37).map some = ([(false, 108), (false, 103), (false, 287), (false, 105), (false, 108), (false, 106), (false, 108), (false, 107), (false, 108), (false, 108), (false, 108), (false, 105), (false, 105), (false, 106), (false, 105)] : List (Bool × Nat)).map (zpl zTs zNs) := rfl
set_option maxRecDepth 100000 in
theorem zs_37 : (zMs zCL zP zm_37).map Prod.fst = (zMs zCL zP zm_37).map Prod.snd := rfl
set_option maxRecDepth 100000 in
theorem zc_37 : zmeth zTs zm_37 := zM_meth (Ns := zNs) (zpl_hold (is := [(false, 286), (false, 46), (false, 285), (false, 10)]) rfl) (by decide +kernel) (by decide +kernel) (plainFor_of_name (by decide +kernel)) (fun h => by cases h)
theorem zo_37 : (Nat.ble zm_37.2.2.2.2.2.2.1 2 = true → zmeth zTs zm_37) ∧ ∀ row ∈ zm_37.2.2.2.2.2.2.2.2, zrowok "SiphonReport" zTs zNs zCL zP zm_37 row := ⟨fun _ => zc_37, zM_rows zb_37 (zpl_hold zw_37) zs_37⟩
set_option maxRecDepth 100000 in
theorem zb_38 : zMb zCL zP zm_38 = true := by decide +kernel
set_option maxRecDepth 100000 in
theorem zw_38 : (zMw "SiphonReport" zCL zP zm_38).map some = ([(false, 104), (true, 51), (false, 104), (true, 51)] : List (Bool × Nat)).map (zpl zTs zNs) := rfl
set_option maxRecDepth 100000 in
theorem zs_38 : (zMs zCL zP zm_38).map Prod.fst = (zMs zCL zP zm_38).map Prod.snd := rfl
set_option maxRecDepth 100000 in
theorem zc_38 : zmeth zTs zm_38 := zM_meth (Ns := zNs) (zpl_hold (is := [(false, 295), (false, 46), (false, 294), (false, 12)]) rfl) (by decide +kernel) (by decide +kernel) (plainFor_of_name (by decide +kernel)) (fun h => by cases h)
theorem zo_38 : (Nat.ble zm_38.2.2.2.2.2.2.1 2 = true → zmeth zTs zm_38) ∧ ∀ row ∈ zm_38.2.2.2.2.2.2.2.2, zrowok "SiphonReport" zTs zNs zCL zP zm_38 row := ⟨fun _ => zc_38, zM_rows zb_38 (zpl_hold zw_38) zs_38⟩
set_option maxRecDepth 100000 in
theorem zb_39 : zMb zCL zP zm_39 = true := by decide +kernel
set_option maxRecDepth 100000 in
theorem zw_39 : (zMw "SiphonReport" zCL zP zm_39).map some = ([(false, 293), (false, 104)] : List (Bool × Nat)).map (zpl zTs zNs) := rfl
set_option maxRecDepth 100000 in
theorem zs_39 : (zMs zCL zP zm_39).map Prod.fst = (zMs zCL zP zm_39).map Prod.snd := rfl
set_option maxRecDepth 100000 in
theorem zc_39 : zmeth zTs zm_39 := zM_meth (Ns := zNs) (zpl_hold (is := [(false, 299), (false, 46), (false, 297), (false, 298)]) rfl) (by decide +kernel) (by decide +kernel) (plainFor_of_name (by decide +kernel)) (fun h => by cases h)
theorem zo_39 : (Nat.ble zm_39.2.2.2.2.2.2.1 2 = true → zmeth zTs zm_39) ∧ ∀ row ∈ zm_39.2.2.2.2.2.2.2.2, zrowok "SiphonReport" zTs zNs zCL zP zm_39 row := ⟨fun _ => zc_39, zM_rows zb_39 (zpl_hold zw_39) zs_39⟩
set_option maxRecDepth 100000 in
theorem zb_40 : zMb zCL zP zm_40 = true := by decide +kernel
set_option maxRecDepth 100000 in
theorem zw_40 : (zMw "SiphonReport" zCL zP zm_40).map some = ([(false, 109), (false, 293), (false, 287), (false, 109), (false, 109), (false, 296), (false, 107), (false, 105)] : List (Bool × Nat)).map (zpl zTs zNs) := rfl
set_option maxRecDepth 100000 in
theorem zs_40 : (zMs zCL zP zm_40).map Prod.fst = (zMs zCL zP zm_40).map Prod.snd := rfl
set_option maxRecDepth 100000 in
theorem zc_40 : zmeth zTs zm_40 := zM_meth (Ns := zNs) (zpl_hold (is := [(false, 292), (false, 46), (false, 291), (false, 11)]) rfl) (by decide +kernel) (by decide +kernel) (plainFor_of_name (by decide +kernel)) (fun h => by cases h)
theorem zo_40 : (Nat.ble zm_40.2.2.2.2.2.2.1 2 = true → zmeth zTs zm_40) ∧ ∀ row ∈ zm_40.2.2.2.2.2.2.2.2, zrowok "SiphonReport" zTs zNs zCL zP zm_40 row := ⟨fun _ => zc_40, zM_rows zb_40 (zpl_hold zw_40) zs_40⟩
set_option maxRecDepth 100000 in
theorem zb_41 : zMb zCL zP zm_41 = true := by decide +kernel
set_option maxRecDepth 100000 in
theorem zw_41 : (zMw "SiphonReport" zCL zP zm_41).map some = ([(true, 40), (false, 103), (false, 104), (true, 45), (true, 37), (true, 39), (false, 104), (false, 103), (false, 103), (false, 103), (false, 279), (false, 104), (false, 279), (false, 284), (false, 290)] : List (Bool × Nat)).map (zpl zTs zNs) := rfl
set_option maxRecDepth 100000 in
theorem zs_41 : (zMs zCL zP zm_41).map Prod.fst = (zMs zCL zP zm_41).map Prod.snd := rfl
set_option maxRecDepth 100000 in
theorem zc_41 : zmeth zTs zm_41 := zM_meth (Ns := zNs) (zpl_hold (is := [(false, 278), (false, 46), (false, 276), (false, 277)]) rfl) (by decide +kernel) (by decide +kernel) (plainFor_of_name (by decide +kernel)) (fun h => by cases h)
theorem zo_41 : (Nat.ble zm_41.2.2.2.2.2.2.1 2 = true → zmeth zTs zm_41) ∧ ∀ row ∈ zm_41.2.2.2.2.2.2.2.2, zrowok "SiphonReport" zTs zNs zCL zP zm_41 row := ⟨fun _ => zc_41, zM_rows zb_41 (zpl_hold zw_41) zs_41⟩
set_option maxRecDepth 100000 in
theorem zb_42 : zMb zCL zP zm_42 = true := by decide +kernel
set_option maxRecDepth 100000 in
theorem zw_42 : (zMw "SiphonReport" zCL zP zm_42).map some = ([(false, 130), (true, 33), (true, 35), (true, 33), (true, 38), (false, 128), (false, 130), (false, 130), (false, 130)] : List (Bool × Nat)).map (zpl zTs zNs) := rfl
set_option maxRecDepth 100000 in
theorem zs_42 : (zMs zCL zP zm_42).map Prod.fst = (zMs zCL zP zm_42).map Prod.snd := rfl
set_option maxRecDepth 100000 in
theorem zc_42 : zmeth zTs zm_42 := zM_meth (Ns := zNs) (zpl_hold (is := [(false, 307), (false, 48), (false, 305), (false, 306)]) rfl) (by decide +kernel) (by decide +kernel) (plainFor_of_name (by decide +kernel)) (fun h => by cases h)
theorem zo_42 : (Nat.ble zm_42.2.2.2.2.2.2.1 2 = true → zmeth zTs zm_42) ∧ ∀ row ∈ zm_42.2.2.2.2.2.2.2.2, zrowok "SiphonReport" zTs zNs zCL zP zm_42 row := ⟨fun _ => zc_42, zM_rows zb_42 (zpl_hold zw_42) zs_42⟩
set_option maxRecDepth 100000 in
theorem zb_43 : zMb zCL zP zm_43 = true := by decide +kernel
set_option maxRecDepth 100000 in
theorem zw_43 : (zMw "SiphonReport" zCL zP zm_43).map some = ([(false, 130), (false, 128)] : List (Bool × Nat)).map (zpl zTs zNs) := rfl
set_option maxRecDepth 100000 in
theorem zs_43 : (zMs zCL zP zm_43).map Prod.fst = (zMs zCL zP zm_43).map Prod.snd := rfl
set_option maxRecDepth 100000 in
theorem zc_43 : zmeth zTs zm_43 := zM_meth (Ns := zNs) (zpl_hold (is := [(false, 314), (false, 48), (false, 313), (false, 13)]) rfl) (by decide +kernel) (by decide +kernel) (plainFor_of_name (by decide +kernel)) (fun h => by cases h)
theorem zo_43 : (Nat.ble zm_43.2.2.2.2.2.2.1 2 = true → zmeth zTs zm_43) ∧ ∀ row ∈ zm_43.2.2.2.2.2.2.2.2, zrowok "SiphonReport" zTs zNs zCL zP zm_43 row := ⟨fun _ => zc_43, zM_rows zb_43 (zpl_hold zw_43) zs_43⟩
set_option maxRecDepth 100000 in
theorem zb_44 : zMb zCL zP zm_44 = true := by decide +kernel
set_option maxRecDepth 100000 in
theorem zw_44 : (zMw "SiphonReport" zCL zP zm_44).map some = ([] : List (Bool × Nat)).map (zpl zTs zNs) := rfl
set_option maxRecDepth 100000 in
theorem zs_44 : (zMs zCL zP zm_44).map Prod.fst = (zMs zCL zP zm_44).map Prod.snd := rfl
set_option maxRecDepth 100000 in
theorem zc_44 : zmeth zTs zm_44 := zM_meth (Ns := zNs) (zpl_hold (is := [(false, 325), (false, 53), (false, 324)]) rfl) (by decide +kernel) (by decide +kernel) (by decide +kernel) (fun h => by cases h)
theorem zo_44 : (Nat.ble zm_44.2.2.2.2.2.2.1 2 = true → zmeth zTs zm_44) ∧ ∀ row ∈ zm_44.2.2.2.2.2.2.2.2, zrowok "SiphonReport" zTs zNs zCL zP zm_44 row := ⟨fun _ => zc_44, zM_rows zb_44 (zpl_hold zw_44) zs_44⟩
set_option maxRecDepth 100000 in
theorem zb_45 : zMb zCL zP zm_45 = true := by decide +kernel
set_option maxRecDepth 100000 in
theorem zw_45 : (zMw "SiphonReport" zCL zP zm_45).map some = ([(false, 323), (false, 323)] : List (Bool × Nat)).map (zpl zTs zNs) := rfl
set_option maxRecDepth 100000 in
theorem zs_45 : (zMs zCL zP zm_45).map Prod.fst = (zMs zCL zP zm_45).map Prod.snd := rfl
set_option maxRecDepth 100000 in
theorem zc_45 : zmeth zTs zm_45 := zM_meth (Ns := zNs) (zpl_hold (is := [(false, 322), (false, 42), (false, 321)]) rfl) (by decide +kernel) (by decide +kernel) (plainFor_of_name (by decide +kernel)) (fun h => by cases h)
theorem zo_45 : (Nat.ble zm_45.2.2.2.2.2.2.1 2 = true → zmeth zTs zm_45) ∧ ∀ row ∈ zm_45.2.2.2.2.2.2.2.2, zrowok "SiphonReport" zTs zNs zCL zP zm_45 row := ⟨fun _ => zc_45, zM_rows zb_45 (zpl_hold zw_45) zs_45⟩
set_option maxRecDepth 100000 in
theorem zb_46 : zMb zCL zP zm_46 = true := by decide +kernel
set_option maxRecDepth 100000 in
theorem zw_46 : (zMw "SiphonReport" zCL zP zm_46).map some = ([(true, 52)] : List (Bool × Nat)).map (zpl zTs zNs) := rfl
set_option maxRecDepth 100000 in
theorem zs_46 : (zMs zCL zP zm_46).map Prod.fst = (zMs zCL zP zm_46).map Prod.snd := rfl
set_option maxRecDepth 100000 in
theorem zc_46 : zmeth zTs zm_46 := zM_meth (Ns := zNs) (zpl_hold (is := [(false, 320), (false, 48), (false, 319)]) rfl) (by decide +kernel) (by decide +kernel) (plainFor_of_name (by decide +kernel)) (fun h => by cases h)
theorem zo_46 : (Nat.ble zm_46.2.2.2.2.2.2.1 2 = true → zmeth zTs zm_46) ∧ ∀ row ∈ zm_46.2.2.2.2.2.2.2.2, zrowok "SiphonReport" zTs zNs zCL zP zm_46 row := ⟨fun _ => zc_46, zM_rows zb_46 (zpl_hold zw_46) zs_46⟩
set_option maxRecDepth 100000 in
theorem zb_47 : zMb zCL zP zm_47 = true := by decide +kernel
set_option maxRecDepth 100000 in
theorem zw_47 : (zMw "SiphonReport" zCL zP zm_47).map some = ([(false, 128), (false, 130), (false, 128), (false, 128), (false, 128), (false, 128), (false, 128), (false, 318)] : List (Bool × Nat)).map (zpl zTs zNs) := rfl
set_option maxRecDepth 100000 in
theorem zs_47 : (zMs zCL zP zm_47).map Prod.fst = (zMs zCL zP zm_47).map Prod.snd := rfl
set_option maxRecDepth 100000 in
theorem zc_47 : zmeth zTs zm_47 := zM_meth (Ns := zNs) (zpl_hold (is := [(false, 317), (false, 48), (false, 316), (false, 14)]) rfl) (by decide +kernel) (by decide +kernel) (plainFor_of_name (by decide +kernel)) (fun h => by cases h)
theorem zo_47 : (Nat.ble zm_47.2.2.2.2.2.2.1 2 = true → zmeth zTs zm_47) ∧ ∀ row ∈ zm_47.2.2.2.2.2.2.2.2, zrowok "SiphonReport" zTs zNs zCL zP zm_47 row := ⟨fun _ => zc_47, zM_rows zb_47 (zpl_hold zw_47) zs_47⟩
set_option maxRecDepth 100000 in
theorem zb_48 : zMb zCL zP zm_48 = true := by decide +kernel
set_option maxRecDepth 100000 in
theorem zw_48 : (zMw "SiphonReport" zCL zP zm_48).map some = ([(false, 312), (false, 129), (false, 128), (false, 128), (false, 128), (false, 128), (false, 315), (false, 129), (false, 130)] : List (Bool × Nat)).map (zpl zTs zNs) := rfl
set_option maxRecDepth 100000 in
theorem zs_48 : (zMs zCL zP zm_48).map Prod.fst = (zMs zCL zP zm_48).map Prod.snd := rfl
set_option maxRecDepth 100000 in
theorem zc_48 : zmeth zTs zm_48 := zM_meth (Ns := zNs) (zpl_hold (is := [(false, 311), (false, 48), (false, 309), (false, 310)]) rfl) (by decide +kernel) (by decide +kernel) (plainFor_of_name (by decide +kernel)) (fun h => by cases h)
theorem zo_48 : (Nat.ble zm_48.2.2.2.2.2.2.1 2 = true → zmeth zTs zm_48) ∧ ∀ row ∈ zm_48.2.2.2.2.2.2.2.2, zrowok "SiphonReport" zTs zNs zCL zP zm_48 row := ⟨fun _ => zc_48, zM_rows zb_48 (zpl_hold zw_48) zs_48⟩
set_option maxRecDepth 100000 in
theorem zb_49 : zMb zCL zP zm_49 = true := by decide +kernel
set_option maxRecDepth 100000 in
theorem zw_49 : (zMw "SiphonReport" zCL zP zm_49).map some = ([(true, 13), (false, 136), (true, 20), (true, 44), (true, 9), (true, 36), (false, 136), (false, 304), (false, 137), (false, 136), (false, 308), (false, 135), (true, 20), (true, 44), (false, 135), (false, 304), (false, 135), (false, 308), (false, 138)] : List (Bool × Nat)).map (zpl zTs zNs) := rfl
set_option maxRecDepth 100000 in
theorem zs_49 : (zMs zCL zP zm_49).map Prod.fst = (zMs zCL zP zm_49).map Prod.snd := rfl
set_option maxRecDepth 100000 in
theorem zc_49 : zmeth zTs zm_49 := zM_meth (Ns := zNs) (zpl_hold (is := [(false, 303), (false, 47), (false, 301), (false, 302)]) rfl) (by decide +kernel) (by decide +kernel) (plainFor_of_name (by decide +kernel)) (fun h => by cases h)
theorem zo_49 : (Nat.ble zm_49.2.2.2.2.2.2.1 2 = true → zmeth zTs zm_49) ∧ ∀ row ∈ zm_49.2.2.2.2.2.2.2.2, zrowok "SiphonReport" zTs zNs zCL zP zm_49 row := ⟨fun _ => zc_49, zM_rows zb_49 (zpl_hold zw_49) zs_49⟩

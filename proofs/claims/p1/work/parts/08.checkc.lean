/-! The methods 50 to 67, instruction by instruction. -/
set_option maxRecDepth 100000 in
theorem zb_50 : zMb zCL zP zm_50 = true := by decide +kernel
set_option maxRecDepth 100000 in
theorem zw_50 : (zMw "SiphonReport" zCL zP zm_50).map some = ([(false, 176), (false, 173)] : List (Bool × Nat)).map (zpl zTs zNs) := rfl
set_option maxRecDepth 100000 in
theorem zs_50 : (zMs zCL zP zm_50).map Prod.fst = (zMs zCL zP zm_50).map Prod.snd := rfl
set_option maxRecDepth 100000 in
theorem zc_50 : zmeth zTs zm_50 := zM_meth (Ns := zNs) (zpl_hold (is := [(false, 332), (false, 51), (false, 330), (false, 331)]) rfl) (by decide +kernel) (by decide +kernel) (plainFor_of_name (by decide +kernel)) (fun h => by cases h)
theorem zo_50 : (Nat.ble zm_50.2.2.2.2.2.2.1 2 = true → zmeth zTs zm_50) ∧ ∀ row ∈ zm_50.2.2.2.2.2.2.2.2, zrowok "SiphonReport" zTs zNs zCL zP zm_50 row := ⟨fun _ => zc_50, zM_rows zb_50 (zpl_hold zw_50) zs_50⟩
set_option maxRecDepth 100000 in
theorem zb_51 : zMb zCL zP zm_51 = true := by decide +kernel
set_option maxRecDepth 100000 in
theorem zw_51 : (zMw "SiphonReport" zCL zP zm_51).map some = ([] : List (Bool × Nat)).map (zpl zTs zNs) := rfl
set_option maxRecDepth 100000 in
theorem zs_51 : (zMs zCL zP zm_51).map Prod.fst = (zMs zCL zP zm_51).map Prod.snd := rfl
set_option maxRecDepth 100000 in
theorem zc_51 : zmeth zTs zm_51 := zM_meth (Ns := zNs) (zpl_hold (is := [(false, 335), (false, 42), (false, 334)]) rfl) (by decide +kernel) (by decide +kernel) (plainFor_of_name (by decide +kernel)) (fun h => by cases h)
theorem zo_51 : (Nat.ble zm_51.2.2.2.2.2.2.1 2 = true → zmeth zTs zm_51) ∧ ∀ row ∈ zm_51.2.2.2.2.2.2.2.2, zrowok "SiphonReport" zTs zNs zCL zP zm_51 row := ⟨fun _ => zc_51, zM_rows zb_51 (zpl_hold zw_51) zs_51⟩
set_option maxRecDepth 100000 in
theorem zb_52 : zMb zCL zP zm_52 = true := by decide +kernel
set_option maxRecDepth 100000 in
theorem zw_52 : (zMw "SiphonReport" zCL zP zm_52).map some = ([(false, 149), (false, 148), (true, 53)] : List (Bool × Nat)).map (zpl zTs zNs) := rfl
set_option maxRecDepth 100000 in
theorem zs_52 : (zMs zCL zP zm_52).map Prod.fst = (zMs zCL zP zm_52).map Prod.snd := rfl
set_option maxRecDepth 100000 in
theorem zc_52 : zmeth zTs zm_52 := zM_meth (Ns := zNs) (zpl_hold (is := [(false, 339), (false, 49), (false, 337), (false, 338)]) rfl) (by decide +kernel) (by decide +kernel) (plainFor_of_name (by decide +kernel)) (fun h => by cases h)
theorem zo_52 : (Nat.ble zm_52.2.2.2.2.2.2.1 2 = true → zmeth zTs zm_52) ∧ ∀ row ∈ zm_52.2.2.2.2.2.2.2.2, zrowok "SiphonReport" zTs zNs zCL zP zm_52 row := ⟨fun _ => zc_52, zM_rows zb_52 (zpl_hold zw_52) zs_52⟩
set_option maxRecDepth 100000 in
theorem zb_53 : zMb zCL zP zm_53 = true := by decide +kernel
set_option maxRecDepth 100000 in
theorem zw_53 : (zMw "SiphonReport" zCL zP zm_53).map some = ([(false, 177), (false, 173), (false, 175), (false, 173), (false, 174)] : List (Bool × Nat)).map (zpl zTs zNs) := rfl
set_option maxRecDepth 100000 in
theorem zs_53 : (zMs zCL zP zm_53).map Prod.fst = (zMs zCL zP zm_53).map Prod.snd := rfl
set_option maxRecDepth 100000 in
theorem zc_53 : zmeth zTs zm_53 := zM_meth (Ns := zNs) (zpl_hold (is := [(false, 343), (false, 51), (false, 341), (false, 342)]) rfl) (by decide +kernel) (by decide +kernel) (plainFor_of_name (by decide +kernel)) (fun h => by cases h)
theorem zo_53 : (Nat.ble zm_53.2.2.2.2.2.2.1 2 = true → zmeth zTs zm_53) ∧ ∀ row ∈ zm_53.2.2.2.2.2.2.2.2, zrowok "SiphonReport" zTs zNs zCL zP zm_53 row := ⟨fun _ => zc_53, zM_rows zb_53 (zpl_hold zw_53) zs_53⟩
set_option maxRecDepth 100000 in
theorem zb_54 : zMb zCL zP zm_54 = true := by decide +kernel
set_option maxRecDepth 100000 in
theorem zw_54 : (zMw "SiphonReport" zCL zP zm_54).map some = ([(false, 149), (false, 148), (false, 149), (false, 149), (false, 149)] : List (Bool × Nat)).map (zpl zTs zNs) := rfl
set_option maxRecDepth 100000 in
theorem zs_54 : (zMs zCL zP zm_54).map Prod.fst = (zMs zCL zP zm_54).map Prod.snd := rfl
set_option maxRecDepth 100000 in
theorem zc_54 : zmeth zTs zm_54 := zM_meth (Ns := zNs) (zpl_hold (is := [(false, 347), (false, 49), (false, 345), (false, 346)]) rfl) (by decide +kernel) (by decide +kernel) (plainFor_of_name (by decide +kernel)) (fun h => by cases h)
theorem zo_54 : (Nat.ble zm_54.2.2.2.2.2.2.1 2 = true → zmeth zTs zm_54) ∧ ∀ row ∈ zm_54.2.2.2.2.2.2.2.2, zrowok "SiphonReport" zTs zNs zCL zP zm_54 row := ⟨fun _ => zc_54, zM_rows zb_54 (zpl_hold zw_54) zs_54⟩
set_option maxRecDepth 100000 in
theorem zb_55 : zMb zCL zP zm_55 = true := by decide +kernel
set_option maxRecDepth 100000 in
theorem zw_55 : (zMw "SiphonReport" zCL zP zm_55).map some = ([(false, 189), (true, 26), (false, 191), (false, 329), (false, 333), (false, 189), (false, 336), (false, 191), (false, 340), (false, 189), (false, 344)] : List (Bool × Nat)).map (zpl zTs zNs) := rfl
set_option maxRecDepth 100000 in
theorem zs_55 : (zMs zCL zP zm_55).map Prod.fst = (zMs zCL zP zm_55).map Prod.snd := rfl
set_option maxRecDepth 100000 in
theorem zc_55 : zmeth zTs zm_55 := zM_meth (Ns := zNs) (zpl_hold (is := [(false, 328), (false, 42), (false, 327), (false, 15)]) rfl) (by decide +kernel) (by decide +kernel) (plainFor_of_name (by decide +kernel)) (fun h => by cases h)
theorem zo_55 : (Nat.ble zm_55.2.2.2.2.2.2.1 2 = true → zmeth zTs zm_55) ∧ ∀ row ∈ zm_55.2.2.2.2.2.2.2.2, zrowok "SiphonReport" zTs zNs zCL zP zm_55 row := ⟨fun _ => zc_55, zM_rows zb_55 (zpl_hold zw_55) zs_55⟩
set_option maxRecDepth 100000 in
theorem zb_56 : zMb zCL zP zm_56 = true := by decide +kernel
set_option maxRecDepth 100000 in
theorem zw_56 : (zMw "SiphonReport" zCL zP zm_56).map some = ([(false, 130), (false, 130), (false, 130), (false, 128), (true, 55), (false, 128)] : List (Bool × Nat)).map (zpl zTs zNs) := rfl
set_option maxRecDepth 100000 in
theorem zs_56 : (zMs zCL zP zm_56).map Prod.fst = (zMs zCL zP zm_56).map Prod.snd := rfl
set_option maxRecDepth 100000 in
theorem zc_56 : zmeth zTs zm_56 := zM_meth (Ns := zNs) (zpl_hold (is := [(false, 357), (false, 48), (false, 355), (false, 356)]) rfl) (by decide +kernel) (by decide +kernel) (plainFor_of_name (by decide +kernel)) (fun h => by cases h)
theorem zo_56 : (Nat.ble zm_56.2.2.2.2.2.2.1 2 = true → zmeth zTs zm_56) ∧ ∀ row ∈ zm_56.2.2.2.2.2.2.2.2, zrowok "SiphonReport" zTs zNs zCL zP zm_56 row := ⟨fun _ => zc_56, zM_rows zb_56 (zpl_hold zw_56) zs_56⟩
set_option maxRecDepth 100000 in
theorem zb_57 : zMb zCL zP zm_57 = true := by decide +kernel
set_option maxRecDepth 100000 in
theorem zw_57 : (zMw "SiphonReport" zCL zP zm_57).map some = ([(false, 362), (false, 363), (false, 363), (false, 364)] : List (Bool × Nat)).map (zpl zTs zNs) := rfl
set_option maxRecDepth 100000 in
theorem zs_57 : (zMs zCL zP zm_57).map Prod.fst = (zMs zCL zP zm_57).map Prod.snd := rfl
set_option maxRecDepth 100000 in
theorem zc_57 : zmeth zTs zm_57 := zM_meth (Ns := zNs) (zpl_hold (is := [(false, 361), (false, 54), (false, 360)]) rfl) (by decide +kernel) (by decide +kernel) (by decide +kernel) (fun h => by cases h)
theorem zo_57 : (Nat.ble zm_57.2.2.2.2.2.2.1 2 = true → zmeth zTs zm_57) ∧ ∀ row ∈ zm_57.2.2.2.2.2.2.2.2, zrowok "SiphonReport" zTs zNs zCL zP zm_57 row := ⟨fun _ => zc_57, zM_rows zb_57 (zpl_hold zw_57) zs_57⟩
set_option maxRecDepth 100000 in
theorem zb_58 : zMb zCL zP zm_58 = true := by decide +kernel
set_option maxRecDepth 100000 in
theorem zw_58 : (zMw "SiphonReport" zCL zP zm_58).map some = ([(true, 56), (false, 162), (true, 19)] : List (Bool × Nat)).map (zpl zTs zNs) := rfl
set_option maxRecDepth 100000 in
theorem zs_58 : (zMs zCL zP zm_58).map Prod.fst = (zMs zCL zP zm_58).map Prod.snd := rfl
set_option maxRecDepth 100000 in
theorem zc_58 : zmeth zTs zm_58 := zM_meth (Ns := zNs) (zpl_hold (is := [(false, 370), (false, 50), (false, 369), (false, 17)]) rfl) (by decide +kernel) (by decide +kernel) (plainFor_of_name (by decide +kernel)) (fun h => by cases h)
theorem zo_58 : (Nat.ble zm_58.2.2.2.2.2.2.1 2 = true → zmeth zTs zm_58) ∧ ∀ row ∈ zm_58.2.2.2.2.2.2.2.2, zrowok "SiphonReport" zTs zNs zCL zP zm_58 row := ⟨fun _ => zc_58, zM_rows zb_58 (zpl_hold zw_58) zs_58⟩
set_option maxRecDepth 100000 in
theorem zb_59 : zMb zCL zP zm_59 = true := by decide +kernel
set_option maxRecDepth 100000 in
theorem zw_59 : (zMw "SiphonReport" zCL zP zm_59).map some = ([] : List (Bool × Nat)).map (zpl zTs zNs) := rfl
set_option maxRecDepth 100000 in
theorem zs_59 : (zMs zCL zP zm_59).map Prod.fst = (zMs zCL zP zm_59).map Prod.snd := rfl
set_option maxRecDepth 100000 in
theorem zc_59 : zmeth zTs zm_59 := zM_meth (Ns := zNs) (zpl_hold (is := [(false, 374), (false, 53), (false, 373)]) rfl) (by decide +kernel) (by decide +kernel) (by decide +kernel) (fun h => by cases h)
theorem zo_59 : (Nat.ble zm_59.2.2.2.2.2.2.1 2 = true → zmeth zTs zm_59) ∧ ∀ row ∈ zm_59.2.2.2.2.2.2.2.2, zrowok "SiphonReport" zTs zNs zCL zP zm_59 row := ⟨fun _ => zc_59, zM_rows zb_59 (zpl_hold zw_59) zs_59⟩
set_option maxRecDepth 100000 in
theorem zb_60 : zMb zCL zP zm_60 = true := by decide +kernel
set_option maxRecDepth 100000 in
theorem zw_60 : (zMw "SiphonReport" zCL zP zm_60).map some = ([(false, 162), (true, 19), (false, 162), (true, 18), (false, 162), (true, 18), (false, 162), (true, 18)] : List (Bool × Nat)).map (zpl zTs zNs) := rfl
set_option maxRecDepth 100000 in
theorem zs_60 : (zMs zCL zP zm_60).map Prod.fst = (zMs zCL zP zm_60).map Prod.snd := rfl
set_option maxRecDepth 100000 in
theorem zc_60 : zmeth zTs zm_60 := zM_meth (Ns := zNs) (zpl_hold (is := [(false, 377), (false, 50), (false, 376), (false, 18)]) rfl) (by decide +kernel) (by decide +kernel) (plainFor_of_name (by decide +kernel)) (fun h => by cases h)
theorem zo_60 : (Nat.ble zm_60.2.2.2.2.2.2.1 2 = true → zmeth zTs zm_60) ∧ ∀ row ∈ zm_60.2.2.2.2.2.2.2.2, zrowok "SiphonReport" zTs zNs zCL zP zm_60 row := ⟨fun _ => zc_60, zM_rows zb_60 (zpl_hold zw_60) zs_60⟩
set_option maxRecDepth 100000 in
theorem zb_61 : zMb zCL zP zm_61 = true := by decide +kernel
set_option maxRecDepth 100000 in
theorem zw_61 : (zMw "SiphonReport" zCL zP zm_61).map some = ([(false, 368), (false, 162), (true, 19), (false, 162), (true, 18), (false, 162), (true, 18), (false, 371), (true, 57), (false, 372), (true, 57), (false, 372), (false, 160), (true, 25), (false, 161), (false, 160), (true, 25), (false, 375), (false, 160), (false, 378)] : List (Bool × Nat)).map (zpl zTs zNs) := rfl
set_option maxRecDepth 100000 in
theorem zs_61 : (zMs zCL zP zm_61).map Prod.fst = (zMs zCL zP zm_61).map Prod.snd := rfl
set_option maxRecDepth 100000 in
theorem zc_61 : zmeth zTs zm_61 := zM_meth (Ns := zNs) (zpl_hold (is := [(false, 367), (false, 50), (false, 366), (false, 16)]) rfl) (by decide +kernel) (by decide +kernel) (plainFor_of_name (by decide +kernel)) (fun h => by cases h)
theorem zo_61 : (Nat.ble zm_61.2.2.2.2.2.2.1 2 = true → zmeth zTs zm_61) ∧ ∀ row ∈ zm_61.2.2.2.2.2.2.2.2, zrowok "SiphonReport" zTs zNs zCL zP zm_61 row := ⟨fun _ => zc_61, zM_rows zb_61 (zpl_hold zw_61) zs_61⟩
set_option maxRecDepth 100000 in
theorem zb_62 : zMb zCL zP zm_62 = true := by decide +kernel
set_option maxRecDepth 100000 in
theorem zw_62 : (zMw "SiphonReport" zCL zP zm_62).map some = ([(false, 160), (true, 25), (false, 352), (true, 54), (false, 160), (false, 353), (false, 162), (false, 354), (false, 162), (false, 358), (false, 359), (false, 365)] : List (Bool × Nat)).map (zpl zTs zNs) := rfl
set_option maxRecDepth 100000 in
theorem zs_62 : (zMs zCL zP zm_62).map Prod.fst = (zMs zCL zP zm_62).map Prod.snd := rfl
set_option maxRecDepth 100000 in
theorem zc_62 : zmeth zTs zm_62 := zM_meth (Ns := zNs) (zpl_hold (is := [(false, 351), (false, 50), (false, 349), (false, 350)]) rfl) (by decide +kernel) (by decide +kernel) (plainFor_of_name (by decide +kernel)) (fun h => by cases h)
theorem zo_62 : (Nat.ble zm_62.2.2.2.2.2.2.1 2 = true → zmeth zTs zm_62) ∧ ∀ row ∈ zm_62.2.2.2.2.2.2.2.2, zrowok "SiphonReport" zTs zNs zCL zP zm_62 row := ⟨fun _ => zc_62, zM_rows zb_62 (zpl_hold zw_62) zs_62⟩
set_option maxRecDepth 100000 in
theorem zb_63 : zMb zCL zP zm_63 = true := by decide +kernel
set_option maxRecDepth 100000 in
theorem zw_63 : (zMw "SiphonReport" zCL zP zm_63).map some = ([(false, 185), (false, 184), (false, 218), (false, 185), (false, 245), (false, 186), (false, 192), (false, 184), (false, 249), (false, 191), (false, 192), (false, 191), (false, 192), (false, 187), (false, 191), (false, 275), (false, 188), (false, 191), (false, 187), (false, 300), (false, 326), (false, 190), (false, 191), (false, 188), (true, 21), (false, 348), (false, 191), (true, 46)] : List (Bool × Nat)).map (zpl zTs zNs) := rfl
set_option maxRecDepth 100000 in
theorem zs_63 : (zMs zCL zP zm_63).map Prod.fst = (zMs zCL zP zm_63).map Prod.snd := rfl
set_option maxRecDepth 100000 in
theorem zc_63 : zmeth zTs zm_63 := zM_meth (Ns := zNs) (zpl_hold (is := [(false, 217), (false, 42), (false, 215), (false, 216)]) rfl) (by decide +kernel) (by decide +kernel) (plainFor_of_name (by decide +kernel)) (fun h => by cases h)
theorem zo_63 : (Nat.ble zm_63.2.2.2.2.2.2.1 2 = true → zmeth zTs zm_63) ∧ ∀ row ∈ zm_63.2.2.2.2.2.2.2.2, zrowok "SiphonReport" zTs zNs zCL zP zm_63 row := ⟨fun _ => zc_63, zM_rows zb_63 (zpl_hold zw_63) zs_63⟩
set_option maxRecDepth 100000 in
theorem zb_64 : zMb zCL zP zm_64 = true := by decide +kernel
set_option maxRecDepth 100000 in
theorem zw_64 : (zMw "SiphonReport" zCL zP zm_64).map some = ([] : List (Bool × Nat)).map (zpl zTs zNs) := rfl
set_option maxRecDepth 100000 in
theorem zs_64 : (zMs zCL zP zm_64).map Prod.fst = (zMs zCL zP zm_64).map Prod.snd := rfl
set_option maxRecDepth 100000 in
theorem zc_64 : zmeth zTs zm_64 := zM_meth (Ns := zNs) (zpl_hold (is := [(false, 548), (false, 52), (false, 547)]) rfl) (by decide +kernel) (by decide +kernel) (plainFor_of_name (by decide +kernel)) (fun h => by cases h)
theorem zo_64 : (Nat.ble zm_64.2.2.2.2.2.2.1 2 = true → zmeth zTs zm_64) ∧ ∀ row ∈ zm_64.2.2.2.2.2.2.2.2, zrowok "SiphonReport" zTs zNs zCL zP zm_64 row := ⟨fun _ => zc_64, zM_rows zb_64 (zpl_hold zw_64) zs_64⟩
set_option maxRecDepth 100000 in
theorem zb_65 : zMb zCL zP zm_65 = true := by decide +kernel
set_option maxRecDepth 100000 in
theorem zw_65 : (zMw "SiphonReport" zCL zP zm_65).map some = ([(false, 487), (false, 486), (false, 486), (false, 546), (false, 487)] : List (Bool × Nat)).map (zpl zTs zNs) := rfl
set_option maxRecDepth 100000 in
theorem zs_65 : (zMs zCL zP zm_65).map Prod.fst = (zMs zCL zP zm_65).map Prod.snd := rfl
set_option maxRecDepth 100000 in
theorem zc_65 : zmeth zTs zm_65 := zM_meth (Ns := zNs) (zpl_hold (is := [(false, 545), (false, 52), (false, 544), (false, 23)]) rfl) (by decide +kernel) (by decide +kernel) (plainFor_of_name (by decide +kernel)) (fun h => by cases h)
theorem zo_65 : (Nat.ble zm_65.2.2.2.2.2.2.1 2 = true → zmeth zTs zm_65) ∧ ∀ row ∈ zm_65.2.2.2.2.2.2.2.2, zrowok "SiphonReport" zTs zNs zCL zP zm_65 row := ⟨fun _ => zc_65, zM_rows zb_65 (zpl_hold zw_65) zs_65⟩
set_option maxRecDepth 100000 in
theorem zb_66 : zMb zCL zP zm_66 = true := by decide +kernel
set_option maxRecDepth 100000 in
theorem zw_66 : (zMw "SiphonReport" zCL zP zm_66).map some = ([(false, 492), (false, 493)] : List (Bool × Nat)).map (zpl zTs zNs) := rfl
set_option maxRecDepth 100000 in
theorem zs_66 : (zMs zCL zP zm_66).map Prod.fst = (zMs zCL zP zm_66).map Prod.snd := rfl
set_option maxRecDepth 100000 in
theorem zc_66 : zmeth zTs zm_66 := zM_meth (Ns := zNs) (zpl_hold (is := [(false, 551), (false, 52), (false, 550), (false, 24)]) rfl) (by decide +kernel) (by decide +kernel) (plainFor_of_name (by decide +kernel)) (fun h => by cases h)
theorem zo_66 : (Nat.ble zm_66.2.2.2.2.2.2.1 2 = true → zmeth zTs zm_66) ∧ ∀ row ∈ zm_66.2.2.2.2.2.2.2.2, zrowok "SiphonReport" zTs zNs zCL zP zm_66 row := ⟨fun _ => zc_66, zM_rows zb_66 (zpl_hold zw_66) zs_66⟩
set_option maxRecDepth 100000 in
theorem zb_67 : zMb zCL zP zm_67 = true := by decide +kernel
set_option maxRecDepth 100000 in
theorem zw_67 : (zMw "SiphonReport" zCL zP zm_67).map some = ([(false, 488), (false, 489), (false, 492), (false, 493), (false, 489), (false, 488), (false, 492), (false, 493), (false, 488), (false, 488), (false, 488)] : List (Bool × Nat)).map (zpl zTs zNs) := rfl
set_option maxRecDepth 100000 in
theorem zs_67 : (zMs zCL zP zm_67).map Prod.fst = (zMs zCL zP zm_67).map Prod.snd := rfl
set_option maxRecDepth 100000 in
theorem zc_67 : zmeth zTs zm_67 := zM_meth (Ns := zNs) (zpl_hold (is := [(false, 560), (false, 52), (false, 559), (false, 27)]) rfl) (by decide +kernel) (by decide +kernel) (plainFor_of_name (by decide +kernel)) (fun h => by cases h)
theorem zo_67 : (Nat.ble zm_67.2.2.2.2.2.2.1 2 = true → zmeth zTs zm_67) ∧ ∀ row ∈ zm_67.2.2.2.2.2.2.2.2, zrowok "SiphonReport" zTs zNs zCL zP zm_67 row := ⟨fun _ => zc_67, zM_rows zb_67 (zpl_hold zw_67) zs_67⟩

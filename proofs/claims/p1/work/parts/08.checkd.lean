/-! The methods 68 to 80, instruction by instruction. -/
set_option maxRecDepth 100000 in
theorem zb_68 : zMb zCL zP zm_68 = true := by decide +kernel
set_option maxRecDepth 100000 in
theorem zw_68 : (zMw "SiphonReport" zCL zP zm_68).map some = ([(false, 490), (false, 490), (false, 491), (false, 491)] : List (Bool × Nat)).map (zpl zTs zNs) := rfl
set_option maxRecDepth 100000 in
theorem zs_68 : (zMs zCL zP zm_68).map Prod.fst = (zMs zCL zP zm_68).map Prod.snd := rfl
set_option maxRecDepth 100000 in
theorem zc_68 : zmeth zTs zm_68 := zM_meth (Ns := zNs) (zpl_hold (is := [(false, 563), (false, 52), (false, 562), (false, 28)]) rfl) (by decide +kernel) (by decide +kernel) (plainFor_of_name (by decide +kernel)) (fun h => by cases h)
theorem zo_68 : (Nat.ble zm_68.2.2.2.2.2.2.1 2 = true → zmeth zTs zm_68) ∧ ∀ row ∈ zm_68.2.2.2.2.2.2.2.2, zrowok "SiphonReport" zTs zNs zCL zP zm_68 row := ⟨fun _ => zc_68, zM_rows zb_68 (zpl_hold zw_68) zs_68⟩
set_option maxRecDepth 100000 in
theorem zb_69 : zMb zCL zP zm_69 = true := by decide +kernel
set_option maxRecDepth 100000 in
theorem zw_69 : (zMw "SiphonReport" zCL zP zm_69).map some = ([(false, 492), (false, 493), (false, 492), (false, 493), (false, 558), (false, 558), (false, 488), (false, 561), (false, 561), (false, 491)] : List (Bool × Nat)).map (zpl zTs zNs) := rfl
set_option maxRecDepth 100000 in
theorem zs_69 : (zMs zCL zP zm_69).map Prod.fst = (zMs zCL zP zm_69).map Prod.snd := rfl
set_option maxRecDepth 100000 in
theorem zc_69 : zmeth zTs zm_69 := zM_meth (Ns := zNs) (zpl_hold (is := [(false, 557), (false, 52), (false, 556), (false, 26)]) rfl) (by decide +kernel) (by decide +kernel) (plainFor_of_name (by decide +kernel)) (fun h => by cases h)
theorem zo_69 : (Nat.ble zm_69.2.2.2.2.2.2.1 2 = true → zmeth zTs zm_69) ∧ ∀ row ∈ zm_69.2.2.2.2.2.2.2.2, zrowok "SiphonReport" zTs zNs zCL zP zm_69 row := ⟨fun _ => zc_69, zM_rows zb_69 (zpl_hold zw_69) zs_69⟩
set_option maxRecDepth 100000 in
theorem zb_70 : zMb zCL zP zm_70 = true := by decide +kernel
set_option maxRecDepth 100000 in
theorem zw_70 : (zMw "SiphonReport" zCL zP zm_70).map some = ([(false, 487), (false, 487), (false, 486), (false, 493), (false, 492), (false, 555), (false, 549)] : List (Bool × Nat)).map (zpl zTs zNs) := rfl
set_option maxRecDepth 100000 in
theorem zs_70 : (zMs zCL zP zm_70).map Prod.fst = (zMs zCL zP zm_70).map Prod.snd := rfl
set_option maxRecDepth 100000 in
theorem zc_70 : zmeth zTs zm_70 := zM_meth (Ns := zNs) (zpl_hold (is := [(false, 554), (false, 52), (false, 553), (false, 25)]) rfl) (by decide +kernel) (by decide +kernel) (plainFor_of_name (by decide +kernel)) (fun h => by cases h)
theorem zo_70 : (Nat.ble zm_70.2.2.2.2.2.2.1 2 = true → zmeth zTs zm_70) ∧ ∀ row ∈ zm_70.2.2.2.2.2.2.2.2, zrowok "SiphonReport" zTs zNs zCL zP zm_70 row := ⟨fun _ => zc_70, zM_rows zb_70 (zpl_hold zw_70) zs_70⟩
set_option maxRecDepth 100000 in
theorem zb_71 : zMb zCL zP zm_71 = true := by decide +kernel
set_option maxRecDepth 100000 in
theorem zw_71 : (zMw "SiphonReport" zCL zP zm_71).map some = ([(false, 499), (false, 494), (false, 494), (false, 497), (false, 497), (false, 499), (false, 499), (false, 499), (false, 499), (false, 499)] : List (Bool × Nat)).map (zpl zTs zNs) := rfl
set_option maxRecDepth 100000 in
theorem zs_71 : (zMs zCL zP zm_71).map Prod.fst = (zMs zCL zP zm_71).map Prod.snd := rfl
set_option maxRecDepth 100000 in
theorem zc_71 : zmeth zTs zm_71 := zM_meth (Ns := zNs) (zpl_hold (is := [(false, 569), (false, 52), (false, 568), (false, 30)]) rfl) (by decide +kernel) (by decide +kernel) (plainFor_of_name (by decide +kernel)) (fun h => by cases h)
theorem zo_71 : (Nat.ble zm_71.2.2.2.2.2.2.1 2 = true → zmeth zTs zm_71) ∧ ∀ row ∈ zm_71.2.2.2.2.2.2.2.2, zrowok "SiphonReport" zTs zNs zCL zP zm_71 row := ⟨fun _ => zc_71, zM_rows zb_71 (zpl_hold zw_71) zs_71⟩
set_option maxRecDepth 100000 in
theorem zb_72 : zMb zCL zP zm_72 = true := by decide +kernel
set_option maxRecDepth 100000 in
theorem zw_72 : (zMw "SiphonReport" zCL zP zm_72).map some = ([(false, 496)] : List (Bool × Nat)).map (zpl zTs zNs) := rfl
set_option maxRecDepth 100000 in
theorem zs_72 : (zMs zCL zP zm_72).map Prod.fst = (zMs zCL zP zm_72).map Prod.snd := rfl
set_option maxRecDepth 100000 in
theorem zc_72 : zmeth zTs zm_72 := zM_meth (Ns := zNs) (zpl_hold (is := [(false, 576), (false, 52), (false, 575), (false, 31)]) rfl) (by decide +kernel) (by decide +kernel) (plainFor_of_name (by decide +kernel)) (fun h => by cases h)
theorem zo_72 : (Nat.ble zm_72.2.2.2.2.2.2.1 2 = true → zmeth zTs zm_72) ∧ ∀ row ∈ zm_72.2.2.2.2.2.2.2.2, zrowok "SiphonReport" zTs zNs zCL zP zm_72 row := ⟨fun _ => zc_72, zM_rows zb_72 (zpl_hold zw_72) zs_72⟩
set_option maxRecDepth 100000 in
theorem zb_73 : zMb zCL zP zm_73 = true := by decide +kernel
set_option maxRecDepth 100000 in
theorem zw_73 : (zMw "SiphonReport" zCL zP zm_73).map some = ([(false, 494), (false, 574)] : List (Bool × Nat)).map (zpl zTs zNs) := rfl
set_option maxRecDepth 100000 in
theorem zs_73 : (zMs zCL zP zm_73).map Prod.fst = (zMs zCL zP zm_73).map Prod.snd := rfl
set_option maxRecDepth 100000 in
theorem zc_73 : zmeth zTs zm_73 := zM_meth (Ns := zNs) (zpl_hold (is := [(false, 573), (false, 52), (false, 571), (false, 572)]) rfl) (by decide +kernel) (by decide +kernel) (plainFor_of_name (by decide +kernel)) (fun h => by cases h)
theorem zo_73 : (Nat.ble zm_73.2.2.2.2.2.2.1 2 = true → zmeth zTs zm_73) ∧ ∀ row ∈ zm_73.2.2.2.2.2.2.2.2, zrowok "SiphonReport" zTs zNs zCL zP zm_73 row := ⟨fun _ => zc_73, zM_rows zb_73 (zpl_hold zw_73) zs_73⟩
set_option maxRecDepth 100000 in
theorem zb_74 : zMb zCL zP zm_74 = true := by decide +kernel
set_option maxRecDepth 100000 in
theorem zw_74 : (zMw "SiphonReport" zCL zP zm_74).map some = ([(false, 494), (false, 494), (false, 497), (false, 574), (false, 574)] : List (Bool × Nat)).map (zpl zTs zNs) := rfl
set_option maxRecDepth 100000 in
theorem zs_74 : (zMs zCL zP zm_74).map Prod.fst = (zMs zCL zP zm_74).map Prod.snd := rfl
set_option maxRecDepth 100000 in
theorem zc_74 : zmeth zTs zm_74 := zM_meth (Ns := zNs) (zpl_hold (is := [(false, 582), (false, 52), (false, 581), (false, 33)]) rfl) (by decide +kernel) (by decide +kernel) (plainFor_of_name (by decide +kernel)) (fun h => by cases h)
theorem zo_74 : (Nat.ble zm_74.2.2.2.2.2.2.1 2 = true → zmeth zTs zm_74) ∧ ∀ row ∈ zm_74.2.2.2.2.2.2.2.2, zrowok "SiphonReport" zTs zNs zCL zP zm_74 row := ⟨fun _ => zc_74, zM_rows zb_74 (zpl_hold zw_74) zs_74⟩
set_option maxRecDepth 100000 in
theorem zb_75 : zMb zCL zP zm_75 = true := by decide +kernel
set_option maxRecDepth 100000 in
theorem zw_75 : (zMw "SiphonReport" zCL zP zm_75).map some = ([(false, 580), (false, 580), (false, 501), (false, 500), (false, 500), (false, 500)] : List (Bool × Nat)).map (zpl zTs zNs) := rfl
set_option maxRecDepth 100000 in
theorem zs_75 : (zMs zCL zP zm_75).map Prod.fst = (zMs zCL zP zm_75).map Prod.snd := rfl
set_option maxRecDepth 100000 in
theorem zc_75 : zmeth zTs zm_75 := zM_meth (Ns := zNs) (zpl_hold (is := [(false, 579), (false, 52), (false, 578), (false, 32)]) rfl) (by decide +kernel) (by decide +kernel) (plainFor_of_name (by decide +kernel)) (fun h => by cases h)
theorem zo_75 : (Nat.ble zm_75.2.2.2.2.2.2.1 2 = true → zmeth zTs zm_75) ∧ ∀ row ∈ zm_75.2.2.2.2.2.2.2.2, zrowok "SiphonReport" zTs zNs zCL zP zm_75 row := ⟨fun _ => zc_75, zM_rows zb_75 (zpl_hold zw_75) zs_75⟩
set_option maxRecDepth 100000 in
theorem zb_76 : zMb zCL zP zm_76 = true := by decide +kernel
set_option maxRecDepth 100000 in
theorem zw_76 : (zMw "SiphonReport" zCL zP zm_76).map some = ([(false, 505), (false, 494), (false, 494), (false, 497), (false, 499), (false, 506), (false, 505), (false, 496), (false, 496), (false, 505), (false, 505)] : List (Bool × Nat)).map (zpl zTs zNs) := rfl
set_option maxRecDepth 100000 in
theorem zs_76 : (zMs zCL zP zm_76).map Prod.fst = (zMs zCL zP zm_76).map Prod.snd := rfl
set_option maxRecDepth 100000 in
theorem zc_76 : zmeth zTs zm_76 := zM_meth (Ns := zNs) (zpl_hold (is := [(false, 591), (false, 52), (false, 590), (false, 36)]) rfl) (by decide +kernel) (by decide +kernel) (plainFor_of_name (by decide +kernel)) (fun h => by cases h)
theorem zo_76 : (Nat.ble zm_76.2.2.2.2.2.2.1 2 = true → zmeth zTs zm_76) ∧ ∀ row ∈ zm_76.2.2.2.2.2.2.2.2, zrowok "SiphonReport" zTs zNs zCL zP zm_76 row := ⟨fun _ => zc_76, zM_rows zb_76 (zpl_hold zw_76) zs_76⟩
set_option maxRecDepth 100000 in
theorem zb_77 : zMb zCL zP zm_77 = true := by decide +kernel
set_option maxRecDepth 100000 in
theorem zw_77 : (zMw "SiphonReport" zCL zP zm_77).map some = ([(false, 506), (false, 506), (false, 506), (false, 506)] : List (Bool × Nat)).map (zpl zTs zNs) := rfl
set_option maxRecDepth 100000 in
theorem zs_77 : (zMs zCL zP zm_77).map Prod.fst = (zMs zCL zP zm_77).map Prod.snd := rfl
set_option maxRecDepth 100000 in
theorem zc_77 : zmeth zTs zm_77 := zM_meth (Ns := zNs) (zpl_hold (is := [(false, 594), (false, 52), (false, 593), (false, 37)]) rfl) (by decide +kernel) (by decide +kernel) (plainFor_of_name (by decide +kernel)) (fun h => by cases h)
theorem zo_77 : (Nat.ble zm_77.2.2.2.2.2.2.1 2 = true → zmeth zTs zm_77) ∧ ∀ row ∈ zm_77.2.2.2.2.2.2.2.2, zrowok "SiphonReport" zTs zNs zCL zP zm_77 row := ⟨fun _ => zc_77, zM_rows zb_77 (zpl_hold zw_77) zs_77⟩
set_option maxRecDepth 100000 in
theorem zb_78 : zMb zCL zP zm_78 = true := by decide +kernel
set_option maxRecDepth 100000 in
theorem zw_78 : (zMw "SiphonReport" zCL zP zm_78).map some = ([] : List (Bool × Nat)).map (zpl zTs zNs) := rfl
set_option maxRecDepth 100000 in
theorem zs_78 : (zMs zCL zP zm_78).map Prod.fst = (zMs zCL zP zm_78).map Prod.snd := rfl
set_option maxRecDepth 100000 in
theorem zc_78 : zmeth zTs zm_78 := zM_meth (Ns := zNs) (zpl_hold (is := [(false, 600), (false, 52), (false, 599)]) rfl) (by decide +kernel) (by decide +kernel) (plainFor_of_name (by decide +kernel)) (fun h => by cases h)
theorem zo_78 : (Nat.ble zm_78.2.2.2.2.2.2.1 2 = true → zmeth zTs zm_78) ∧ ∀ row ∈ zm_78.2.2.2.2.2.2.2.2, zrowok "SiphonReport" zTs zNs zCL zP zm_78 row := ⟨fun _ => zc_78, zM_rows zb_78 (zpl_hold zw_78) zs_78⟩
set_option maxRecDepth 100000 in
theorem zb_79 : zMb zCL zP zm_79 = true := by decide +kernel
set_option maxRecDepth 100000 in
theorem zw_79 : (zMw "SiphonReport" zCL zP zm_79).map some = ([(false, 506), (false, 506), (false, 506), (false, 506), (false, 506), (false, 506), (false, 598), (false, 506)] : List (Bool × Nat)).map (zpl zTs zNs) := rfl
set_option maxRecDepth 100000 in
theorem zs_79 : (zMs zCL zP zm_79).map Prod.fst = (zMs zCL zP zm_79).map Prod.snd := rfl
set_option maxRecDepth 100000 in
theorem zc_79 : zmeth zTs zm_79 := zM_meth (Ns := zNs) (zpl_hold (is := [(false, 597), (false, 52), (false, 596), (false, 38)]) rfl) (by decide +kernel) (by decide +kernel) (plainFor_of_name (by decide +kernel)) (fun h => by cases h)
theorem zo_79 : (Nat.ble zm_79.2.2.2.2.2.2.1 2 = true → zmeth zTs zm_79) ∧ ∀ row ∈ zm_79.2.2.2.2.2.2.2.2, zrowok "SiphonReport" zTs zNs zCL zP zm_79 row := ⟨fun _ => zc_79, zM_rows zb_79 (zpl_hold zw_79) zs_79⟩
set_option maxRecDepth 100000 in
theorem zb_80 : zMb zCL zP zm_80 = true := by decide +kernel
set_option maxRecDepth 100000 in
theorem zw_80 : (zMw "SiphonReport" zCL zP zm_80).map some = ([(false, 589), (false, 505), (false, 506), (false, 505), (false, 592), (false, 507), (false, 505), (false, 506), (false, 595)] : List (Bool × Nat)).map (zpl zTs zNs) := rfl
set_option maxRecDepth 100000 in
theorem zs_80 : (zMs zCL zP zm_80).map Prod.fst = (zMs zCL zP zm_80).map Prod.snd := rfl
set_option maxRecDepth 100000 in
theorem zc_80 : zmeth zTs zm_80 := zM_meth (Ns := zNs) (zpl_hold (is := [(false, 588), (false, 52), (false, 587), (false, 35)]) rfl) (by decide +kernel) (by decide +kernel) (plainFor_of_name (by decide +kernel)) (fun h => by cases h)
theorem zo_80 : (Nat.ble zm_80.2.2.2.2.2.2.1 2 = true → zmeth zTs zm_80) ∧ ∀ row ∈ zm_80.2.2.2.2.2.2.2.2, zrowok "SiphonReport" zTs zNs zCL zP zm_80 row := ⟨fun _ => zc_80, zM_rows zb_80 (zpl_hold zw_80) zs_80⟩

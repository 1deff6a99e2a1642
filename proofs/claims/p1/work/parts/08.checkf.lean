/-! The methods 102 to 128, instruction by instruction. -/
set_option maxRecDepth 100000 in
theorem zb_102 : zMb zCL zP zm_102 = true := by decide +kernel
set_option maxRecDepth 100000 in
theorem zw_102 : (zMw "SiphonReport" zCL zP zm_102).map some = ([(false, 188), (true, 23)] : List (Bool × Nat)).map (zpl zTs zNs) := rfl
set_option maxRecDepth 100000 in
theorem zs_102 : (zMs zCL zP zm_102).map Prod.fst = (zMs zCL zP zm_102).map Prod.snd := rfl
set_option maxRecDepth 100000 in
theorem zc_102 : zmeth zTs zm_102 := zM_meth (Ns := zNs) (zpl_hold (is := [(false, 420), (false, 42), (false, 418), (false, 419)]) rfl) (by decide +kernel) (by decide +kernel) (plainFor_of_name (by decide +kernel)) (fun h => by cases h)
theorem zo_102 : (Nat.ble zm_102.2.2.2.2.2.2.1 2 = true → zmeth zTs zm_102) ∧ ∀ row ∈ zm_102.2.2.2.2.2.2.2.2, zrowok "SiphonReport" zTs zNs zCL zP zm_102 row := ⟨fun _ => zc_102, zM_rows zb_102 (zpl_hold zw_102) zs_102⟩
set_option maxRecDepth 100000 in
theorem zb_103 : zMb zCL zP zm_103 = true := by decide +kernel
set_option maxRecDepth 100000 in
theorem zw_103 : (zMw "SiphonReport" zCL zP zm_103).map some = ([(false, 586)] : List (Bool × Nat)).map (zpl zTs zNs) := rfl
set_option maxRecDepth 100000 in
theorem zs_103 : (zMs zCL zP zm_103).map Prod.fst = (zMs zCL zP zm_103).map Prod.snd := rfl
set_option maxRecDepth 100000 in
theorem zc_103 : zmeth zTs zm_103 := zM_meth (Ns := zNs) (zpl_hold (is := [(false, 639), (false, 52), (false, 637), (false, 638)]) rfl) (by decide +kernel) (by decide +kernel) (plainFor_of_name (by decide +kernel)) (fun h => by cases h)
theorem zo_103 : (Nat.ble zm_103.2.2.2.2.2.2.1 2 = true → zmeth zTs zm_103) ∧ ∀ row ∈ zm_103.2.2.2.2.2.2.2.2, zrowok "SiphonReport" zTs zNs zCL zP zm_103 row := ⟨fun _ => zc_103, zM_rows zb_103 (zpl_hold zw_103) zs_103⟩
set_option maxRecDepth 100000 in
theorem zb_104 : zMb zCL zP zm_104 = true := by decide +kernel
set_option maxRecDepth 100000 in
theorem zw_104 : (zMw "SiphonReport" zCL zP zm_104).map some = ([(false, 191), (true, 42), (false, 187), (true, 14), (false, 188), (true, 23), (false, 187), (true, 14), (false, 187), (true, 11), (false, 188), (true, 22)] : List (Bool × Nat)).map (zpl zTs zNs) := rfl
set_option maxRecDepth 100000 in
theorem zs_104 : (zMs zCL zP zm_104).map Prod.fst = (zMs zCL zP zm_104).map Prod.snd := rfl
set_option maxRecDepth 100000 in
theorem zc_104 : zmeth zTs zm_104 := zM_meth (Ns := zNs) (zpl_hold (is := [(false, 424), (false, 42), (false, 422), (false, 423)]) rfl) (by decide +kernel) (by decide +kernel) (plainFor_of_name (by decide +kernel)) (fun h => by cases h)
theorem zo_104 : (Nat.ble zm_104.2.2.2.2.2.2.1 2 = true → zmeth zTs zm_104) ∧ ∀ row ∈ zm_104.2.2.2.2.2.2.2.2, zrowok "SiphonReport" zTs zNs zCL zP zm_104 row := ⟨fun _ => zc_104, zM_rows zb_104 (zpl_hold zw_104) zs_104⟩
set_option maxRecDepth 100000 in
theorem zb_105 : zMb zCL zP zm_105 = true := by decide +kernel
set_option maxRecDepth 100000 in
theorem zw_105 : (zMw "SiphonReport" zCL zP zm_105).map some = ([(false, 494), (false, 644), (false, 645), (false, 494), (false, 646), (false, 586)] : List (Bool × Nat)).map (zpl zTs zNs) := rfl
set_option maxRecDepth 100000 in
theorem zs_105 : (zMs zCL zP zm_105).map Prod.fst = (zMs zCL zP zm_105).map Prod.snd := rfl
set_option maxRecDepth 100000 in
theorem zc_105 : zmeth zTs zm_105 := zM_meth (Ns := zNs) (zpl_hold (is := [(false, 643), (false, 52), (false, 641), (false, 642)]) rfl) (by decide +kernel) (by decide +kernel) (plainFor_of_name (by decide +kernel)) (fun h => by cases h)
theorem zo_105 : (Nat.ble zm_105.2.2.2.2.2.2.1 2 = true → zmeth zTs zm_105) ∧ ∀ row ∈ zm_105.2.2.2.2.2.2.2.2, zrowok "SiphonReport" zTs zNs zCL zP zm_105 row := ⟨fun _ => zc_105, zM_rows zb_105 (zpl_hold zw_105) zs_105⟩
set_option maxRecDepth 100000 in
theorem zb_106 : zMb zCL zP zm_106 = true := by decide +kernel
set_option maxRecDepth 100000 in
theorem zw_106 : (zMw "SiphonReport" zCL zP zm_106).map some = ([(false, 189), (true, 26)] : List (Bool × Nat)).map (zpl zTs zNs) := rfl
set_option maxRecDepth 100000 in
theorem zs_106 : (zMs zCL zP zm_106).map Prod.fst = (zMs zCL zP zm_106).map Prod.snd := rfl
set_option maxRecDepth 100000 in
theorem zc_106 : zmeth zTs zm_106 := zM_meth (Ns := zNs) (zpl_hold (is := [(false, 428), (false, 42), (false, 426), (false, 427)]) rfl) (by decide +kernel) (by decide +kernel) (plainFor_of_name (by decide +kernel)) (fun h => by cases h)
theorem zo_106 : (Nat.ble zm_106.2.2.2.2.2.2.1 2 = true → zmeth zTs zm_106) ∧ ∀ row ∈ zm_106.2.2.2.2.2.2.2.2, zrowok "SiphonReport" zTs zNs zCL zP zm_106 row := ⟨fun _ => zc_106, zM_rows zb_106 (zpl_hold zw_106) zs_106⟩
set_option maxRecDepth 100000 in
theorem zb_107 : zMb zCL zP zm_107 = true := by decide +kernel
set_option maxRecDepth 100000 in
theorem zw_107 : (zMw "SiphonReport" zCL zP zm_107).map some = ([(false, 500)] : List (Bool × Nat)).map (zpl zTs zNs) := rfl
set_option maxRecDepth 100000 in
theorem zs_107 : (zMs zCL zP zm_107).map Prod.fst = (zMs zCL zP zm_107).map Prod.snd := rfl
set_option maxRecDepth 100000 in
theorem zc_107 : zmeth zTs zm_107 := zM_meth (Ns := zNs) (zpl_hold (is := [(false, 650), (false, 52), (false, 648), (false, 649)]) rfl) (by decide +kernel) (by decide +kernel) (plainFor_of_name (by decide +kernel)) (fun h => by cases h)
theorem zo_107 : (Nat.ble zm_107.2.2.2.2.2.2.1 2 = true → zmeth zTs zm_107) ∧ ∀ row ∈ zm_107.2.2.2.2.2.2.2.2, zrowok "SiphonReport" zTs zNs zCL zP zm_107 row := ⟨fun _ => zc_107, zM_rows zb_107 (zpl_hold zw_107) zs_107⟩
set_option maxRecDepth 100000 in
theorem zb_108 : zMb zCL zP zm_108 = true := by decide +kernel
set_option maxRecDepth 100000 in
theorem zw_108 : (zMw "SiphonReport" zCL zP zm_108).map some = ([(false, 149)] : List (Bool × Nat)).map (zpl zTs zNs) := rfl
set_option maxRecDepth 100000 in
theorem zs_108 : (zMs zCL zP zm_108).map Prod.fst = (zMs zCL zP zm_108).map Prod.snd := rfl
set_option maxRecDepth 100000 in
theorem zc_108 : zmeth zTs zm_108 := zM_meth (Ns := zNs) (zpl_hold (is := [(false, 440), (false, 49), (false, 438), (false, 439)]) rfl) (by decide +kernel) (by decide +kernel) (plainFor_of_name (by decide +kernel)) (fun h => by cases h)
theorem zo_108 : (Nat.ble zm_108.2.2.2.2.2.2.1 2 = true → zmeth zTs zm_108) ∧ ∀ row ∈ zm_108.2.2.2.2.2.2.2.2, zrowok "SiphonReport" zTs zNs zCL zP zm_108 row := ⟨fun _ => zc_108, zM_rows zb_108 (zpl_hold zw_108) zs_108⟩
set_option maxRecDepth 100000 in
theorem zb_109 : zMb zCL zP zm_109 = true := by decide +kernel
set_option maxRecDepth 100000 in
theorem zw_109 : (zMw "SiphonReport" zCL zP zm_109).map some = ([(false, 437), (false, 148)] : List (Bool × Nat)).map (zpl zTs zNs) := rfl
set_option maxRecDepth 100000 in
theorem zs_109 : (zMs zCL zP zm_109).map Prod.fst = (zMs zCL zP zm_109).map Prod.snd := rfl
set_option maxRecDepth 100000 in
theorem zc_109 : zmeth zTs zm_109 := zM_meth (Ns := zNs) (zpl_hold (is := [(false, 436), (false, 49), (false, 434), (false, 435)]) rfl) (by decide +kernel) (by decide +kernel) (plainFor_of_name (by decide +kernel)) (fun h => by cases h)
theorem zo_109 : (Nat.ble zm_109.2.2.2.2.2.2.1 2 = true → zmeth zTs zm_109) ∧ ∀ row ∈ zm_109.2.2.2.2.2.2.2.2, zrowok "SiphonReport" zTs zNs zCL zP zm_109 row := ⟨fun _ => zc_109, zM_rows zb_109 (zpl_hold zw_109) zs_109⟩
set_option maxRecDepth 100000 in
theorem zb_110 : zMb zCL zP zm_110 = true := by decide +kernel
set_option maxRecDepth 100000 in
theorem zw_110 : (zMw "SiphonReport" zCL zP zm_110).map some = ([(false, 189), (false, 433)] : List (Bool × Nat)).map (zpl zTs zNs) := rfl
set_option maxRecDepth 100000 in
theorem zs_110 : (zMs zCL zP zm_110).map Prod.fst = (zMs zCL zP zm_110).map Prod.snd := rfl
set_option maxRecDepth 100000 in
theorem zc_110 : zmeth zTs zm_110 := zM_meth (Ns := zNs) (zpl_hold (is := [(false, 432), (false, 42), (false, 430), (false, 431)]) rfl) (by decide +kernel) (by decide +kernel) (plainFor_of_name (by decide +kernel)) (fun h => by cases h)
theorem zo_110 : (Nat.ble zm_110.2.2.2.2.2.2.1 2 = true → zmeth zTs zm_110) ∧ ∀ row ∈ zm_110.2.2.2.2.2.2.2.2, zrowok "SiphonReport" zTs zNs zCL zP zm_110 row := ⟨fun _ => zc_110, zM_rows zb_110 (zpl_hold zw_110) zs_110⟩
set_option maxRecDepth 100000 in
theorem zb_111 : zMb zCL zP zm_111 = true := by decide +kernel
set_option maxRecDepth 100000 in
theorem zw_111 : (zMw "SiphonReport" zCL zP zm_111).map some = ([(false, 500), (false, 501)] : List (Bool × Nat)).map (zpl zTs zNs) := rfl
set_option maxRecDepth 100000 in
theorem zs_111 : (zMs zCL zP zm_111).map Prod.fst = (zMs zCL zP zm_111).map Prod.snd := rfl
set_option maxRecDepth 100000 in
theorem zc_111 : zmeth zTs zm_111 := zM_meth (Ns := zNs) (zpl_hold (is := [(false, 654), (false, 52), (false, 652), (false, 653)]) rfl) (by decide +kernel) (by decide +kernel) (plainFor_of_name (by decide +kernel)) (fun h => by cases h)
theorem zo_111 : (Nat.ble zm_111.2.2.2.2.2.2.1 2 = true → zmeth zTs zm_111) ∧ ∀ row ∈ zm_111.2.2.2.2.2.2.2.2, zrowok "SiphonReport" zTs zNs zCL zP zm_111 row := ⟨fun _ => zc_111, zM_rows zb_111 (zpl_hold zw_111) zs_111⟩
set_option maxRecDepth 100000 in
theorem zb_112 : zMb zCL zP zm_112 = true := by decide +kernel
set_option maxRecDepth 100000 in
theorem zw_112 : (zMw "SiphonReport" zCL zP zm_112).map some = ([(false, 189), (false, 445), (false, 190), (true, 30), (false, 189), (false, 433), (false, 336)] : List (Bool × Nat)).map (zpl zTs zNs) := rfl
set_option maxRecDepth 100000 in
theorem zs_112 : (zMs zCL zP zm_112).map Prod.fst = (zMs zCL zP zm_112).map Prod.snd := rfl
set_option maxRecDepth 100000 in
theorem zc_112 : zmeth zTs zm_112 := zM_meth (Ns := zNs) (zpl_hold (is := [(false, 444), (false, 42), (false, 442), (false, 443)]) rfl) (by decide +kernel) (by decide +kernel) (plainFor_of_name (by decide +kernel)) (fun h => by cases h)
theorem zo_112 : (Nat.ble zm_112.2.2.2.2.2.2.1 2 = true → zmeth zTs zm_112) ∧ ∀ row ∈ zm_112.2.2.2.2.2.2.2.2, zrowok "SiphonReport" zTs zNs zCL zP zm_112 row := ⟨fun _ => zc_112, zM_rows zb_112 (zpl_hold zw_112) zs_112⟩
set_option maxRecDepth 100000 in
theorem zb_113 : zMb zCL zP zm_113 = true := by decide +kernel
set_option maxRecDepth 100000 in
theorem zw_113 : (zMw "SiphonReport" zCL zP zm_113).map some = ([(false, 502), (false, 500), (false, 503), (false, 501)] : List (Bool × Nat)).map (zpl zTs zNs) := rfl
set_option maxRecDepth 100000 in
theorem zs_113 : (zMs zCL zP zm_113).map Prod.fst = (zMs zCL zP zm_113).map Prod.snd := rfl
set_option maxRecDepth 100000 in
theorem zc_113 : zmeth zTs zm_113 := zM_meth (Ns := zNs) (zpl_hold (is := [(false, 658), (false, 52), (false, 656), (false, 657)]) rfl) (by decide +kernel) (by decide +kernel) (plainFor_of_name (by decide +kernel)) (fun h => by cases h)
theorem zo_113 : (Nat.ble zm_113.2.2.2.2.2.2.1 2 = true → zmeth zTs zm_113) ∧ ∀ row ∈ zm_113.2.2.2.2.2.2.2.2, zrowok "SiphonReport" zTs zNs zCL zP zm_113 row := ⟨fun _ => zc_113, zM_rows zb_113 (zpl_hold zw_113) zs_113⟩
set_option maxRecDepth 100000 in
theorem zb_114 : zMb zCL zP zm_114 = true := by decide +kernel
set_option maxRecDepth 100000 in
theorem zw_114 : (zMw "SiphonReport" zCL zP zm_114).map some = ([(false, 190), (true, 30), (true, 26)] : List (Bool × Nat)).map (zpl zTs zNs) := rfl
set_option maxRecDepth 100000 in
theorem zs_114 : (zMs zCL zP zm_114).map Prod.fst = (zMs zCL zP zm_114).map Prod.snd := rfl
set_option maxRecDepth 100000 in
theorem zc_114 : zmeth zTs zm_114 := zM_meth (Ns := zNs) (zpl_hold (is := [(false, 449), (false, 42), (false, 447), (false, 448)]) rfl) (by decide +kernel) (by decide +kernel) (plainFor_of_name (by decide +kernel)) (fun h => by cases h)
theorem zo_114 : (Nat.ble zm_114.2.2.2.2.2.2.1 2 = true → zmeth zTs zm_114) ∧ ∀ row ∈ zm_114.2.2.2.2.2.2.2.2, zrowok "SiphonReport" zTs zNs zCL zP zm_114 row := ⟨fun _ => zc_114, zM_rows zb_114 (zpl_hold zw_114) zs_114⟩
set_option maxRecDepth 100000 in
theorem zb_115 : zMb zCL zP zm_115 = true := by decide +kernel
set_option maxRecDepth 100000 in
theorem zw_115 : (zMw "SiphonReport" zCL zP zm_115).map some = ([(false, 502)] : List (Bool × Nat)).map (zpl zTs zNs) := rfl
set_option maxRecDepth 100000 in
theorem zs_115 : (zMs zCL zP zm_115).map Prod.fst = (zMs zCL zP zm_115).map Prod.snd := rfl
set_option maxRecDepth 100000 in
theorem zc_115 : zmeth zTs zm_115 := zM_meth (Ns := zNs) (zpl_hold (is := [(false, 662), (false, 52), (false, 660), (false, 661)]) rfl) (by decide +kernel) (by decide +kernel) (plainFor_of_name (by decide +kernel)) (fun h => by cases h)
theorem zo_115 : (Nat.ble zm_115.2.2.2.2.2.2.1 2 = true → zmeth zTs zm_115) ∧ ∀ row ∈ zm_115.2.2.2.2.2.2.2.2, zrowok "SiphonReport" zTs zNs zCL zP zm_115 row := ⟨fun _ => zc_115, zM_rows zb_115 (zpl_hold zw_115) zs_115⟩
set_option maxRecDepth 100000 in
theorem zb_116 : zMb zCL zP zm_116 = true := by decide +kernel
set_option maxRecDepth 100000 in
theorem zw_116 : (zMw "SiphonReport" zCL zP zm_116).map some = ([(false, 190), (true, 30), (false, 433)] : List (Bool × Nat)).map (zpl zTs zNs) := rfl
set_option maxRecDepth 100000 in
theorem zs_116 : (zMs zCL zP zm_116).map Prod.fst = (zMs zCL zP zm_116).map Prod.snd := rfl
set_option maxRecDepth 100000 in
theorem zc_116 : zmeth zTs zm_116 := zM_meth (Ns := zNs) (zpl_hold (is := [(false, 453), (false, 42), (false, 451), (false, 452)]) rfl) (by decide +kernel) (by decide +kernel) (plainFor_of_name (by decide +kernel)) (fun h => by cases h)
theorem zo_116 : (Nat.ble zm_116.2.2.2.2.2.2.1 2 = true → zmeth zTs zm_116) ∧ ∀ row ∈ zm_116.2.2.2.2.2.2.2.2, zrowok "SiphonReport" zTs zNs zCL zP zm_116 row := ⟨fun _ => zc_116, zM_rows zb_116 (zpl_hold zw_116) zs_116⟩
set_option maxRecDepth 100000 in
theorem zb_117 : zMb zCL zP zm_117 = true := by decide +kernel
set_option maxRecDepth 100000 in
theorem zw_117 : (zMw "SiphonReport" zCL zP zm_117).map some = ([(false, 502), (false, 503)] : List (Bool × Nat)).map (zpl zTs zNs) := rfl
set_option maxRecDepth 100000 in
theorem zs_117 : (zMs zCL zP zm_117).map Prod.fst = (zMs zCL zP zm_117).map Prod.snd := rfl
set_option maxRecDepth 100000 in
theorem zc_117 : zmeth zTs zm_117 := zM_meth (Ns := zNs) (zpl_hold (is := [(false, 666), (false, 52), (false, 664), (false, 665)]) rfl) (by decide +kernel) (by decide +kernel) (plainFor_of_name (by decide +kernel)) (fun h => by cases h)
theorem zo_117 : (Nat.ble zm_117.2.2.2.2.2.2.1 2 = true → zmeth zTs zm_117) ∧ ∀ row ∈ zm_117.2.2.2.2.2.2.2.2, zrowok "SiphonReport" zTs zNs zCL zP zm_117 row := ⟨fun _ => zc_117, zM_rows zb_117 (zpl_hold zw_117) zs_117⟩
set_option maxRecDepth 100000 in
theorem zb_118 : zMb zCL zP zm_118 = true := by decide +kernel
set_option maxRecDepth 100000 in
theorem zw_118 : (zMw "SiphonReport" zCL zP zm_118).map some = ([(false, 190), (true, 30), (false, 445), (false, 395), (false, 190), (true, 31)] : List (Bool × Nat)).map (zpl zTs zNs) := rfl
set_option maxRecDepth 100000 in
theorem zs_118 : (zMs zCL zP zm_118).map Prod.fst = (zMs zCL zP zm_118).map Prod.snd := rfl
set_option maxRecDepth 100000 in
theorem zc_118 : zmeth zTs zm_118 := zM_meth (Ns := zNs) (zpl_hold (is := [(false, 457), (false, 42), (false, 455), (false, 456)]) rfl) (by decide +kernel) (by decide +kernel) (plainFor_of_name (by decide +kernel)) (fun h => by cases h)
theorem zo_118 : (Nat.ble zm_118.2.2.2.2.2.2.1 2 = true → zmeth zTs zm_118) ∧ ∀ row ∈ zm_118.2.2.2.2.2.2.2.2, zrowok "SiphonReport" zTs zNs zCL zP zm_118 row := ⟨fun _ => zc_118, zM_rows zb_118 (zpl_hold zw_118) zs_118⟩
set_option maxRecDepth 100000 in
theorem zb_119 : zMb zCL zP zm_119 = true := by decide +kernel
set_option maxRecDepth 100000 in
theorem zw_119 : (zMw "SiphonReport" zCL zP zm_119).map some = ([(false, 502), (false, 504)] : List (Bool × Nat)).map (zpl zTs zNs) := rfl
set_option maxRecDepth 100000 in
theorem zs_119 : (zMs zCL zP zm_119).map Prod.fst = (zMs zCL zP zm_119).map Prod.snd := rfl
set_option maxRecDepth 100000 in
theorem zc_119 : zmeth zTs zm_119 := zM_meth (Ns := zNs) (zpl_hold (is := [(false, 670), (false, 52), (false, 668), (false, 669)]) rfl) (by decide +kernel) (by decide +kernel) (plainFor_of_name (by decide +kernel)) (fun h => by cases h)
theorem zo_119 : (Nat.ble zm_119.2.2.2.2.2.2.1 2 = true → zmeth zTs zm_119) ∧ ∀ row ∈ zm_119.2.2.2.2.2.2.2.2, zrowok "SiphonReport" zTs zNs zCL zP zm_119 row := ⟨fun _ => zc_119, zM_rows zb_119 (zpl_hold zw_119) zs_119⟩
set_option maxRecDepth 100000 in
theorem zb_120 : zMb zCL zP zm_120 = true := by decide +kernel
set_option maxRecDepth 100000 in
theorem zw_120 : (zMw "SiphonReport" zCL zP zm_120).map some = ([(false, 187), (true, 15), (false, 187), (true, 14)] : List (Bool × Nat)).map (zpl zTs zNs) := rfl
set_option maxRecDepth 100000 in
theorem zs_120 : (zMs zCL zP zm_120).map Prod.fst = (zMs zCL zP zm_120).map Prod.snd := rfl
set_option maxRecDepth 100000 in
theorem zc_120 : zmeth zTs zm_120 := zM_meth (Ns := zNs) (zpl_hold (is := [(false, 464), (false, 42), (false, 463), (false, 19)]) rfl) (by decide +kernel) (by decide +kernel) (plainFor_of_name (by decide +kernel)) (fun h => by cases h)
theorem zo_120 : (Nat.ble zm_120.2.2.2.2.2.2.1 2 = true → zmeth zTs zm_120) ∧ ∀ row ∈ zm_120.2.2.2.2.2.2.2.2, zrowok "SiphonReport" zTs zNs zCL zP zm_120 row := ⟨fun _ => zc_120, zM_rows zb_120 (zpl_hold zw_120) zs_120⟩
set_option maxRecDepth 100000 in
theorem zb_121 : zMb zCL zP zm_121 = true := by decide +kernel
set_option maxRecDepth 100000 in
theorem zw_121 : (zMw "SiphonReport" zCL zP zm_121).map some = ([(false, 187), (true, 14), (false, 465), (false, 187), (true, 12), (false, 465)] : List (Bool × Nat)).map (zpl zTs zNs) := rfl
set_option maxRecDepth 100000 in
theorem zs_121 : (zMs zCL zP zm_121).map Prod.fst = (zMs zCL zP zm_121).map Prod.snd := rfl
set_option maxRecDepth 100000 in
theorem zc_121 : zmeth zTs zm_121 := zM_meth (Ns := zNs) (zpl_hold (is := [(false, 468), (false, 42), (false, 467), (false, 20)]) rfl) (by decide +kernel) (by decide +kernel) (plainFor_of_name (by decide +kernel)) (fun h => by cases h)
theorem zo_121 : (Nat.ble zm_121.2.2.2.2.2.2.1 2 = true → zmeth zTs zm_121) ∧ ∀ row ∈ zm_121.2.2.2.2.2.2.2.2, zrowok "SiphonReport" zTs zNs zCL zP zm_121 row := ⟨fun _ => zc_121, zM_rows zb_121 (zpl_hold zw_121) zs_121⟩
set_option maxRecDepth 100000 in
theorem zb_122 : zMb zCL zP zm_122 = true := by decide +kernel
set_option maxRecDepth 100000 in
theorem zw_122 : (zMw "SiphonReport" zCL zP zm_122).map some = ([(false, 189), (true, 26), (false, 472)] : List (Bool × Nat)).map (zpl zTs zNs) := rfl
set_option maxRecDepth 100000 in
theorem zs_122 : (zMs zCL zP zm_122).map Prod.fst = (zMs zCL zP zm_122).map Prod.snd := rfl
set_option maxRecDepth 100000 in
theorem zc_122 : zmeth zTs zm_122 := zM_meth (Ns := zNs) (zpl_hold (is := [(false, 471), (false, 42), (false, 470), (false, 21)]) rfl) (by decide +kernel) (by decide +kernel) (plainFor_of_name (by decide +kernel)) (fun h => by cases h)
theorem zo_122 : (Nat.ble zm_122.2.2.2.2.2.2.1 2 = true → zmeth zTs zm_122) ∧ ∀ row ∈ zm_122.2.2.2.2.2.2.2.2, zrowok "SiphonReport" zTs zNs zCL zP zm_122 row := ⟨fun _ => zc_122, zM_rows zb_122 (zpl_hold zw_122) zs_122⟩
set_option maxRecDepth 100000 in
theorem zb_123 : zMb zCL zP zm_123 = true := by decide +kernel
set_option maxRecDepth 100000 in
theorem zw_123 : (zMw "SiphonReport" zCL zP zm_123).map some = ([(false, 149), (false, 148)] : List (Bool × Nat)).map (zpl zTs zNs) := rfl
set_option maxRecDepth 100000 in
theorem zs_123 : (zMs zCL zP zm_123).map Prod.fst = (zMs zCL zP zm_123).map Prod.snd := rfl
set_option maxRecDepth 100000 in
theorem zc_123 : zmeth zTs zm_123 := zM_meth (Ns := zNs) (zpl_hold (is := [(false, 479), (false, 49), (false, 477), (false, 478)]) rfl) (by decide +kernel) (by decide +kernel) (plainFor_of_name (by decide +kernel)) (fun h => by cases h)
theorem zo_123 : (Nat.ble zm_123.2.2.2.2.2.2.1 2 = true → zmeth zTs zm_123) ∧ ∀ row ∈ zm_123.2.2.2.2.2.2.2.2, zrowok "SiphonReport" zTs zNs zCL zP zm_123 row := ⟨fun _ => zc_123, zM_rows zb_123 (zpl_hold zw_123) zs_123⟩
set_option maxRecDepth 100000 in
theorem zb_124 : zMb zCL zP zm_124 = true := by decide +kernel
set_option maxRecDepth 100000 in
theorem zw_124 : (zMw "SiphonReport" zCL zP zm_124).map some = ([(false, 190), (true, 30), (false, 476), (false, 191), (false, 329)] : List (Bool × Nat)).map (zpl zTs zNs) := rfl
set_option maxRecDepth 100000 in
theorem zs_124 : (zMs zCL zP zm_124).map Prod.fst = (zMs zCL zP zm_124).map Prod.snd := rfl
set_option maxRecDepth 100000 in
theorem zc_124 : zmeth zTs zm_124 := zM_meth (Ns := zNs) (zpl_hold (is := [(false, 475), (false, 42), (false, 474), (false, 22)]) rfl) (by decide +kernel) (by decide +kernel) (plainFor_of_name (by decide +kernel)) (fun h => by cases h)
theorem zo_124 : (Nat.ble zm_124.2.2.2.2.2.2.1 2 = true → zmeth zTs zm_124) ∧ ∀ row ∈ zm_124.2.2.2.2.2.2.2.2, zrowok "SiphonReport" zTs zNs zCL zP zm_124 row := ⟨fun _ => zc_124, zM_rows zb_124 (zpl_hold zw_124) zs_124⟩
set_option maxRecDepth 100000 in
theorem zb_125 : zMb zCL zP zm_125 = true := by decide +kernel
set_option maxRecDepth 100000 in
theorem zw_125 : (zMw "SiphonReport" zCL zP zm_125).map some = ([(false, 462), (false, 465), (false, 466), (false, 469), (false, 473)] : List (Bool × Nat)).map (zpl zTs zNs) := rfl
set_option maxRecDepth 100000 in
theorem zs_125 : (zMs zCL zP zm_125).map Prod.fst = (zMs zCL zP zm_125).map Prod.snd := rfl
set_option maxRecDepth 100000 in
theorem zc_125 : zmeth zTs zm_125 := zM_meth (Ns := zNs) (zpl_hold (is := [(false, 461), (false, 42), (false, 459), (false, 460)]) rfl) (by decide +kernel) (by decide +kernel) (plainFor_of_name (by decide +kernel)) (fun h => by cases h)
theorem zo_125 : (Nat.ble zm_125.2.2.2.2.2.2.1 2 = true → zmeth zTs zm_125) ∧ ∀ row ∈ zm_125.2.2.2.2.2.2.2.2, zrowok "SiphonReport" zTs zNs zCL zP zm_125 row := ⟨fun _ => zc_125, zM_rows zb_125 (zpl_hold zw_125) zs_125⟩
set_option maxRecDepth 100000 in
theorem zb_126 : zMb zCL zP zm_126 = true := by decide +kernel
set_option maxRecDepth 100000 in
theorem zw_126 : (zMw "SiphonReport" zCL zP zm_126).map some = ([(false, 644), (false, 494), (false, 646), (false, 629), (false, 680), (false, 676), (false, 676)] : List (Bool × Nat)).map (zpl zTs zNs) := rfl
set_option maxRecDepth 100000 in
theorem zs_126 : (zMs zCL zP zm_126).map Prod.fst = (zMs zCL zP zm_126).map Prod.snd := rfl
set_option maxRecDepth 100000 in
theorem zc_126 : zmeth zTs zm_126 := zM_meth (Ns := zNs) (zpl_hold (is := [(false, 679), (false, 52), (false, 678), (false, 41)]) rfl) (by decide +kernel) (by decide +kernel) (plainFor_of_name (by decide +kernel)) (fun h => by cases h)
theorem zo_126 : (Nat.ble zm_126.2.2.2.2.2.2.1 2 = true → zmeth zTs zm_126) ∧ ∀ row ∈ zm_126.2.2.2.2.2.2.2.2, zrowok "SiphonReport" zTs zNs zCL zP zm_126 row := ⟨fun _ => zc_126, zM_rows zb_126 (zpl_hold zw_126) zs_126⟩
set_option maxRecDepth 100000 in
theorem zb_127 : zMb zCL zP zm_127 = true := by decide +kernel
set_option maxRecDepth 100000 in
theorem zw_127 : (zMw "SiphonReport" zCL zP zm_127).map some = ([(false, 675), (false, 644), (false, 676), (false, 677), (false, 500), (false, 681), (false, 502), (false, 503), (false, 570)] : List (Bool × Nat)).map (zpl zTs zNs) := rfl
set_option maxRecDepth 100000 in
theorem zs_127 : (zMs zCL zP zm_127).map Prod.fst = (zMs zCL zP zm_127).map Prod.snd := rfl
set_option maxRecDepth 100000 in
theorem zc_127 : zmeth zTs zm_127 := zM_meth (Ns := zNs) (zpl_hold (is := [(false, 674), (false, 52), (false, 672), (false, 673)]) rfl) (by decide +kernel) (by decide +kernel) (plainFor_of_name (by decide +kernel)) (fun h => by cases h)
theorem zo_127 : (Nat.ble zm_127.2.2.2.2.2.2.1 2 = true → zmeth zTs zm_127) ∧ ∀ row ∈ zm_127.2.2.2.2.2.2.2.2, zrowok "SiphonReport" zTs zNs zCL zP zm_127 row := ⟨fun _ => zc_127, zM_rows zb_127 (zpl_hold zw_127) zs_127⟩
set_option maxRecDepth 100000 in
theorem zb_128 : zMb zCL zP zm_128 = true := by decide +kernel
set_option maxRecDepth 100000 in
theorem zw_128 : (zMw "SiphonReport" zCL zP zm_128).map some = ([(false, 55), (false, 56), (false, 42), (false, 57), (false, 480), (false, 481), (false, 52), (false, 482), (false, 202), (false, 531), (false, 210), (false, 535), (false, 214), (false, 539), (false, 379), (false, 601), (false, 383), (false, 605), (false, 387), (false, 609), (false, 396), (false, 616), (false, 400), (false, 617), (false, 404), (false, 621), (false, 408), (false, 625), (false, 412), (false, 632), (false, 417), (false, 636), (false, 421), (false, 640), (false, 425), (false, 647), (false, 429), (false, 651), (false, 441), (false, 655), (false, 446), (false, 659), (false, 450), (false, 663), (false, 454), (false, 667), (false, 458), (false, 671)] : List (Bool × Nat)).map (zpl zTs zNs) := rfl
set_option maxRecDepth 100000 in
theorem zs_128 : (zMs zCL zP zm_128).map Prod.fst = (zMs zCL zP zm_128).map Prod.snd := rfl
theorem zo_128 : (Nat.ble zm_128.2.2.2.2.2.2.1 2 = true → zmeth zTs zm_128) ∧ ∀ row ∈ zm_128.2.2.2.2.2.2.2.2, zrowok "SiphonReport" zTs zNs zCL zP zm_128 row := ⟨fun h => absurd h (by decide +kernel), zM_rows zb_128 (zpl_hold zw_128) zs_128⟩

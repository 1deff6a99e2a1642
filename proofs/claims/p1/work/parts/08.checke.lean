/-! The methods 81 to 101, instruction by instruction. -/
set_option maxRecDepth 100000 in
theorem zb_81 : zMb zCL zP zm_81 = true := by decide +kernel
set_option maxRecDepth 100000 in
theorem zw_81 : (zMw "SiphonReport" zCL zP zm_81).map some = ([(false, 586), (false, 507), (false, 506), (false, 507), (false, 506), (false, 598), (false, 598), (false, 504), (false, 502), (false, 506), (false, 506), (false, 507), (false, 504), (false, 502), (false, 507), (false, 503), (false, 502), (false, 502), (false, 502)] : List (Bool × Nat)).map (zpl zTs zNs) := rfl
set_option maxRecDepth 100000 in
theorem zs_81 : (zMs zCL zP zm_81).map Prod.fst = (zMs zCL zP zm_81).map Prod.snd := rfl
set_option maxRecDepth 100000 in
theorem zc_81 : zmeth zTs zm_81 := zM_meth (Ns := zNs) (zpl_hold (is := [(false, 585), (false, 52), (false, 584), (false, 34)]) rfl) (by decide +kernel) (by decide +kernel) (plainFor_of_name (by decide +kernel)) (fun h => by cases h)
theorem zo_81 : (Nat.ble zm_81.2.2.2.2.2.2.1 2 = true → zmeth zTs zm_81) ∧ ∀ row ∈ zm_81.2.2.2.2.2.2.2.2, zrowok "SiphonReport" zTs zNs zCL zP zm_81 row := ⟨fun _ => zc_81, zM_rows zb_81 (zpl_hold zw_81) zs_81⟩
set_option maxRecDepth 100000 in
theorem zb_82 : zMb zCL zP zm_82 = true := by decide +kernel
set_option maxRecDepth 100000 in
theorem zw_82 : (zMw "SiphonReport" zCL zP zm_82).map some = ([(false, 488), (false, 494), (false, 491), (false, 495), (false, 496), (false, 489), (false, 497), (false, 494), (false, 494), (false, 490), (false, 498), (false, 497), (false, 498), (false, 498), (false, 498), (false, 498), (false, 567), (false, 500), (false, 502), (false, 570), (false, 577), (false, 583)] : List (Bool × Nat)).map (zpl zTs zNs) := rfl
set_option maxRecDepth 100000 in
theorem zs_82 : (zMs zCL zP zm_82).map Prod.fst = (zMs zCL zP zm_82).map Prod.snd := rfl
set_option maxRecDepth 100000 in
theorem zc_82 : zmeth zTs zm_82 := zM_meth (Ns := zNs) (zpl_hold (is := [(false, 566), (false, 52), (false, 565), (false, 29)]) rfl) (by decide +kernel) (by decide +kernel) (plainFor_of_name (by decide +kernel)) (fun h => by cases h)
theorem zo_82 : (Nat.ble zm_82.2.2.2.2.2.2.1 2 = true → zmeth zTs zm_82) ∧ ∀ row ∈ zm_82.2.2.2.2.2.2.2.2, zrowok "SiphonReport" zTs zNs zCL zP zm_82 row := ⟨fun _ => zc_82, zM_rows zb_82 (zpl_hold zw_82) zs_82⟩
set_option maxRecDepth 100000 in
theorem zb_83 : zMb zCL zP zm_83 = true := by decide +kernel
set_option maxRecDepth 100000 in
theorem zw_83 : (zMw "SiphonReport" zCL zP zm_83).map some = ([(false, 543), (false, 488), (false, 491), (false, 490), (false, 549), (false, 487), (false, 486), (false, 552), (false, 564), (false, 495)] : List (Bool × Nat)).map (zpl zTs zNs) := rfl
set_option maxRecDepth 100000 in
theorem zs_83 : (zMs zCL zP zm_83).map Prod.fst = (zMs zCL zP zm_83).map Prod.snd := rfl
set_option maxRecDepth 100000 in
theorem zc_83 : zmeth zTs zm_83 := zM_meth (Ns := zNs) (zpl_hold (is := [(false, 542), (false, 52), (false, 540), (false, 541)]) rfl) (by decide +kernel) (by decide +kernel) (plainFor_of_name (by decide +kernel)) (fun h => by cases h)
theorem zo_83 : (Nat.ble zm_83.2.2.2.2.2.2.1 2 = true → zmeth zTs zm_83) ∧ ∀ row ∈ zm_83.2.2.2.2.2.2.2.2, zrowok "SiphonReport" zTs zNs zCL zP zm_83 row := ⟨fun _ => zc_83, zM_rows zb_83 (zpl_hold zw_83) zs_83⟩
set_option maxRecDepth 100000 in
theorem zb_84 : zMb zCL zP zm_84 = true := by decide +kernel
set_option maxRecDepth 100000 in
theorem zw_84 : (zMw "SiphonReport" zCL zP zm_84).map some = ([(false, 191), (true, 46)] : List (Bool × Nat)).map (zpl zTs zNs) := rfl
set_option maxRecDepth 100000 in
theorem zs_84 : (zMs zCL zP zm_84).map Prod.fst = (zMs zCL zP zm_84).map Prod.snd := rfl
set_option maxRecDepth 100000 in
theorem zc_84 : zmeth zTs zm_84 := zM_meth (Ns := zNs) (zpl_hold (is := [(false, 382), (false, 42), (false, 380), (false, 381)]) rfl) (by decide +kernel) (by decide +kernel) (plainFor_of_name (by decide +kernel)) (fun h => by cases h)
theorem zo_84 : (Nat.ble zm_84.2.2.2.2.2.2.1 2 = true → zmeth zTs zm_84) ∧ ∀ row ∈ zm_84.2.2.2.2.2.2.2.2, zrowok "SiphonReport" zTs zNs zCL zP zm_84 row := ⟨fun _ => zc_84, zM_rows zb_84 (zpl_hold zw_84) zs_84⟩
set_option maxRecDepth 100000 in
theorem zb_85 : zMb zCL zP zm_85 = true := by decide +kernel
set_option maxRecDepth 100000 in
theorem zw_85 : (zMw "SiphonReport" zCL zP zm_85).map some = ([(false, 495)] : List (Bool × Nat)).map (zpl zTs zNs) := rfl
set_option maxRecDepth 100000 in
theorem zs_85 : (zMs zCL zP zm_85).map Prod.fst = (zMs zCL zP zm_85).map Prod.snd := rfl
set_option maxRecDepth 100000 in
theorem zc_85 : zmeth zTs zm_85 := zM_meth (Ns := zNs) (zpl_hold (is := [(false, 604), (false, 52), (false, 602), (false, 603)]) rfl) (by decide +kernel) (by decide +kernel) (plainFor_of_name (by decide +kernel)) (fun h => by cases h)
theorem zo_85 : (Nat.ble zm_85.2.2.2.2.2.2.1 2 = true → zmeth zTs zm_85) ∧ ∀ row ∈ zm_85.2.2.2.2.2.2.2.2, zrowok "SiphonReport" zTs zNs zCL zP zm_85 row := ⟨fun _ => zc_85, zM_rows zb_85 (zpl_hold zw_85) zs_85⟩
set_option maxRecDepth 100000 in
theorem zb_86 : zMb zCL zP zm_86 = true := by decide +kernel
set_option maxRecDepth 100000 in
theorem zw_86 : (zMw "SiphonReport" zCL zP zm_86).map some = ([(false, 191), (true, 42)] : List (Bool × Nat)).map (zpl zTs zNs) := rfl
set_option maxRecDepth 100000 in
theorem zs_86 : (zMs zCL zP zm_86).map Prod.fst = (zMs zCL zP zm_86).map Prod.snd := rfl
set_option maxRecDepth 100000 in
theorem zc_86 : zmeth zTs zm_86 := zM_meth (Ns := zNs) (zpl_hold (is := [(false, 386), (false, 42), (false, 384), (false, 385)]) rfl) (by decide +kernel) (by decide +kernel) (plainFor_of_name (by decide +kernel)) (fun h => by cases h)
theorem zo_86 : (Nat.ble zm_86.2.2.2.2.2.2.1 2 = true → zmeth zTs zm_86) ∧ ∀ row ∈ zm_86.2.2.2.2.2.2.2.2, zrowok "SiphonReport" zTs zNs zCL zP zm_86 row := ⟨fun _ => zc_86, zM_rows zb_86 (zpl_hold zw_86) zs_86⟩
set_option maxRecDepth 100000 in
theorem zb_87 : zMb zCL zP zm_87 = true := by decide +kernel
set_option maxRecDepth 100000 in
theorem zw_87 : (zMw "SiphonReport" zCL zP zm_87).map some = ([(false, 494)] : List (Bool × Nat)).map (zpl zTs zNs) := rfl
set_option maxRecDepth 100000 in
theorem zs_87 : (zMs zCL zP zm_87).map Prod.fst = (zMs zCL zP zm_87).map Prod.snd := rfl
set_option maxRecDepth 100000 in
theorem zc_87 : zmeth zTs zm_87 := zM_meth (Ns := zNs) (zpl_hold (is := [(false, 608), (false, 52), (false, 606), (false, 607)]) rfl) (by decide +kernel) (by decide +kernel) (plainFor_of_name (by decide +kernel)) (fun h => by cases h)
theorem zo_87 : (Nat.ble zm_87.2.2.2.2.2.2.1 2 = true → zmeth zTs zm_87) ∧ ∀ row ∈ zm_87.2.2.2.2.2.2.2.2, zrowok "SiphonReport" zTs zNs zCL zP zm_87 row := ⟨fun _ => zc_87, zM_rows zb_87 (zpl_hold zw_87) zs_87⟩
set_option maxRecDepth 100000 in
theorem zb_88 : zMb zCL zP zm_88 = true := by decide +kernel
set_option maxRecDepth 100000 in
theorem zw_88 : (zMw "SiphonReport" zCL zP zm_88).map some = ([(false, 176)] : List (Bool × Nat)).map (zpl zTs zNs) := rfl
set_option maxRecDepth 100000 in
theorem zs_88 : (zMs zCL zP zm_88).map Prod.fst = (zMs zCL zP zm_88).map Prod.snd := rfl
set_option maxRecDepth 100000 in
theorem zc_88 : zmeth zTs zm_88 := zM_meth (Ns := zNs) (zpl_hold (is := [(false, 394), (false, 51), (false, 392), (false, 393)]) rfl) (by decide +kernel) (by decide +kernel) (plainFor_of_name (by decide +kernel)) (fun h => by cases h)
theorem zo_88 : (Nat.ble zm_88.2.2.2.2.2.2.1 2 = true → zmeth zTs zm_88) ∧ ∀ row ∈ zm_88.2.2.2.2.2.2.2.2, zrowok "SiphonReport" zTs zNs zCL zP zm_88 row := ⟨fun _ => zc_88, zM_rows zb_88 (zpl_hold zw_88) zs_88⟩
set_option maxRecDepth 100000 in
theorem zb_89 : zMb zCL zP zm_89 = true := by decide +kernel
set_option maxRecDepth 100000 in
theorem zw_89 : (zMw "SiphonReport" zCL zP zm_89).map some = ([(false, 191), (false, 391), (false, 395), (false, 191), (true, 34)] : List (Bool × Nat)).map (zpl zTs zNs) := rfl
set_option maxRecDepth 100000 in
theorem zs_89 : (zMs zCL zP zm_89).map Prod.fst = (zMs zCL zP zm_89).map Prod.snd := rfl
set_option maxRecDepth 100000 in
theorem zc_89 : zmeth zTs zm_89 := zM_meth (Ns := zNs) (zpl_hold (is := [(false, 390), (false, 42), (false, 388), (false, 389)]) rfl) (by decide +kernel) (by decide +kernel) (plainFor_of_name (by decide +kernel)) (fun h => by cases h)
theorem zo_89 : (Nat.ble zm_89.2.2.2.2.2.2.1 2 = true → zmeth zTs zm_89) ∧ ∀ row ∈ zm_89.2.2.2.2.2.2.2.2, zrowok "SiphonReport" zTs zNs zCL zP zm_89 row := ⟨fun _ => zc_89, zM_rows zb_89 (zpl_hold zw_89) zs_89⟩
set_option maxRecDepth 100000 in
theorem zb_90 : zMb zCL zP zm_90 = true := by decide +kernel
set_option maxRecDepth 100000 in
theorem zw_90 : (zMw "SiphonReport" zCL zP zm_90).map some = ([(false, 494)] : List (Bool × Nat)).map (zpl zTs zNs) := rfl
set_option maxRecDepth 100000 in
theorem zs_90 : (zMs zCL zP zm_90).map Prod.fst = (zMs zCL zP zm_90).map Prod.snd := rfl
set_option maxRecDepth 100000 in
theorem zc_90 : zmeth zTs zm_90 := zM_meth (Ns := zNs) (zpl_hold (is := [(false, 615), (false, 52), (false, 614), (false, 39)]) rfl) (by decide +kernel) (by decide +kernel) (plainFor_of_name (by decide +kernel)) (fun h => by cases h)
theorem zo_90 : (Nat.ble zm_90.2.2.2.2.2.2.1 2 = true → zmeth zTs zm_90) ∧ ∀ row ∈ zm_90.2.2.2.2.2.2.2.2, zrowok "SiphonReport" zTs zNs zCL zP zm_90 row := ⟨fun _ => zc_90, zM_rows zb_90 (zpl_hold zw_90) zs_90⟩
set_option maxRecDepth 100000 in
theorem zb_91 : zMb zCL zP zm_91 = true := by decide +kernel
set_option maxRecDepth 100000 in
theorem zw_91 : (zMw "SiphonReport" zCL zP zm_91).map some = ([(false, 613), (false, 496)] : List (Bool × Nat)).map (zpl zTs zNs) := rfl
set_option maxRecDepth 100000 in
theorem zs_91 : (zMs zCL zP zm_91).map Prod.fst = (zMs zCL zP zm_91).map Prod.snd := rfl
set_option maxRecDepth 100000 in
theorem zc_91 : zmeth zTs zm_91 := zM_meth (Ns := zNs) (zpl_hold (is := [(false, 612), (false, 52), (false, 610), (false, 611)]) rfl) (by decide +kernel) (by decide +kernel) (plainFor_of_name (by decide +kernel)) (fun h => by cases h)
theorem zo_91 : (Nat.ble zm_91.2.2.2.2.2.2.1 2 = true → zmeth zTs zm_91) ∧ ∀ row ∈ zm_91.2.2.2.2.2.2.2.2, zrowok "SiphonReport" zTs zNs zCL zP zm_91 row := ⟨fun _ => zc_91, zM_rows zb_91 (zpl_hold zw_91) zs_91⟩
set_option maxRecDepth 100000 in
theorem zb_92 : zMb zCL zP zm_92 = true := by decide +kernel
set_option maxRecDepth 100000 in
theorem zw_92 : (zMw "SiphonReport" zCL zP zm_92).map some = ([(false, 191), (false, 329)] : List (Bool × Nat)).map (zpl zTs zNs) := rfl
set_option maxRecDepth 100000 in
theorem zs_92 : (zMs zCL zP zm_92).map Prod.fst = (zMs zCL zP zm_92).map Prod.snd := rfl
set_option maxRecDepth 100000 in
theorem zc_92 : zmeth zTs zm_92 := zM_meth (Ns := zNs) (zpl_hold (is := [(false, 399), (false, 42), (false, 397), (false, 398)]) rfl) (by decide +kernel) (by decide +kernel) (plainFor_of_name (by decide +kernel)) (fun h => by cases h)
theorem zo_92 : (Nat.ble zm_92.2.2.2.2.2.2.1 2 = true → zmeth zTs zm_92) ∧ ∀ row ∈ zm_92.2.2.2.2.2.2.2.2, zrowok "SiphonReport" zTs zNs zCL zP zm_92 row := ⟨fun _ => zc_92, zM_rows zb_92 (zpl_hold zw_92) zs_92⟩
set_option maxRecDepth 100000 in
theorem zb_93 : zMb zCL zP zm_93 = true := by decide +kernel
set_option maxRecDepth 100000 in
theorem zw_93 : (zMw "SiphonReport" zCL zP zm_93).map some = ([(false, 187), (true, 14)] : List (Bool × Nat)).map (zpl zTs zNs) := rfl
set_option maxRecDepth 100000 in
theorem zs_93 : (zMs zCL zP zm_93).map Prod.fst = (zMs zCL zP zm_93).map Prod.snd := rfl
set_option maxRecDepth 100000 in
theorem zc_93 : zmeth zTs zm_93 := zM_meth (Ns := zNs) (zpl_hold (is := [(false, 403), (false, 42), (false, 401), (false, 402)]) rfl) (by decide +kernel) (by decide +kernel) (plainFor_of_name (by decide +kernel)) (fun h => by cases h)
theorem zo_93 : (Nat.ble zm_93.2.2.2.2.2.2.1 2 = true → zmeth zTs zm_93) ∧ ∀ row ∈ zm_93.2.2.2.2.2.2.2.2, zrowok "SiphonReport" zTs zNs zCL zP zm_93 row := ⟨fun _ => zc_93, zM_rows zb_93 (zpl_hold zw_93) zs_93⟩
set_option maxRecDepth 100000 in
theorem zb_94 : zMb zCL zP zm_94 = true := by decide +kernel
set_option maxRecDepth 100000 in
theorem zw_94 : (zMw "SiphonReport" zCL zP zm_94).map some = ([(false, 494), (false, 499)] : List (Bool × Nat)).map (zpl zTs zNs) := rfl
set_option maxRecDepth 100000 in
theorem zs_94 : (zMs zCL zP zm_94).map Prod.fst = (zMs zCL zP zm_94).map Prod.snd := rfl
set_option maxRecDepth 100000 in
theorem zc_94 : zmeth zTs zm_94 := zM_meth (Ns := zNs) (zpl_hold (is := [(false, 620), (false, 52), (false, 618), (false, 619)]) rfl) (by decide +kernel) (by decide +kernel) (plainFor_of_name (by decide +kernel)) (fun h => by cases h)
theorem zo_94 : (Nat.ble zm_94.2.2.2.2.2.2.1 2 = true → zmeth zTs zm_94) ∧ ∀ row ∈ zm_94.2.2.2.2.2.2.2.2, zrowok "SiphonReport" zTs zNs zCL zP zm_94 row := ⟨fun _ => zc_94, zM_rows zb_94 (zpl_hold zw_94) zs_94⟩
set_option maxRecDepth 100000 in
theorem zb_95 : zMb zCL zP zm_95 = true := by decide +kernel
set_option maxRecDepth 100000 in
theorem zw_95 : (zMw "SiphonReport" zCL zP zm_95).map some = ([(false, 191), (false, 391), (false, 187), (true, 10)] : List (Bool × Nat)).map (zpl zTs zNs) := rfl
set_option maxRecDepth 100000 in
theorem zs_95 : (zMs zCL zP zm_95).map Prod.fst = (zMs zCL zP zm_95).map Prod.snd := rfl
set_option maxRecDepth 100000 in
theorem zc_95 : zmeth zTs zm_95 := zM_meth (Ns := zNs) (zpl_hold (is := [(false, 407), (false, 42), (false, 405), (false, 406)]) rfl) (by decide +kernel) (by decide +kernel) (plainFor_of_name (by decide +kernel)) (fun h => by cases h)
theorem zo_95 : (Nat.ble zm_95.2.2.2.2.2.2.1 2 = true → zmeth zTs zm_95) ∧ ∀ row ∈ zm_95.2.2.2.2.2.2.2.2, zrowok "SiphonReport" zTs zNs zCL zP zm_95 row := ⟨fun _ => zc_95, zM_rows zb_95 (zpl_hold zw_95) zs_95⟩
set_option maxRecDepth 100000 in
theorem zb_96 : zMb zCL zP zm_96 = true := by decide +kernel
set_option maxRecDepth 100000 in
theorem zw_96 : (zMw "SiphonReport" zCL zP zm_96).map some = ([(false, 613), (false, 499), (false, 499)] : List (Bool × Nat)).map (zpl zTs zNs) := rfl
set_option maxRecDepth 100000 in
theorem zs_96 : (zMs zCL zP zm_96).map Prod.fst = (zMs zCL zP zm_96).map Prod.snd := rfl
set_option maxRecDepth 100000 in
theorem zc_96 : zmeth zTs zm_96 := zM_meth (Ns := zNs) (zpl_hold (is := [(false, 624), (false, 52), (false, 622), (false, 623)]) rfl) (by decide +kernel) (by decide +kernel) (plainFor_of_name (by decide +kernel)) (fun h => by cases h)
theorem zo_96 : (Nat.ble zm_96.2.2.2.2.2.2.1 2 = true → zmeth zTs zm_96) ∧ ∀ row ∈ zm_96.2.2.2.2.2.2.2.2, zrowok "SiphonReport" zTs zNs zCL zP zm_96 row := ⟨fun _ => zc_96, zM_rows zb_96 (zpl_hold zw_96) zs_96⟩
set_option maxRecDepth 100000 in
theorem zb_97 : zMb zCL zP zm_97 = true := by decide +kernel
set_option maxRecDepth 100000 in
theorem zw_97 : (zMw "SiphonReport" zCL zP zm_97).map some = ([(false, 187), (true, 15)] : List (Bool × Nat)).map (zpl zTs zNs) := rfl
set_option maxRecDepth 100000 in
theorem zs_97 : (zMs zCL zP zm_97).map Prod.fst = (zMs zCL zP zm_97).map Prod.snd := rfl
set_option maxRecDepth 100000 in
theorem zc_97 : zmeth zTs zm_97 := zM_meth (Ns := zNs) (zpl_hold (is := [(false, 411), (false, 42), (false, 409), (false, 410)]) rfl) (by decide +kernel) (by decide +kernel) (plainFor_of_name (by decide +kernel)) (fun h => by cases h)
theorem zo_97 : (Nat.ble zm_97.2.2.2.2.2.2.1 2 = true → zmeth zTs zm_97) ∧ ∀ row ∈ zm_97.2.2.2.2.2.2.2.2, zrowok "SiphonReport" zTs zNs zCL zP zm_97 row := ⟨fun _ => zc_97, zM_rows zb_97 (zpl_hold zw_97) zs_97⟩
set_option maxRecDepth 100000 in
theorem zb_98 : zMb zCL zP zm_98 = true := by decide +kernel
set_option maxRecDepth 100000 in
theorem zw_98 : (zMw "SiphonReport" zCL zP zm_98).map some = ([(false, 498), (false, 498)] : List (Bool × Nat)).map (zpl zTs zNs) := rfl
set_option maxRecDepth 100000 in
theorem zs_98 : (zMs zCL zP zm_98).map Prod.fst = (zMs zCL zP zm_98).map Prod.snd := rfl
set_option maxRecDepth 100000 in
theorem zc_98 : zmeth zTs zm_98 := zM_meth (Ns := zNs) (zpl_hold (is := [(false, 631), (false, 52), (false, 630), (false, 40)]) rfl) (by decide +kernel) (by decide +kernel) (plainFor_of_name (by decide +kernel)) (fun h => by cases h)
theorem zo_98 : (Nat.ble zm_98.2.2.2.2.2.2.1 2 = true → zmeth zTs zm_98) ∧ ∀ row ∈ zm_98.2.2.2.2.2.2.2.2, zrowok "SiphonReport" zTs zNs zCL zP zm_98 row := ⟨fun _ => zc_98, zM_rows zb_98 (zpl_hold zw_98) zs_98⟩
set_option maxRecDepth 100000 in
theorem zb_99 : zMb zCL zP zm_99 = true := by decide +kernel
set_option maxRecDepth 100000 in
theorem zw_99 : (zMw "SiphonReport" zCL zP zm_99).map some = ([(false, 494), (false, 629)] : List (Bool × Nat)).map (zpl zTs zNs) := rfl
set_option maxRecDepth 100000 in
theorem zs_99 : (zMs zCL zP zm_99).map Prod.fst = (zMs zCL zP zm_99).map Prod.snd := rfl
set_option maxRecDepth 100000 in
theorem zc_99 : zmeth zTs zm_99 := zM_meth (Ns := zNs) (zpl_hold (is := [(false, 628), (false, 52), (false, 626), (false, 627)]) rfl) (by decide +kernel) (by decide +kernel) (plainFor_of_name (by decide +kernel)) (fun h => by cases h)
theorem zo_99 : (Nat.ble zm_99.2.2.2.2.2.2.1 2 = true → zmeth zTs zm_99) ∧ ∀ row ∈ zm_99.2.2.2.2.2.2.2.2, zrowok "SiphonReport" zTs zNs zCL zP zm_99 row := ⟨fun _ => zc_99, zM_rows zb_99 (zpl_hold zw_99) zs_99⟩
set_option maxRecDepth 100000 in
theorem zb_100 : zMb zCL zP zm_100 = true := by decide +kernel
set_option maxRecDepth 100000 in
theorem zw_100 : (zMw "SiphonReport" zCL zP zm_100).map some = ([(false, 191), (false, 391), (false, 187), (false, 416)] : List (Bool × Nat)).map (zpl zTs zNs) := rfl
set_option maxRecDepth 100000 in
theorem zs_100 : (zMs zCL zP zm_100).map Prod.fst = (zMs zCL zP zm_100).map Prod.snd := rfl
set_option maxRecDepth 100000 in
theorem zc_100 : zmeth zTs zm_100 := zM_meth (Ns := zNs) (zpl_hold (is := [(false, 415), (false, 42), (false, 413), (false, 414)]) rfl) (by decide +kernel) (by decide +kernel) (plainFor_of_name (by decide +kernel)) (fun h => by cases h)
theorem zo_100 : (Nat.ble zm_100.2.2.2.2.2.2.1 2 = true → zmeth zTs zm_100) ∧ ∀ row ∈ zm_100.2.2.2.2.2.2.2.2, zrowok "SiphonReport" zTs zNs zCL zP zm_100 row := ⟨fun _ => zc_100, zM_rows zb_100 (zpl_hold zw_100) zs_100⟩
set_option maxRecDepth 100000 in
theorem zb_101 : zMb zCL zP zm_101 = true := by decide +kernel
set_option maxRecDepth 100000 in
theorem zw_101 : (zMw "SiphonReport" zCL zP zm_101).map some = ([(false, 613), (false, 494), (false, 498), (false, 498)] : List (Bool × Nat)).map (zpl zTs zNs) := rfl
set_option maxRecDepth 100000 in
theorem zs_101 : (zMs zCL zP zm_101).map Prod.fst = (zMs zCL zP zm_101).map Prod.snd := rfl
set_option maxRecDepth 100000 in
theorem zc_101 : zmeth zTs zm_101 := zM_meth (Ns := zNs) (zpl_hold (is := [(false, 635), (false, 52), (false, 633), (false, 634)]) rfl) (by decide +kernel) (by decide +kernel) (plainFor_of_name (by decide +kernel)) (fun h => by cases h)
theorem zo_101 : (Nat.ble zm_101.2.2.2.2.2.2.1 2 = true → zmeth zTs zm_101) ∧ ∀ row ∈ zm_101.2.2.2.2.2.2.2.2, zrowok "SiphonReport" zTs zNs zCL zP zm_101 row := ⟨fun _ => zc_101, zM_rows zb_101 (zpl_hold zw_101) zs_101⟩

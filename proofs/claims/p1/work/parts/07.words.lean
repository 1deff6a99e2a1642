/-! The tables are right: words among the claim's, classes. -/
set_option maxRecDepth 100000 in
theorem zTs_eq : zTs = zpk [0, 0, 0, 0, 0, 0, 0, 0, 0, 0, 0, 0, 0, 0, 0, 0, 0, 0, 0, 0, 0, 0, 0, 0, 0, 0, 0, 0, 0, 0, 0, 0, 0, 0, 0, 0, 0, 0, 0, 0, 0, 0, 1, 0, 0, 0, 0, 0, 0, 0, 0, 0, 0, 0, 0, 0, 0, 0, 0, 0, 0, 0, 0, 0, 0, 1, 0, 0, 0, 2, 3, 1, 2, 0, 0, 1, 0, 0, 0, 0, 0, 0, 1, 1, 2, 0, 1, 0, 0, 0, 0, 0, 0, 0, 1, 1, 1, 2, 0, 0, 1, 0, 0, 0, 0, 0, 2, 1, 2, 1, 1, 1, 1, 1, 1, 1, 1, 2, 0, 1, 0, 0, 0, 0, 1, 0, 0, 0, 1, 1, 1, 1, 1, 1, 2, 0, 1, 0, 1, 1, 1, 1, 1, 2, 0, 1, 0, 0, 0, 1, 1, 1, 2, 0, 1, 0, 0, 0, 1, 1, 1, 1, 1, 0, 1, 1, 2, 0, 1, 0, 0, 0, 0, 2, 0, 3, 4, 4, 1, 1, 1, 1, 1, 1, 2, 0, 0, 0, 0, 0, 0, 0, 0, 0, 1, 1, 1, 1, 1, 1, 1, 1, 2, 0, 0, 0, 0, 0, 0, 0, 0, 0, 0, 0, 0, 0, 0, 0, 0, 0, 0, 0, 0, 1, 0, 0, 1, 0, 0, 1, 0, 0, 1, 0, 0, 1, 0, 1, 0, 0, 1, 0, 0, 1, 0, 0, 0, 0, 0, 0, 0, 0, 0, 0, 1, 0, 0, 1, 0, 0, 0, 0, 1, 0, 0, 0, 0, 0, 1, 0, 0, 0, 0, 1, 0, 1, 0, 0, 0, 0, 0, 0, 1, 0, 0, 1, 0, 0, 0, 0, 0, 1, 0, 0, 1, 0, 0, 0, 0, 0, 0, 0, 0, 0, 0, 0, 0, 0, 0, 0, 0, 0, 0, 1, 0, 0, 1, 0, 0, 0, 0, 1, 0, 0, 0, 0, 0, 1, 0, 0, 0, 0, 0, 0, 0, 0, 0, 0, 0, 0, 1, 0, 0, 0, 0, 0, 0, 0, 0, 0, 0, 0, 0, 1, 0, 0, 0, 0, 1, 0, 0, 0, 0, 0, 0, 0, 1, 0, 0, 1, 0, 1, 1, 0, 0, 0, 1, 0, 0, 0, 0, 0, 0, 0, 0, 0, 0, 0, 0, 0, 0, 0, 0, 0, 0, 0, 0, 0, 0, 0, 0, 0, 0, 0, 0, 0, 0, 0, 0, 0, 0, 0, 0, 0, 0, 0, 0, 0, 0, 0, 0, 0, 0, 0, 0, 0, 0, 0, 0, 0, 0, 0, 0, 0, 0, 0, 0, 0, 0, 0, 0, 0, 0, 0, 0, 0, 0, 0, 0, 0, 0, 0, 0, 0, 0, 0, 0, 0, 0, 0, 0, 0, 0, 1, 0, 0, 0, 1, 0, 0, 1, 0, 0, 0, 1, 0, 0, 0, 0, 0, 0, 0, 0, 0, 0, 0, 0, 0, 0, 0, 0, 0, 0, 0, 0, 0, 0, 0, 0, 0, 0, 0, 0, 0, 0, 0, 0, 0, 0, 1, 1, 1, 1, 1, 1, 1, 1, 1, 1, 1, 1, 1, 1, 1, 1, 1, 1, 1, 1, 1, 2, 0, 0, 0, 0, 0, 0, 0, 0, 0, 0, 0, 0, 0, 1, 0, 0, 0, 0, 0, 1, 0, 0, 1, 0, 0, 1, 0, 0, 1, 0, 0, 1, 0, 0, 1, 0, 0, 1, 0, 0, 0, 0, 0, 0, 1, 0, 0, 1, 0, 0, 1, 0, 0, 1, 0, 0, 1, 0, 0, 1, 0, 0, 1, 0, 0, 1, 0, 0, 0, 0, 0, 0, 0, 0, 0, 0, 0, 0, 0, 0, 0, 0, 0, 1, 0, 0, 0, 0, 0, 0, 0, 0, 0, 0, 0, 0, 0, 0, 0, 1, 0, 0, 0, 0, 0, 0, 0, 0, 0, 0, 0, 0, 0, 0, 0, 0, 0, 0, 0, 0, 0, 0, 0, 0, 0, 0, 0, 0, 0, 0, 0, 0, 0, 0, 0, 0, 0, 0, 0, 0, 0, 0, 0, 0, 0, 0, 0, 1, 0, 0, 0] lw_tbl := rfl
set_option maxRecDepth 100000 in
theorem zNs_eq : zNs = zpk [66, 4, 0, 1, 0, 0, 8, 15, 19, 6, 0, 1, 1, 0, 1, 1, 17, 5, 6, 1, 1, 9, 2, 1, 11, 4, 1, 7, 4, 3, 1, 1, 10, 5, 0, 2, 0, 0, 1, 0, 0, 0, 1, 0, 0, 0, 1, 81, 29, 6, 8, 7, 44, 20, 13, 5, 15, 1] lw_tbl := rfl
theorem zTs_in : ∀ w ∈ zTs, w ∈ lw_tbl := fun w h => zpk_in _ _ w (by rw [← zTs_eq]; exact h)
theorem zNs_in : ∀ w ∈ zNs, w ∈ lw_tbl := fun w h => zpk_in _ _ w (by rw [← zNs_eq]; exact h)
set_option maxRecDepth 100000 in
theorem zTs_good : ∀ w ∈ zTs, goodWord w = true := List.all_eq_true.mp (by decide +kernel : zTs.all goodWord = true)
set_option maxRecDepth 100000 in
theorem zNs_nest : ∀ w ∈ zNs, znest w = true := List.all_eq_true.mp (by decide +kernel : zNs.all znest = true)
theorem zin_of {Ts ws : List Cond} {is : List Nat} (h : ws.map some = is.map (fun i => Ts[i]?)) : ∀ w ∈ ws, w ∈ Ts := by
  intro w hw
  have h1 : some w ∈ is.map (fun i => Ts[i]?) := by rw [← h]; exact List.mem_map.mpr ⟨w, hw, rfl⟩
  obtain ⟨i, -, hi⟩ := List.mem_map.mp h1
  exact List.mem_of_getElem? hi
set_option maxRecDepth 100000 in
theorem zcl_0 : zcls zTs zFT zCD 0 ("SiphonReport", zF_0, 9) := ⟨zin_of (is := [193, 194, 195, 196, 197, 198, 199, 200, 201]) rfl, by decide +kernel, by decide +kernel, fun fs h => by cases h; exact ⟨rfl, rfl, by decide +kernel⟩⟩
set_option maxRecDepth 100000 in
theorem zci_0 : Cond.instantiable "SiphonReport" 9 ∈ zTs := List.mem_of_getElem? (i := 56) rfl
set_option maxRecDepth 100000 in
theorem zcl_1 : zcls zTs zFT zCD 1 ("SiphonReport$Text", zF_1, 2) := ⟨zin_of (is := [70, 71]) rfl, by decide +kernel, by decide +kernel, fun fs h => by cases h; exact ⟨rfl, rfl, by decide +kernel⟩⟩
set_option maxRecDepth 100000 in
theorem zci_1 : Cond.instantiable "SiphonReport$Text" 2 ∈ zTs := List.mem_of_getElem? (i := 64) rfl
set_option maxRecDepth 100000 in
theorem zcl_2 : zcls zTs zFT zCD 2 ("SiphonReport$Form", zF_2, 3) := ⟨zin_of (is := [81, 82, 83]) rfl, by decide +kernel, by decide +kernel, fun fs h => by cases h; exact ⟨rfl, rfl, by decide +kernel⟩⟩
set_option maxRecDepth 100000 in
theorem zci_2 : Cond.instantiable "SiphonReport$Form" 3 ∈ zTs := List.mem_of_getElem? (i := 74) rfl
set_option maxRecDepth 100000 in
theorem zcl_3 : zcls zTs zFT zCD 3 ("SiphonReport$Lines", zF_3, 4) := ⟨zin_of (is := [93, 94, 95, 96]) rfl, by decide +kernel, by decide +kernel, fun fs h => by cases h; exact ⟨rfl, rfl, by decide +kernel⟩⟩
set_option maxRecDepth 100000 in
theorem zci_3 : Cond.instantiable "SiphonReport$Lines" 4 ∈ zTs := List.mem_of_getElem? (i := 85) rfl
set_option maxRecDepth 100000 in
theorem zcl_4 : zcls zTs zFT zCD 4 ("SiphonReport$Network", zF_4, 6) := ⟨zin_of (is := [178, 179, 180, 181, 182, 183]) rfl, by decide +kernel, by decide +kernel, fun fs h => by cases h; exact ⟨rfl, rfl, by decide +kernel⟩⟩
set_option maxRecDepth 100000 in
theorem zci_4 : Cond.instantiable "SiphonReport$Network" 6 ∈ zTs := List.mem_of_getElem? (i := 167) rfl
set_option maxRecDepth 100000 in
theorem zcl_5 : zcls zTs zFT zCD 5 ("SiphonReport$Classes", zF_5, 7) := ⟨zin_of (is := [110, 111, 112, 113, 114, 115, 116]) rfl, by decide +kernel, by decide +kernel, fun fs h => by cases h; exact ⟨rfl, rfl, by decide +kernel⟩⟩
set_option maxRecDepth 100000 in
theorem zci_5 : Cond.instantiable "SiphonReport$Classes" 7 ∈ zTs := List.mem_of_getElem? (i := 99) rfl
set_option maxRecDepth 100000 in
theorem zcl_6 : zcls zTs zFT zCD 6 ("SiphonReport$Ranks", zF_6, 4) := ⟨zin_of (is := [139, 140, 141, 142]) rfl, by decide +kernel, by decide +kernel, fun fs h => by cases h; exact ⟨rfl, rfl, by decide +kernel⟩⟩
set_option maxRecDepth 100000 in
theorem zci_6 : Cond.instantiable "SiphonReport$Ranks" 4 ∈ zTs := List.mem_of_getElem? (i := 118) rfl
set_option maxRecDepth 100000 in
theorem zcl_7 : zcls zTs zFT zCD 7 ("SiphonReport$Matrix", zF_7, 3) := ⟨zin_of (is := [131, 132, 133]) rfl, by decide +kernel, by decide +kernel, fun fs h => by cases h; exact ⟨rfl, rfl, by decide +kernel⟩⟩
set_option maxRecDepth 100000 in
theorem zci_7 : Cond.instantiable "SiphonReport$Matrix" 3 ∈ zTs := List.mem_of_getElem? (i := 123) rfl
set_option maxRecDepth 100000 in
theorem zcl_8 : zcls zTs zFT zCD 8 ("SiphonReport$SetList", zF_8, 2) := ⟨zin_of (is := [150, 151]) rfl, by decide +kernel, by decide +kernel, fun fs h => by cases h; exact ⟨rfl, rfl, by decide +kernel⟩⟩
set_option maxRecDepth 100000 in
theorem zci_8 : Cond.instantiable "SiphonReport$SetList" 2 ∈ zTs := List.mem_of_getElem? (i := 144) rfl
set_option maxRecDepth 100000 in
theorem zcl_9 : zcls zTs zFT zCD 9 ("SiphonReport$Sums", zF_9, 3) := ⟨zin_of (is := [163, 164, 165]) rfl, by decide +kernel, by decide +kernel, fun fs h => by cases h; exact ⟨rfl, rfl, by decide +kernel⟩⟩
set_option maxRecDepth 100000 in
theorem zci_9 : Cond.instantiable "SiphonReport$Sums" 3 ∈ zTs := List.mem_of_getElem? (i := 153) rfl
set_option maxRecDepth 100000 in
theorem zcl_10 : zcls zTs zFT zCD 10 ("SiphonReportModel", zF_10, 22) := ⟨zin_of (is := [508, 509, 510, 511, 512, 513, 514, 515, 516, 517, 518, 519, 520, 521, 522, 523, 524, 525, 526, 527, 528, 529]) rfl, by decide +kernel, by decide +kernel, fun fs h => by cases h; exact ⟨rfl, rfl, by decide +kernel⟩⟩
set_option maxRecDepth 100000 in
theorem zci_10 : Cond.instantiable "SiphonReportModel" 22 ∈ zTs := List.mem_of_getElem? (i := 481) rfl
theorem zcl_ok : zcl zTs zFT zCD zCL := fun ci q h => match ci, h with
  | 0, h => by cases h; exact zcl_0
  | 1, h => by cases h; exact zcl_1
  | 2, h => by cases h; exact zcl_2
  | 3, h => by cases h; exact zcl_3
  | 4, h => by cases h; exact zcl_4
  | 5, h => by cases h; exact zcl_5
  | 6, h => by cases h; exact zcl_6
  | 7, h => by cases h; exact zcl_7
  | 8, h => by cases h; exact zcl_8
  | 9, h => by cases h; exact zcl_9
  | 10, h => by cases h; exact zcl_10
  | k + 11, h => by cases h
theorem zci_ok : ∀ (ci : Nat) (q : vw_C), zCL[ci]? = some q → Cond.instantiable q.1 q.2.2 ∈ zTs := fun ci q h => match ci, h with
  | 0, h => by cases h; exact zci_0
  | 1, h => by cases h; exact zci_1
  | 2, h => by cases h; exact zci_2
  | 3, h => by cases h; exact zci_3
  | 4, h => by cases h; exact zci_4
  | 5, h => by cases h; exact zci_5
  | 6, h => by cases h; exact zci_6
  | 7, h => by cases h; exact zci_7
  | 8, h => by cases h; exact zci_8
  | 9, h => by cases h; exact zci_9
  | 10, h => by cases h; exact zci_10
  | k + 11, h => by cases h

/-! The tables are right: words among the claim's, classes, methods instruction by instruction. -/
def zmokb (M : zM) : Bool := (!(Nat.ble M.2.2.2.2.2.2.1 2) || zmeth zTs M) && M.2.2.2.2.2.2.2.2.all (zrowok "SiphonReport" zTs zNs zCL zP M)
def zsub : List Cond → List Cond → Bool
  | [], _ => true
  | _ :: _, [] => false
  | a :: as, b :: bs => if a = b then zsub as bs else zsub (a :: as) bs
theorem zsub_in : ∀ (as bs : List Cond), zsub as bs = true → ∀ w ∈ as, w ∈ bs
  | [], _, _, w, h => by cases h
  | _ :: _, [], h, _, _ => by cases h
  | a :: as, b :: bs, h, w, hw => by
    simp only [zsub] at h
    by_cases e : a = b
    · rw [if_pos e] at h
      rcases List.mem_cons.mp hw with rfl | h9
      · exact e ▸ List.mem_cons_self
      · exact List.mem_cons_of_mem _ (zsub_in as bs h w h9)
    · rw [if_neg e] at h
      exact List.mem_cons_of_mem _ (zsub_in (a :: as) bs h w hw)
set_option maxRecDepth 100000 in
theorem zTs_in : ∀ w ∈ zTs, w ∈ lw_tbl := zsub_in _ _ (by decide +kernel)
set_option maxRecDepth 100000 in
theorem zNs_in : ∀ w ∈ zNs, w ∈ lw_tbl := zsub_in _ _ (by decide +kernel)
set_option maxRecDepth 100000 in
theorem zTs_good : ∀ w ∈ zTs, goodWord w = true := List.all_eq_true.mp (by decide +kernel : zTs.all goodWord = true)
set_option maxRecDepth 100000 in
theorem zNs_nest : ∀ w ∈ zNs, znest w = true := List.all_eq_true.mp (by decide +kernel : zNs.all znest = true)
set_option maxRecDepth 100000 in
theorem zcl_0 : zcls zTs zFT zCD 0 ("SiphonReport", zF_0, 9) := ⟨by decide +kernel, by decide +kernel, by decide +kernel, fun fs h => by cases h; exact ⟨rfl, rfl, by decide +kernel⟩⟩
set_option maxRecDepth 100000 in
theorem zcl_1 : zcls zTs zFT zCD 1 ("SiphonReport$Text", zF_1, 2) := ⟨by decide +kernel, by decide +kernel, by decide +kernel, fun fs h => by cases h; exact ⟨rfl, rfl, by decide +kernel⟩⟩
set_option maxRecDepth 100000 in
theorem zcl_2 : zcls zTs zFT zCD 2 ("SiphonReport$Form", zF_2, 3) := ⟨by decide +kernel, by decide +kernel, by decide +kernel, fun fs h => by cases h; exact ⟨rfl, rfl, by decide +kernel⟩⟩
set_option maxRecDepth 100000 in
theorem zcl_3 : zcls zTs zFT zCD 3 ("SiphonReport$Lines", zF_3, 4) := ⟨by decide +kernel, by decide +kernel, by decide +kernel, fun fs h => by cases h; exact ⟨rfl, rfl, by decide +kernel⟩⟩
set_option maxRecDepth 100000 in
theorem zcl_4 : zcls zTs zFT zCD 4 ("SiphonReport$Network", zF_4, 6) := ⟨by decide +kernel, by decide +kernel, by decide +kernel, fun fs h => by cases h; exact ⟨rfl, rfl, by decide +kernel⟩⟩
set_option maxRecDepth 100000 in
theorem zcl_5 : zcls zTs zFT zCD 5 ("SiphonReport$Classes", zF_5, 7) := ⟨by decide +kernel, by decide +kernel, by decide +kernel, fun fs h => by cases h; exact ⟨rfl, rfl, by decide +kernel⟩⟩
set_option maxRecDepth 100000 in
theorem zcl_6 : zcls zTs zFT zCD 6 ("SiphonReport$Ranks", zF_6, 4) := ⟨by decide +kernel, by decide +kernel, by decide +kernel, fun fs h => by cases h; exact ⟨rfl, rfl, by decide +kernel⟩⟩
set_option maxRecDepth 100000 in
theorem zcl_7 : zcls zTs zFT zCD 7 ("SiphonReport$Matrix", zF_7, 3) := ⟨by decide +kernel, by decide +kernel, by decide +kernel, fun fs h => by cases h; exact ⟨rfl, rfl, by decide +kernel⟩⟩
set_option maxRecDepth 100000 in
theorem zcl_8 : zcls zTs zFT zCD 8 ("SiphonReport$SetList", zF_8, 2) := ⟨by decide +kernel, by decide +kernel, by decide +kernel, fun fs h => by cases h; exact ⟨rfl, rfl, by decide +kernel⟩⟩
set_option maxRecDepth 100000 in
theorem zcl_9 : zcls zTs zFT zCD 9 ("SiphonReport$Sums", zF_9, 3) := ⟨by decide +kernel, by decide +kernel, by decide +kernel, fun fs h => by cases h; exact ⟨rfl, rfl, by decide +kernel⟩⟩
set_option maxRecDepth 100000 in
theorem zcl_10 : zcls zTs zFT zCD 10 ("SiphonReportModel", zF_10, 22) := ⟨by decide +kernel, by decide +kernel, by decide +kernel, fun fs h => by cases h; exact ⟨rfl, rfl, by decide +kernel⟩⟩
theorem zcl_ok : zcl zTs zFT zCD zCL := fun ci q h => match ci, h with
  | 0, h => by cases h; exact zcl_0
  | 1, h => by cases h; exact zcl_1
  | 2, h => by cases h; exact zcl_2
  | 3, h => by cases h; exact zcl_3
  | 4, h => by cases h; exact zcl_4
  | 5, h => by cases h; exact zcl_5
  | 6, h => by cases h; exact zcl_6
  | 7, h => by cases h; exact zcl_7
  | 8, h => by cases h; exact zcl_8
  | 9, h => by cases h; exact zcl_9
  | 10, h => by cases h; exact zcl_10
  | k + 11, h => by cases h

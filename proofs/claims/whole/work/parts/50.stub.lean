def Inv (σ : St) : Prop := True
theorem Inv_0 : Inv σ0 := trivial
theorem P_build {σ : St} (hI : Inv σ) (x0 : Int32) (x1 : Int32) (x2 : Int32) : ∃ (r : Int32) (σ1 σ2 : St), f_X6_build x0 x1 x2 σ = some (r, σ1) ∧ f_X7_build x0 x1 x2 σ1 = some (r, σ2) ∧ Inv σ2 := by sorry
theorem P_houseIs {σ : St} (hI : Inv σ) (x0 : Int32) (x1 : Int32) : ∃ (r : Int32) (σ1 σ2 : St), f_X6_houseIs x0 x1 σ = some (r, σ1) ∧ f_X7_houseIs x0 x1 σ1 = some (r, σ2) ∧ Inv σ2 := by sorry
theorem P_standing {σ : St} (hI : Inv σ) (x0 : Int32) : ∃ (r : Int32) (σ1 σ2 : St), f_X6_standing x0 σ = some (r, σ1) ∧ f_X7_standing x0 σ1 = some (r, σ2) ∧ Inv σ2 := by sorry
theorem P_become {σ : St} (hI : Inv σ) (x0 : Int32) (x1 : Int32) : ∃ (r : Int32) (σ1 σ2 : St), f_X6_become x0 x1 σ = some (r, σ1) ∧ f_X7_become x0 x1 σ1 = some (r, σ2) ∧ Inv σ2 := by sorry
theorem P_as {σ : St} (hI : Inv σ) (x0 : Int32) (x1 : Int32) : ∃ (r : Int32) (σ1 σ2 : St), f_X6_as x0 x1 σ = some (r, σ1) ∧ f_X7_as x0 x1 σ1 = some (r, σ2) ∧ Inv σ2 := by sorry
theorem P_harm {σ : St} (hI : Inv σ) (x0 : Int32) (x1 : Int32) : ∃ (r : Int32) (σ1 σ2 : St), f_X6_harm x0 x1 σ = some (r, σ1) ∧ f_X7_harm x0 x1 σ1 = some (r, σ2) ∧ Inv σ2 := by sorry
theorem P_renames {σ : St} (hI : Inv σ) (x0 : Int32) (x1 : Int32) : ∃ (r : Int32) (σ1 σ2 : St), f_X6_renames x0 x1 σ = some (r, σ1) ∧ f_X7_renames x0 x1 σ1 = some (r, σ2) ∧ Inv σ2 := by sorry
theorem P_year {σ : St} (hI : Inv σ) (x0 : Int32) : ∃ (r : Int32) (σ1 σ2 : St), f_X6_year x0 σ = some (r, σ1) ∧ f_X7_year x0 σ1 = some (r, σ2) ∧ Inv σ2 := by sorry
theorem P_feed {σ : St} (hI : Inv σ) (x0 : Int64) (x1 : Int32) : ∃ (r : Int32) (σ1 σ2 : St), f_X6_feed x0 x1 σ = some (r, σ1) ∧ f_X7_feed x0 x1 σ1 = some (r, σ2) ∧ Inv σ2 := by sorry
theorem P_text {σ : St} (hI : Inv σ) (x0 : Int32) : ∃ (r : Int32) (σ1 σ2 : St), f_X6_text x0 σ = some (r, σ1) ∧ f_X7_text x0 σ1 = some (r, σ2) ∧ Inv σ2 := by sorry
theorem P_untell {σ : St} (hI : Inv σ) (x0 : Int32) : ∃ (r : Int32) (σ1 σ2 : St), f_X6_untell x0 σ = some (r, σ1) ∧ f_X7_untell x0 σ1 = some (r, σ2) ∧ Inv σ2 := by sorry
theorem P_law {σ : St} (hI : Inv σ) (x0 : Int32) (x1 : Int32) (x2 : Int32) (x3 : Int32) : ∃ (r : Int32) (σ1 σ2 : St), f_X6_law x0 x1 x2 x3 σ = some (r, σ1) ∧ f_X7_law x0 x1 x2 x3 σ1 = some (r, σ2) ∧ Inv σ2 := by sorry
theorem P_renumber {σ : St} (hI : Inv σ) (x0 : Int32) : ∃ (r : Int32) (σ1 σ2 : St), f_X6_renumber x0 σ = some (r, σ1) ∧ f_X7_renumber x0 σ1 = some (r, σ2) ∧ Inv σ2 := by sorry
theorem P_would {σ : St} (hI : Inv σ) (x0 : Int32) : ∃ (r : Int32) (σ1 σ2 : St), f_X6_would x0 σ = some (r, σ1) ∧ f_X7_would x0 σ1 = some (r, σ2) ∧ Inv σ2 := by sorry
theorem P_gap {σ : St} (hI : Inv σ) (x0 : Int32) : ∃ (r : Int32) (σ1 σ2 : St), f_X6_gap x0 σ = some (r, σ1) ∧ f_X7_gap x0 σ1 = some (r, σ2) ∧ Inv σ2 := by sorry
theorem P_least {σ : St} (hI : Inv σ) (x0 : Int32) : ∃ (r : Int32) (σ1 σ2 : St), f_X6_least x0 σ = some (r, σ1) ∧ f_X7_least x0 σ1 = some (r, σ2) ∧ Inv σ2 := by sorry
theorem P_between {σ : St} (hI : Inv σ) (x0 : Int32) : ∃ (r : Int32) (σ1 σ2 : St), f_X6_between x0 σ = some (r, σ1) ∧ f_X7_between x0 σ1 = some (r, σ2) ∧ Inv σ2 := by sorry
theorem P_fewest {σ : St} (hI : Inv σ)  : ∃ (r : Int32) (σ1 σ2 : St), f_X6_fewest  σ = some (r, σ1) ∧ f_X7_fewest  σ1 = some (r, σ2) ∧ Inv σ2 := by sorry
theorem P_search {σ : St} (hI : Inv σ) (x0 : Int32) (x1 : Int32) : ∃ (r : Int32) (σ1 σ2 : St), f_X6_search x0 x1 σ = some (r, σ1) ∧ f_X7_search x0 x1 σ1 = some (r, σ2) ∧ Inv σ2 := by sorry
theorem P_odds {σ : St} (hI : Inv σ) (x0 : Int32) : ∃ (r : Int32) (σ1 σ2 : St), f_X6_odds x0 σ = some (r, σ1) ∧ f_X7_odds x0 σ1 = some (r, σ2) ∧ Inv σ2 := by sorry
theorem P_order {σ : St} (hI : Inv σ)  : ∃ (r : Int32) (σ1 σ2 : St), f_X6_order  σ = some (r, σ1) ∧ f_X7_order  σ1 = some (r, σ2) ∧ Inv σ2 := by sorry
theorem P_fits {σ : St} (hI : Inv σ) (x0 : Int32) (x1 : Int32) : ∃ (r : Int32) (σ1 σ2 : St), f_X6_fits x0 x1 σ = some (r, σ1) ∧ f_X7_fits x0 x1 σ1 = some (r, σ2) ∧ Inv σ2 := by sorry
theorem P_loose {σ : St} (hI : Inv σ) (x0 : Int32) : ∃ (r : Int32) (σ1 σ2 : St), f_X6_loose x0 σ = some (r, σ1) ∧ f_X7_loose x0 σ1 = some (r, σ2) ∧ Inv σ2 := by sorry
theorem P_seed {σ : St} (hI : Inv σ) (x0 : Int32) : ∃ (r : Int32) (σ1 σ2 : St), f_X6_seed x0 σ = some (r, σ1) ∧ f_X7_seed x0 σ1 = some (r, σ2) ∧ Inv σ2 := by sorry
theorem P_voice {σ : St} (hI : Inv σ) (x0 : Int32) (x1 : Int32) (x2 : Int32) : ∃ (r : Int32) (σ1 σ2 : St), f_X6_voice x0 x1 x2 σ = some (r, σ1) ∧ f_X7_voice x0 x1 x2 σ1 = some (r, σ2) ∧ Inv σ2 := by sorry
theorem P_body {σ : St} (hI : Inv σ) (x0 : Int32) : ∃ (r : Int32) (σ1 σ2 : St), f_X6_body x0 σ = some (r, σ1) ∧ f_X7_body x0 σ1 = some (r, σ2) ∧ Inv σ2 := by sorry
theorem P_sheet {σ : St} (hI : Inv σ) (x0 : Int32) (x1 : Int32) (x2 : Int32) : ∃ (r : Int32) (σ1 σ2 : St), f_X6_sheet x0 x1 x2 σ = some (r, σ1) ∧ f_X7_sheet x0 x1 x2 σ1 = some (r, σ2) ∧ Inv σ2 := by sorry
theorem P_put {σ : St} (hI : Inv σ) (x0 : Int32) (x1 : Int32) (x2 : Int32) : ∃ (r : Int32) (σ1 σ2 : St), f_X6_put x0 x1 x2 σ = some (r, σ1) ∧ f_X7_put x0 x1 x2 σ1 = some (r, σ2) ∧ Inv σ2 := by sorry
theorem P_move {σ : St} (hI : Inv σ) (x0 : Int32) (x1 : Int32) (x2 : Int32) (x3 : Int32) (x4 : Int32) : ∃ (r : Int32) (σ1 σ2 : St), f_X6_move x0 x1 x2 x3 x4 σ = some (r, σ1) ∧ f_X7_move x0 x1 x2 x3 x4 σ1 = some (r, σ2) ∧ Inv σ2 := by sorry
theorem P_plates {σ : St} (hI : Inv σ) (x0 : Int32) : ∃ (r : Int32) (σ1 σ2 : St), f_X6_plates x0 σ = some (r, σ1) ∧ f_X7_plates x0 σ1 = some (r, σ2) ∧ Inv σ2 := by sorry
theorem P_judge {σ : St} (hI : Inv σ) (x0 : Int32) : ∃ (r : Int32) (σ1 σ2 : St), f_X6_judge x0 σ = some (r, σ1) ∧ f_X7_judge x0 σ1 = some (r, σ2) ∧ Inv σ2 := by sorry
theorem P_image {σ : St} (hI : Inv σ)  : ∃ (r : Int32) (σ1 σ2 : St), f_X6_image  σ = some (r, σ1) ∧ f_X7_image  σ1 = some (r, σ2) ∧ Inv σ2 := by sorry
theorem P_restore {σ : St} (hI : Inv σ)  : ∃ (r : Int32) (σ1 σ2 : St), f_X6_restore  σ = some (r, σ1) ∧ f_X7_restore  σ1 = some (r, σ2) ∧ Inv σ2 := by sorry
theorem P_tell {σ : St} (hI : Inv σ) (x0 : Int32) : ∃ (r : Int32) (σ1 σ2 : St), f_X6_tell x0 σ = some (r, σ1) ∧ f_X7_tell x0 σ1 = some (r, σ2) ∧ Inv σ2 := by sorry
theorem P_check {σ : St} (hI : Inv σ)  : ∃ (r : Int32) (σ1 σ2 : St), f_X6_check  σ = some (r, σ1) ∧ f_X7_check  σ1 = some (r, σ2) ∧ Inv σ2 := by sorry
theorem P_count {σ : St} (hI : Inv σ) (x0 : Int32) : ∃ (r : Int32) (σ1 σ2 : St), f_X6_count x0 σ = some (r, σ1) ∧ f_X7_count x0 σ1 = some (r, σ2) ∧ Inv σ2 := by sorry
theorem P_told {σ : St} (hI : Inv σ) (x0 : Int32) : ∃ (r : Int32) (σ1 σ2 : St), f_X6_told x0 σ = some (r, σ1) ∧ f_X7_told x0 σ1 = some (r, σ2) ∧ Inv σ2 := by sorry

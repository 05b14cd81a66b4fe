/-! the loops, a step each -/
theorem qsX2_add_run0 {n0 n : Nat} {i0 : Nat} {x1 : Int} {x2 : Int} {x3 : Int} {g : zG} : sX2_add_run n0 (n + 1) 0 i0 x1 x2 x3 g = sX2_add_h15 n0 (sX2_add_run n0 n) i0 x1 x2 x3 g := rfl
theorem qsX2_hasGiven_run0 {n0 n : Nat} {i0 : Nat} {x1 : Int} {x2 : Int} {g : zG} : sX2_hasGiven_run n0 (n + 1) 0 i0 x1 x2 g = sX2_hasGiven_h2 n0 (sX2_hasGiven_run n0 n) i0 x1 x2 g := rfl
theorem qsX2_placeOf_run0 {n0 n : Nat} {i0 : Nat} {x1 : Int} {x2 : Int} {g : zG} : sX2_placeOf_run n0 (n + 1) 0 i0 x1 x2 g = sX2_placeOf_h2 n0 (sX2_placeOf_run n0 n) i0 x1 x2 g := rfl
theorem qsX2_countAheadOf_run0 {n0 n : Nat} {i0 : Nat} {x1 : Int} {x3 : Int} {g : zG} : sX2_countAheadOf_run n0 (n + 1) 0 i0 x1 x3 g = sX2_countAheadOf_h2 n0 (sX2_countAheadOf_run n0 n) i0 x1 x3 g := rfl
theorem qsX0_lineUp_run0 {n0 n : Nat} {i1 : Nat} {x3 : Int} {g : zG} : sX0_lineUp_run n0 (n + 1) 0 i1 x3 g = sX0_lineUp_h32 n0 (sX0_lineUp_run n0 n) i1 x3 g := rfl
theorem qsX0_serve_run0 {n0 n : Nat} {i1 : Nat} {i2 : Nat} {x3 : Int} {x4 : Int} {x5 : Int} {x6 : Int} {g : zG} : sX0_serve_run n0 (n + 1) 0 i1 i2 x3 x4 x5 x6 g = sX0_serve_h8 n0 (sX0_serve_run n0 n) i1 i2 x3 x4 x5 x6 g := rfl
theorem qsX0_serve_run1 {n0 n : Nat} {i1 : Nat} {i2 : Nat} {x3 : Int} {x4 : Int} {x5 : Int} {x6 : Int} {g : zG} : sX0_serve_run n0 (n + 1) 1 i1 i2 x3 x4 x5 x6 g = sX0_serve_h25 n0 (sX0_serve_run n0 n) i1 i2 x3 x4 x5 x6 g := rfl
theorem qsX0_penaltyBySlots_run0 {n0 n : Nat} {i1 : Nat} {x4 : Int} {x5 : Int} {x6 : Int} {x7 : Int} {x8 : Int} {g : zG} : sX0_penaltyBySlots_run n0 (n + 1) 0 i1 x4 x5 x6 x7 x8 g = sX0_penaltyBySlots_h44 n0 (sX0_penaltyBySlots_run n0 n) i1 x4 x5 x6 x7 x8 g := rfl
theorem qsX4_loadOf_run0 {n0 n : Nat} {x1 : Int} {x2 : Int} {x3 : Int} {x4 : Int} {x5 : Int} {g : zG} : sX4_loadOf_run n0 (n + 1) 0 x1 x2 x3 x4 x5 g = sX4_loadOf_h6 n0 (sX4_loadOf_run n0 n) x1 x2 x3 x4 x5 g := rfl
theorem qsX4_inside_run0 {n0 n : Nat} {x1 : Int} {x2 : Int} {x3 : Int} {x4 : Int} {g : zG} : sX4_inside_run n0 (n + 1) 0 x1 x2 x3 x4 g = sX4_inside_h17 n0 (sX4_inside_run n0 n) x1 x2 x3 x4 g := rfl
theorem qsX4_lineUpEntering_run0 {n0 n : Nat} {x1 : Int} {x2 : Int} {g : zG} : sX4_lineUpEntering_run n0 (n + 1) 0 x1 x2 g = sX4_lineUpEntering_h9 n0 (sX4_lineUpEntering_run n0 n) x1 x2 g := rfl
theorem qsX4_peak_run0 {n0 n : Nat} {x2 : Int} {x3 : Int} {x4 : Int} {x5 : Int} {x6 : Int} {g : zG} : sX4_peak_run n0 (n + 1) 0 x2 x3 x4 x5 x6 g = sX4_peak_h28 n0 (sX4_peak_run n0 n) x2 x3 x4 x5 x6 g := rfl
theorem qsX4_peakAnew_run0 {n0 n : Nat} {x1 : Int} {x2 : Int} {x3 : Int} {x4 : Int} {g : zG} : sX4_peakAnew_run n0 (n + 1) 0 x1 x2 x3 x4 g = sX4_peakAnew_h17 n0 (sX4_peakAnew_run n0 n) x1 x2 x3 x4 g := rfl
theorem qsX4_chargedToRegulation_run0 {n0 n : Nat} {x1 : Int} {x2 : Int} {x3 : Int} {g : zG} : sX4_chargedToRegulation_run n0 (n + 1) 0 x1 x2 x3 g = sX4_chargedToRegulation_h4 n0 (sX4_chargedToRegulation_run n0 n) x1 x2 x3 g := rfl
theorem qsX4_reckonPenalties_run0 {n0 n : Nat} {x2 : Int} {x3 : Int} {g : zG} : sX4_reckonPenalties_run n0 (n + 1) 0 x2 x3 g = sX4_reckonPenalties_h14 n0 (sX4_reckonPenalties_run n0 n) x2 x3 g := rfl
theorem qsX4_reckonDues_run0 {n0 n : Nat} {x1 : Int} {g : zG} : sX4_reckonDues_run n0 (n + 1) 0 x1 g = sX4_reckonDues_h2 n0 (sX4_reckonDues_run n0 n) x1 g := rfl
theorem qsX4_reckonDues_run1 {n0 n : Nat} {x1 : Int} {g : zG} : sX4_reckonDues_run n0 (n + 1) 1 x1 g = sX4_reckonDues_h35 n0 (sX4_reckonDues_run n0 n) x1 g := rfl
theorem qsX4_dueAnew_run0 {n0 n : Nat} {x1 : Int} {x2 : Int} {x3 : Int} {g : zG} : sX4_dueAnew_run n0 (n + 1) 0 x1 x2 x3 g = sX4_dueAnew_h10 n0 (sX4_dueAnew_run n0 n) x1 x2 x3 g := rfl
theorem qsX4_sumOfDues_run0 {n0 n : Nat} {x1 : Int} {x2 : Int} {g : zG} : sX4_sumOfDues_run n0 (n + 1) 0 x1 x2 g = sX4_sumOfDues_h4 n0 (sX4_sumOfDues_run n0 n) x1 x2 g := rfl
theorem qsX4_deal_run0 {n0 n : Nat} {x1 : Int} {x2 : Int} {x3 : Int} {g : zG} : sX4_deal_run n0 (n + 1) 0 x1 x2 x3 g = sX4_deal_h8 n0 (sX4_deal_run n0 n) x1 x2 x3 g := rfl
theorem qsX4_companyIs_run0 {n0 n : Nat} {x1 : Int} {x2 : Int} {x3 : Int} {x4 : Int} {g : zG} : sX4_companyIs_run n0 (n + 1) 0 x1 x2 x3 x4 g = sX4_companyIs_h15 n0 (sX4_companyIs_run n0 n) x1 x2 x3 x4 g := rfl
theorem qsL_areSlots_run0 {n0 n : Nat} {x1 : Int} {x2 : Int} {x3 : Int} {x4 : Int} {g : zG} : sL_areSlots_run n0 (n + 1) 0 x1 x2 x3 x4 g = sL_areSlots_h26 n0 (sL_areSlots_run n0 n) x1 x2 x3 x4 g := rfl
theorem qsL_isDealt_run0 {n0 n : Nat} {x2 : Int} {x3 : Int} {x4 : Int} {x5 : Int} {x6 : Int} {x7 : Int} {x8 : Int} {x9 : Int} {x10 : Int} {x11 : Int} {g : zG} : sL_isDealt_run n0 (n + 1) 0 x2 x3 x4 x5 x6 x7 x8 x9 x10 x11 g = sL_isDealt_h79 n0 (sL_isDealt_run n0 n) x2 x3 x4 x5 x6 x7 x8 x9 x10 x11 g := rfl
theorem qsL_isDay_run0 {n0 n : Nat} {x2 : Int} {x3 : Int} {x4 : Int} {x5 : Int} {x6 : Int} {g : zG} : sL_isDay_run n0 (n + 1) 0 x2 x3 x4 x5 x6 g = sL_isDay_h5 n0 (sL_isDay_run n0 n) x2 x3 x4 x5 x6 g := rfl
theorem qsL_isDay_run1 {n0 n : Nat} {x2 : Int} {x3 : Int} {x4 : Int} {x5 : Int} {x6 : Int} {g : zG} : sL_isDay_run n0 (n + 1) 1 x2 x3 x4 x5 x6 g = sL_isDay_h115 n0 (sL_isDay_run n0 n) x2 x3 x4 x5 x6 g := rfl

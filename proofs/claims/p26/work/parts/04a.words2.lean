/-! words of the law's own codes -/
set_option maxRecDepth 100000 in
theorem qw_425 : Cond.code yL_draw method_2_code 2 (some FieldType.int) ∈ lw_G := List.mem_filter.mpr ⟨List.mem_of_getElem? (i := 425) rfl, by decide +kernel⟩
set_option maxRecDepth 100000 in
theorem qw_431 : Cond.code yL_step method_7_code 17 (some FieldType.boolean) ∈ lw_G := List.mem_filter.mpr ⟨List.mem_of_getElem? (i := 431) rfl, by decide +kernel⟩
set_option maxRecDepth 100000 in
theorem qw_434 : Cond.codeWith yL_acts method_4_code 7 (some FieldType.int) [(0, 56, 57, 16)] ∈ lw_G := List.mem_filter.mpr ⟨List.mem_of_getElem? (i := 434) rfl, by decide +kernel⟩
set_option maxRecDepth 100000 in
theorem qw_676 : Cond.code yL_areSlots method_8_code 5 (some FieldType.boolean) ∈ lw_G := List.mem_filter.mpr ⟨List.mem_of_getElem? (i := 676) rfl, by decide +kernel⟩
set_option maxRecDepth 100000 in
theorem qw_679 : Cond.codeWith yL_exempts method_6_code 4 (some FieldType.int) [(0, 14, 15, 16)] ∈ lw_G := List.mem_filter.mpr ⟨List.mem_of_getElem? (i := 679) rfl, by decide +kernel⟩
set_option maxRecDepth 100000 in
theorem qw_688 : Cond.codeWith yL_ends method_5_code 3 (some FieldType.boolean) [(0, 6, 7, 16)] ∈ lw_G := List.mem_filter.mpr ⟨List.mem_of_getElem? (i := 688) rfl, by decide +kernel⟩
set_option maxRecDepth 100000 in
theorem qw_699 : Cond.code yL_isDealt method_9_code 14 (some FieldType.boolean) ∈ lw_G := List.mem_filter.mpr ⟨List.mem_of_getElem? (i := 699) rfl, by decide +kernel⟩
set_option maxRecDepth 100000 in
theorem qw_715 : Cond.code yL_isSwapped method_10_code 9 (some FieldType.boolean) ∈ lw_G := List.mem_filter.mpr ⟨List.mem_of_getElem? (i := 715) rfl, by decide +kernel⟩
set_option maxRecDepth 100000 in
theorem qw_718 : Cond.codeWith yL_swaps method_3_code 4 (some FieldType.boolean) [(0, 7, 8, 16), (0, 7, 11, 18)] ∈ lw_G := List.mem_filter.mpr ⟨List.mem_of_getElem? (i := 718) rfl, by decide +kernel⟩
set_option maxRecDepth 100000 in
theorem qw_753 : Cond.code yL_isTold method_11_code 12 (some FieldType.boolean) ∈ lw_G := List.mem_filter.mpr ⟨List.mem_of_getElem? (i := 753) rfl, by decide +kernel⟩
set_option maxRecDepth 100000 in
theorem qw_764 : Cond.code yL_isDay method_12_code 7 (some FieldType.boolean) ∈ lw_G := List.mem_filter.mpr ⟨List.mem_of_getElem? (i := 764) rfl, by decide +kernel⟩

/-! the methods that make, whole -/
def sX4_flight (x1 : Int) (x2 : Int) (g : zG) : Option ((Nat × Int) × zG) := zbx (sX4_checkCompany x1 g) (fun _ g => zbx (sX4_checkRange x2 0 1439 g) (fun _ g => zlt (g 1 0 2) 24 (zFlT x1 x2 g) (some ((3, 0), g))))
def sX4_regulation (x1 : Int) (x2 : Int) (x3 : Int) (x4 : Int) (g : zG) : Option ((Nat × Int) × zG) := zbx (sX4_checkSector x1 g) (fun _ g => zbx (sX4_checkTerm x2 x3 x4 g) (fun _ g => zlt (g 1 1 2) 6 (zRgT x1 x2 x3 x4 g) (some ((3, 0), g))))
def sX4_would (n : Nat) (x1 : Int) (x2 : Int) (x3 : Int) (x4 : Int) (g : zG) : Option ((Nat × Int) × zG) := zbx (sX4_checkSector x1 g) (fun _ g => zbx (sX4_checkTerm x2 x3 x4 g) (fun _ g => zbd (sX4_reckonDues n g) (fun _ g => zWdT n x1 x2 x3 x4 g)))
set_option maxHeartbeats 4000000 in
set_option maxRecDepth 100000 in
theorem czX4_flight (l : Launch) (hT : l.stackTraces = false) (X : zC) (N : zN) {x1 : Int} {x2 : Int} {g g' : zG} {o : Nat × Int} (hnp : zNp N) (h : sX4_flight x1 x2 g = some (o, g')) : zXM l yX4_flight cX4_flight 3 (some .int) { frames := 8, cells := 6, slots := 80, locals := 200 } X N g [z_r N 0 0, z_v x1, z_v x2] (zYn X N o g') o g' := by
  refine z_xofW (own := RX4) (by decide +kernel) rfl (Nat.le_of_ble_eq_true rfl) ?_
  intro p e s m args below meth c ls hF hr hnt hw hl
  have hl : lv_has ls 3 [(0, z_r N 0 0), (1, z_v x1), (2, z_v x2)] := hl
  have hx := hF.1.1
  have hb := hF.1.2.1
  unfold sX4_flight at h
  generalize s.heap = H at hw ⊢
  generalize ([] : List Loc) = locs at hw ⊢
  refine lv_iload_n hx hb dX4_flight_0 rfl (lv_at hl 1 rfl) ?_
  obtain ⟨o1, g1, h1, h⟩ := zbx_some h
  refine zx_callSv (n := 1) (As := [z_v x1]) (rest := []) hF hnt hw (czX4_checkCompany l hT X N h1) h (z_goodS qw_406 qw_407 qw_15 qw_408) (by decide +kernel) ⟨Nat.le_of_ble_eq_true rfl, Nat.le_of_ble_eq_true rfl⟩ rfl hl.1 rfl (Nat.le_of_ble_eq_true rfl) dX4_flight_1 ⟨Nat.le_of_ble_eq_true rfl, Nat.le_of_ble_eq_true rfl⟩ ⟨Nat.le_of_ble_eq_true rfl, Nat.le_of_ble_eq_true rfl⟩ (fun H locs hw h => ?_)
  clear h1
  generalize g1 = g at *
  generalize o1.2 = r1 at *
  refine lv_iload_n hx hb dX4_flight_4 rfl (lv_at hl 2 rfl) ?_
  refine lv_iconst hx hb dX4_flight_5 rfl ?_
  refine lv_sipush (v := Int32.ofInt (1439)) hx hb dX4_flight_6 (by decide) ?_
  obtain ⟨o1, g1, h1, h⟩ := zbx_some h
  refine zx_callSv (n := 3) (As := [z_v x2, z_v 0, z_v 1439]) (rest := []) hF hnt hw (czX4_checkRange l hT X N h1) h (z_goodS qw_211 qw_212 qw_15 qw_213) (by decide +kernel) ⟨Nat.le_of_ble_eq_true rfl, Nat.le_of_ble_eq_true rfl⟩ rfl hl.1 rfl (Nat.le_of_ble_eq_true rfl) dX4_flight_9 ⟨Nat.le_of_ble_eq_true rfl, Nat.le_of_ble_eq_true rfl⟩ ⟨Nat.le_of_ble_eq_true rfl, Nat.le_of_ble_eq_true rfl⟩ (fun H locs hw h => ?_)
  clear h1
  generalize g1 = g at *
  generalize o1.2 = r3 at *
  refine lv_aload_n hx hb dX4_flight_12 rfl (lv_at hl 0 rfl) ?_
  refine zr_get hF hw zEf_0_0 (by decide) zC_0 0 (by decide) qw_123 rfl dX4_flight_13 ?_
  refine zr_size hF hw hl.1 (i := 0) zEf_1_0 qw_234 (Nat.le_of_ble_eq_true rfl) dX4_flight_16 ⟨Nat.le_of_ble_eq_true rfl, Nat.le_of_ble_eq_true rfl⟩ ⟨Nat.le_of_ble_eq_true rfl, Nat.le_of_ble_eq_true rfl⟩ (fun H locs hw => ?_)
  refine lv_bipush (v := Int32.ofInt (24)) hx hb dX4_flight_19 (by decide) ?_
  refine zr_icmp_lt (tgt := 34) hF h dX4_flight_21 (by decide) (fun h => ?_) (fun h => ?_)
  · refine lv_aload_n hx hb dX4_flight_34 rfl (lv_at hl 0 rfl) ?_
    refine zr_get hF hw zEf_0_0 (by decide) zC_0 0 (by decide) qw_123 rfl dX4_flight_35 ?_
    exact w_flightTail hF hr hw hnp hl h
  · exact zx_throw hF hT hnt hw hl.1 3 (by decide) rfl (List.mem_of_getElem? (i := 2) rfl) qw_440 qw_29 (by decide +kernel) zT_3 zTb_3 zTg_3 (text := "no more flights can be told") (by decide +kernel) h dX4_flight_24 dX4_flight_27 dX4_flight_28 dX4_flight_30 dX4_flight_33 (Nat.le_of_ble_eq_true rfl) (Nat.le_of_ble_eq_true rfl) (Nat.le_of_ble_eq_true rfl) (Nat.le_of_ble_eq_true rfl) (Nat.le_of_ble_eq_true rfl) (Nat.le_of_ble_eq_true rfl)
set_option maxHeartbeats 4000000 in
set_option maxRecDepth 100000 in
theorem czX4_regulation (l : Launch) (hT : l.stackTraces = false) (X : zC) (N : zN) {x1 : Int} {x2 : Int} {x3 : Int} {x4 : Int} {g g' : zG} {o : Nat × Int} (hnp : zNp N) (h : sX4_regulation x1 x2 x3 x4 g = some (o, g')) : zXM l yX4_regulation cX4_regulation 5 (some .int) { frames := 8, cells := 6, slots := 80, locals := 200 } X N g [z_r N 0 0, z_v x1, z_v x2, z_v x3, z_v x4] (zYn X N o g') o g' := by
  refine z_xofW (own := RX4) (by decide +kernel) rfl (Nat.le_of_ble_eq_true rfl) ?_
  intro p e s m args below meth c ls hF hr hnt hw hl
  have hl : lv_has ls 5 [(0, z_r N 0 0), (1, z_v x1), (2, z_v x2), (3, z_v x3), (4, z_v x4)] := hl
  have hx := hF.1.1
  have hb := hF.1.2.1
  unfold sX4_regulation at h
  generalize s.heap = H at hw ⊢
  generalize ([] : List Loc) = locs at hw ⊢
  refine lv_iload_n hx hb dX4_regulation_0 rfl (lv_at hl 1 rfl) ?_
  obtain ⟨o1, g1, h1, h⟩ := zbx_some h
  refine zx_callSv (n := 1) (As := [z_v x1]) (rest := []) hF hnt hw (czX4_checkSector l hT X N h1) h (z_goodS qw_140 qw_141 qw_15 qw_142) (by decide +kernel) ⟨Nat.le_of_ble_eq_true rfl, Nat.le_of_ble_eq_true rfl⟩ rfl hl.1 rfl (Nat.le_of_ble_eq_true rfl) dX4_regulation_1 ⟨Nat.le_of_ble_eq_true rfl, Nat.le_of_ble_eq_true rfl⟩ ⟨Nat.le_of_ble_eq_true rfl, Nat.le_of_ble_eq_true rfl⟩ (fun H locs hw h => ?_)
  clear h1
  generalize g1 = g at *
  generalize o1.2 = r1 at *
  refine lv_iload_n hx hb dX4_regulation_4 rfl (lv_at hl 2 rfl) ?_
  refine lv_iload_n hx hb dX4_regulation_5 rfl (lv_at hl 3 rfl) ?_
  refine lv_iload hx hb dX4_regulation_6 (lv_at hl 4 rfl) ?_
  obtain ⟨o1, g1, h1, h⟩ := zbx_some h
  refine zx_callSv (n := 3) (As := [z_v x2, z_v x3, z_v x4]) (rest := []) hF hnt hw (czX4_checkTerm l hT X N h1) h (z_goodS qw_587 qw_588 qw_15 qw_589) (by decide +kernel) ⟨Nat.le_of_ble_eq_true rfl, Nat.le_of_ble_eq_true rfl⟩ rfl hl.1 rfl (Nat.le_of_ble_eq_true rfl) dX4_regulation_8 ⟨Nat.le_of_ble_eq_true rfl, Nat.le_of_ble_eq_true rfl⟩ ⟨Nat.le_of_ble_eq_true rfl, Nat.le_of_ble_eq_true rfl⟩ (fun H locs hw h => ?_)
  clear h1
  generalize g1 = g at *
  generalize o1.2 = r3 at *
  refine lv_aload_n hx hb dX4_regulation_11 rfl (lv_at hl 0 rfl) ?_
  refine zr_get hF hw zEf_0_0 (by decide) zC_0 1 (by decide) qw_124 rfl dX4_regulation_12 ?_
  refine zr_size hF hw hl.1 (i := 1) zEf_1_1 qw_234 (Nat.le_of_ble_eq_true rfl) dX4_regulation_15 ⟨Nat.le_of_ble_eq_true rfl, Nat.le_of_ble_eq_true rfl⟩ ⟨Nat.le_of_ble_eq_true rfl, Nat.le_of_ble_eq_true rfl⟩ (fun H locs hw => ?_)
  refine lv_bipush (v := Int32.ofInt (6)) hx hb dX4_regulation_18 (by decide) ?_
  refine zr_icmp_lt (tgt := 33) hF h dX4_regulation_20 (by decide) (fun h => ?_) (fun h => ?_)
  · refine lv_aload_n hx hb dX4_regulation_33 rfl (lv_at hl 0 rfl) ?_
    refine zr_get hF hw zEf_0_0 (by decide) zC_0 1 (by decide) qw_124 rfl dX4_regulation_34 ?_
    exact w_regulationTail hF hr hw hnp hl h
  · exact zx_throw hF hT hnt hw hl.1 3 (by decide) rfl (List.mem_of_getElem? (i := 2) rfl) qw_440 qw_29 (by decide +kernel) zT_3 zTb_3 zTg_3 (text := "no more regulations can be told") (by decide +kernel) h dX4_regulation_23 dX4_regulation_26 dX4_regulation_27 dX4_regulation_29 dX4_regulation_32 (Nat.le_of_ble_eq_true rfl) (Nat.le_of_ble_eq_true rfl) (Nat.le_of_ble_eq_true rfl) (Nat.le_of_ble_eq_true rfl) (Nat.le_of_ble_eq_true rfl) (Nat.le_of_ble_eq_true rfl)
set_option maxHeartbeats 4000000 in
set_option maxRecDepth 100000 in
theorem czX4_would (l : Launch) (hT : l.stackTraces = false) (X : zC) (N : zN) {n : Nat} {x1 : Int} {x2 : Int} {x3 : Int} {x4 : Int} {g g' : zG} {o : Nat × Int} (hnp : zNp N) (h : sX4_would n x1 x2 x3 x4 g = some (o, g')) : zXM l yX4_would cX4_would 5 (some .int) { frames := 8, cells := 6, slots := 80, locals := 200 } X N g [z_r N 0 0, z_v x1, z_v x2, z_v x3, z_v x4] (zYi X N o g') o g' := by
  refine z_xofW (own := RX4) (by decide +kernel) rfl (Nat.le_of_ble_eq_true rfl) ?_
  intro p e s m args below meth c ls hF hr hnt hw hl
  have hl : lv_has ls 5 [(0, z_r N 0 0), (1, z_v x1), (2, z_v x2), (3, z_v x3), (4, z_v x4)] := hl
  have hx := hF.1.1
  have hb := hF.1.2.1
  unfold sX4_would at h
  generalize s.heap = H at hw ⊢
  generalize ([] : List Loc) = locs at hw ⊢
  refine lv_iload_n hx hb dX4_would_0 rfl (lv_at hl 1 rfl) ?_
  obtain ⟨o1, g1, h1, h⟩ := zbx_some h
  refine zx_callSv (n := 1) (As := [z_v x1]) (rest := []) hF hnt hw (czX4_checkSector l hT X N h1) h (z_goodS qw_140 qw_141 qw_15 qw_142) (by decide +kernel) ⟨Nat.le_of_ble_eq_true rfl, Nat.le_of_ble_eq_true rfl⟩ rfl hl.1 rfl (Nat.le_of_ble_eq_true rfl) dX4_would_1 ⟨Nat.le_of_ble_eq_true rfl, Nat.le_of_ble_eq_true rfl⟩ ⟨Nat.le_of_ble_eq_true rfl, Nat.le_of_ble_eq_true rfl⟩ (fun H locs hw h => ?_)
  clear h1
  generalize g1 = g at *
  generalize o1.2 = r1 at *
  refine lv_iload_n hx hb dX4_would_4 rfl (lv_at hl 2 rfl) ?_
  refine lv_iload_n hx hb dX4_would_5 rfl (lv_at hl 3 rfl) ?_
  refine lv_iload hx hb dX4_would_6 (lv_at hl 4 rfl) ?_
  obtain ⟨o1, g1, h1, h⟩ := zbx_some h
  refine zx_callSv (n := 3) (As := [z_v x2, z_v x3, z_v x4]) (rest := []) hF hnt hw (czX4_checkTerm l hT X N h1) h (z_goodS qw_587 qw_588 qw_15 qw_589) (by decide +kernel) ⟨Nat.le_of_ble_eq_true rfl, Nat.le_of_ble_eq_true rfl⟩ rfl hl.1 rfl (Nat.le_of_ble_eq_true rfl) dX4_would_8 ⟨Nat.le_of_ble_eq_true rfl, Nat.le_of_ble_eq_true rfl⟩ ⟨Nat.le_of_ble_eq_true rfl, Nat.le_of_ble_eq_true rfl⟩ (fun H locs hw h => ?_)
  clear h1
  generalize g1 = g at *
  generalize o1.2 = r3 at *
  refine lv_aload_n hx hb dX4_would_11 rfl (lv_at hl 0 rfl) ?_
  obtain ⟨r5, g1, h1, h⟩ := zbd_some h
  refine zr_callVv (n := 0) (As := []) (rest := []) hF hw (czX4_reckonDues l X N h1) zEf_0_0 (by decide) zC_0 (z_goodV qw_284 qw_286 qw_2 qw_15 qw_287) (by decide +kernel) ⟨Nat.le_of_ble_eq_true rfl, Nat.le_of_ble_eq_true rfl⟩ ⟨rfl, rfl⟩ rfl hl.1 rfl (Nat.le_of_ble_eq_true rfl) dX4_would_12 ⟨Nat.le_of_ble_eq_true rfl, Nat.le_of_ble_eq_true rfl⟩ (fun H locs hw => ?_)
  clear h1
  generalize g1 = g at *
  refine lv_aload_n hx hb dX4_would_15 rfl (lv_at hl 0 rfl) ?_
  exact w_wouldTail hF hr hw hnp hl h

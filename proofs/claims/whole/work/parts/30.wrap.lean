/-! the law's small methods -/
def sL_flight (x1 : Int) (x2 : Int) (g : zG) : Option (Int × zG) := zbc [1, 2, 3] (sX4_flight x1 x2 g) (fun r1 g => zri r1 (zix 0 1 (zst g 17 0 (0 : Int).toNat r1 (fun g => some (0, g)))))
def sL_entry (x1 : Int) (x2 : Int) (x3 : Int) (x4 : Int) (g : zG) : Option (Int × zG) := zbc [1, 2, 3] (sX4_entry x1 x2 x3 x4 g) (fun r1 g => zri r1 (zix 0 1 (zst g 17 0 (0 : Int).toNat r1 (fun g => some (0, g)))))
def sL_exempt_j16 (t1 : Int) (u2 : Int) (g : zG) : Option (Int × zG) := zix t1 1 (zst g 17 0 (t1).toNat u2 (fun g => some (0, g)))
def sL_exempt (x1 : Int) (x2 : Int) (g : zG) : Option (Int × zG) := zbc [1, 3] (sX4_exempt x1 x2 g) (fun r1 g => zeq r1 0 ((sL_exempt_j16 0 0 g)) ((sL_exempt_j16 0 1 g)))
def sL_flightIs (x1 : Int) (x2 : Int) (g : zG) : Option (Int × zG) := zbc [1, 2] (sX4_flightIs x1 x2 g) (fun r1 g => zri r1 (zix 0 1 (zst g 17 0 (0 : Int).toNat r1 (fun g => some (0, g)))))
def sL_over (x1 : Int) (x2 : Int) (g : zG) : Option (Int × zG) := zbc [1] (sX4_over x1 x2 g) (fun r1 g => zri r1 (zix 0 1 (zst g 17 0 (0 : Int).toNat r1 (fun g => some (0, g)))))
def sL_load (n : Nat) (x1 : Int) (x2 : Int) (x3 : Int) (g : zG) : Option (Int × zG) := zbc [1, 2] (sX4_load n x1 x2 x3 g) (fun r1 g => zri r1 (zix 0 1 (zst g 17 0 (0 : Int).toNat r1 (fun g => some (0, g)))))
def sL_inside (n : Nat) (x1 : Int) (x2 : Int) (g : zG) : Option (Int × zG) := zbc [1, 2] (sX4_inside n x1 x2 g) (fun r1 g => zri r1 (zix 0 1 (zst g 17 0 (0 : Int).toNat r1 (fun g => some (0, g)))))
def sL_peak (n : Nat) (x1 : Int) (x2 : Int) (g : zG) : Option (Int × zG) := zbc [1, 2] (sX4_peak n x1 x2 g) (fun r1 g => zri r1 (zix 0 1 (zst g 17 0 (0 : Int).toNat r1 (fun g => some (0, g)))))
def sL_peakAnew (n : Nat) (x1 : Int) (x2 : Int) (g : zG) : Option (Int × zG) := zbc [1, 2] (sX4_peakAnew n x1 x2 g) (fun r1 g => zri r1 (zix 0 1 (zst g 17 0 (0 : Int).toNat r1 (fun g => some (0, g)))))
def sL_regulation (x1 : Int) (x2 : Int) (x3 : Int) (x4 : Int) (g : zG) : Option (Int × zG) := zbc [1, 2, 3] (sX4_regulation x1 x2 x3 x4 g) (fun r1 g => zri r1 (zix 0 1 (zst g 17 0 (0 : Int).toNat r1 (fun g => some (0, g)))))
def sL_rate (x1 : Int) (x2 : Int) (g : zG) : Option (Int × zG) := zbc [1, 2, 3] (sX4_rate x1 x2 g) (fun r1 g => zri r1 (zix 0 1 (zst g 17 0 (0 : Int).toNat r1 (fun g => some (0, g)))))
def sL_end (x1 : Int) (g : zG) : Option (Int × zG) := zbc [1, 3] (sX4_end x1 g) (fun _ g => some (0, g))
def sL_regulationIs (n : Nat) (x1 : Int) (x2 : Int) (g : zG) : Option (Int × zG) := zbc [1, 2] (sX4_regulationIs n x1 x2 g) (fun r1 g => zri r1 (zix 0 1 (zst g 17 0 (0 : Int).toNat r1 (fun g => some (0, g)))))
def sL_slot (x1 : Int) (x2 : Int) (g : zG) : Option (Int × zG) := zbc [1] (sX4_slot x1 x2 g) (fun r1 g => zri r1 (zix 0 1 (zst g 17 0 (0 : Int).toNat r1 (fun g => some (0, g)))))
def sL_penalty (n : Nat) (x1 : Int) (x2 : Int) (g : zG) : Option (Int × zG) := zbc [1] (sX4_penalty n x1 x2 g) (fun r1 g => zri r1 (zix 0 1 (zst g 17 0 (0 : Int).toNat r1 (fun g => some (0, g)))))
def sL_due (n : Nat) (x1 : Int) (g : zG) : Option (Int × zG) := zbc [1] (sX4_due n x1 g) (fun r1 g => zri r1 (zix 0 1 (zst g 17 0 (0 : Int).toNat r1 (fun g => some (0, g)))))
def sL_dueAnew (n : Nat) (x1 : Int) (g : zG) : Option (Int × zG) := zbc [1] (sX4_dueAnew n x1 g) (fun r1 g => zri r1 (zix 0 1 (zst g 17 0 (0 : Int).toNat r1 (fun g => some (0, g)))))
def sL_would (n : Nat) (x1 : Int) (x2 : Int) (x3 : Int) (x4 : Int) (g : zG) : Option (Int × zG) := zbc [1, 2] (sX4_would n x1 x2 x3 x4 g) (fun r1 g => zri r1 (zix 0 1 (zst g 17 0 (0 : Int).toNat r1 (fun g => some (0, g)))))
def sL_swap (x1 : Int) (x2 : Int) (g : zG) : Option (Int × zG) := zbc [1, 2, 3] (sX4_swap x1 x2 g) (fun _ g => some (0, g))
def sL_message_j20 (t1 : Int) (u2 : Int) (g : zG) : Option (Int × zG) := zix t1 1 (zst g 17 0 (t1).toNat u2 (fun g => some (0, g)))
def sL_message (x1 : Int) (x2 : Int) (x3 : Int) (x4 : Int) (g : zG) : Option (Int × zG) := zbc [1, 2] (sX4_message x1 x2 x3 x4 g) (fun r1 g => zeq r1 0 ((sL_message_j20 0 0 g)) ((sL_message_j20 0 1 g)))
def sL_companyIs (n : Nat) (x1 : Int) (x2 : Int) (g : zG) : Option (Int × zG) := zbc [1, 2] (sX4_companyIs n x1 x2 g) (fun r1 g => zri r1 (zix 0 1 (zst g 17 0 (0 : Int).toNat r1 (fun g => some (0, g)))))
set_option maxHeartbeats 4000000 in
set_option maxRecDepth 100000 in
theorem czL_flight (l : Launch) (hT : l.stackTraces = false) (X : zC) (N : zN) {x1 : Int} {x2 : Int} {g g' : zG} {r : Int} (hnp : zNp N) (h : sL_flight x1 x2 g = some (r, g')) : zMW l yL_flight cL_flight 5 (some .int) [(0, 10, 13, 13), (0, 10, 17, 15), (0, 10, 21, 17)] { frames := 9, cells := 6, slots := 80, locals := 222 } X N g [z_r N 0 0, z_v x1, z_v x2, z_r N 17 0] (zQn X N r g') := by
  refine z_wofW (own := RL) (by decide +kernel) rfl (Nat.le_of_ble_eq_true rfl) ?_
  intro p e s m args below meth c ls hF hr htab hw hl
  have hl : lv_has ls 5 [(0, z_r N 0 0), (1, z_v x1), (2, z_v x2), (3, z_r N 17 0)] := hl
  have hx := hF.1.1
  have hb := hF.1.2.1
  unfold sL_flight at h
  generalize s.heap = H at hw ⊢
  generalize ([] : List Loc) = locs at hw ⊢
  refine lv_aload_n hx hb dL_flight_0 rfl (lv_at hl 3 rfl) ?_
  refine lv_iconst hx hb dL_flight_1 rfl ?_
  refine lv_aload_n hx hb dL_flight_2 rfl (lv_at hl 0 rfl) ?_
  refine lv_iload_n hx hb dL_flight_3 rfl (lv_at hl 1 rfl) ?_
  refine lv_iload_n hx hb dL_flight_4 rfl (lv_at hl 2 rfl) ?_
  obtain ⟨o1, g1, h1, h⟩ := zbc_some h
  refine zw_callVn (n := 2) (As := [z_v x1, z_v x2]) (rest := [z_v 0, z_r N 17 0]) hF hw (czX4_flight l hT X N hnp h1) h zEf_0_0 (by decide) zC_0 (z_goodV qw_311 qw_312 qw_313 qw_36 qw_314) (by decide +kernel) ⟨Nat.le_of_ble_eq_true rfl, Nat.le_of_ble_eq_true rfl⟩ rfl hl.1 rfl (Nat.le_of_ble_eq_true rfl) dL_flight_5 ⟨Nat.le_of_ble_eq_true rfl, Nat.le_of_ble_eq_true rfl⟩ (fun h H locs ce q9 hw hce hcv hcl => ?_) (fun N1 H locs hsm hw h => ?_)
  · have htab := htab
    rcases h with ⟨hj, h⟩ | ⟨hj, h⟩ | ⟨hj, h⟩
    · have ej : 1 = o1.1 := Option.some.inj hj
      rw [← ej] at hcl
      refine vx_catch (E := zXn 1) (name := "java/lang/IndexOutOfBoundsException") hF.1.2.2.2.1 [] ⟨0, 10, 13, 13⟩ [⟨0, 10, 17, 15⟩, ⟨0, 10, 21, 17⟩] (by rw [htab]; rfl) (fun z hz => nomatch hz) rfl (by decide) (hF.1.2.2.2.2 _ qw_308) (va_Nw.use rfl (hF.2.2.1.2.2.2.1 _ (List.mem_of_getElem? (i := 0) rfl))) hce hcv hcl ?_
      refine lv_astore (lv' := [(4, .ref q9), (0, z_r N 0 0), (1, z_v x1), (2, z_v x2), (3, z_r N 17 0)]) hx hb dL_flight_13 hl (by decide) rfl (fun ls hl => ?_)
      refine lv_iconst hx hb dL_flight_15 rfl ?_
      exact zw_iret hF hr zSame.rf hw h dL_flight_16 ⟨Nat.le_of_ble_eq_true rfl, Nat.le_of_ble_eq_true rfl⟩
    · have ej : 2 = o1.1 := Option.some.inj hj
      rw [← ej] at hcl
      refine vx_catch (E := zXn 2) (name := "java/lang/IllegalArgumentException") hF.1.2.2.2.1 [⟨0, 10, 13, 13⟩] ⟨0, 10, 17, 15⟩ [⟨0, 10, 21, 17⟩] (by rw [htab]; rfl) (fun z hz => by
          rcases List.mem_cons.mp hz with rfl | hz
          · exact Or.inr ⟨by decide, "java/lang/IndexOutOfBoundsException", hF.1.2.2.2.2 _ qw_308, hF.2.2.1.2.2.2.2.1 _ (List.mem_of_getElem? (i := 0) rfl)⟩
          · exact nomatch hz) rfl (by decide) (hF.1.2.2.2.2 _ qw_309) (va_Nw.use rfl (hF.2.2.1.2.2.2.1 _ (List.mem_of_getElem? (i := 1) rfl))) hce hcv hcl ?_
      refine lv_astore (lv' := [(4, .ref q9), (0, z_r N 0 0), (1, z_v x1), (2, z_v x2), (3, z_r N 17 0)]) hx hb dL_flight_17 hl (by decide) rfl (fun ls hl => ?_)
      refine lv_iconst hx hb dL_flight_19 rfl ?_
      exact zw_iret hF hr zSame.rf hw h dL_flight_20 ⟨Nat.le_of_ble_eq_true rfl, Nat.le_of_ble_eq_true rfl⟩
    · have ej : 3 = o1.1 := Option.some.inj hj
      rw [← ej] at hcl
      refine vx_catch (E := zXn 3) (name := "java/lang/IllegalStateException") hF.1.2.2.2.1 [⟨0, 10, 13, 13⟩, ⟨0, 10, 17, 15⟩] ⟨0, 10, 21, 17⟩ [] (by rw [htab]; rfl) (fun z hz => by
          rcases List.mem_cons.mp hz with rfl | hz
          · exact Or.inr ⟨by decide, "java/lang/IndexOutOfBoundsException", hF.1.2.2.2.2 _ qw_308, hF.2.2.1.2.2.2.2.1 _ (List.mem_of_getElem? (i := 1) rfl)⟩
          · rcases List.mem_cons.mp hz with rfl | hz
            · exact Or.inr ⟨by decide, "java/lang/IllegalArgumentException", hF.1.2.2.2.2 _ qw_309, hF.2.2.1.2.2.2.2.1 _ (List.mem_of_getElem? (i := 2) rfl)⟩
            · exact nomatch hz) rfl (by decide) (hF.1.2.2.2.2 _ qw_310) (va_Nw.use rfl (hF.2.2.1.2.2.2.1 _ (List.mem_of_getElem? (i := 2) rfl))) hce hcv hcl ?_
      refine lv_astore (lv' := [(4, .ref q9), (0, z_r N 0 0), (1, z_v x1), (2, z_v x2), (3, z_r N 17 0)]) hx hb dL_flight_21 hl (by decide) rfl (fun ls hl => ?_)
      refine lv_iconst hx hb dL_flight_23 rfl ?_
      exact zw_iret hF hr zSame.rf hw h dL_flight_24 ⟨Nat.le_of_ble_eq_true rfl, Nat.le_of_ble_eq_true rfl⟩
  clear h1
  generalize g1 = g at *
  generalize o1.2 = r1 at *
  rw [show z_r N 17 0 = z_r N1 17 0 from congrArg Value.ref (hsm.1 17 0 (by decide) (by decide) (by decide) (by decide) (by decide)).symm]
  refine zr_i2l hF h dL_flight_8 (fun h => ?_)
  refine zr_last hF hw zEf_17_0 h dL_flight_9 (fun g H locs hw h => ?_)
  refine lv_goto (tgt := 25) hx hb dL_flight_10 (by decide) ?_
  refine lv_iconst hx hb dL_flight_25 rfl ?_
  exact zw_iret hF hr hsm hw h dL_flight_26 ⟨Nat.le_of_ble_eq_true rfl, Nat.le_of_ble_eq_true rfl⟩
set_option maxHeartbeats 4000000 in
set_option maxRecDepth 100000 in
theorem czL_entry (l : Launch) (hT : l.stackTraces = false) (X : zC) (N : zN) {x1 : Int} {x2 : Int} {x3 : Int} {x4 : Int} {g g' : zG} {r : Int} (h : sL_entry x1 x2 x3 x4 g = some (r, g')) : zMW l yL_entry cL_entry 7 (some .int) [(0, 14, 17, 13), (0, 14, 21, 15), (0, 14, 25, 17)] { frames := 8, cells := 5, slots := 30, locals := 137 } X N g [z_r N 0 0, z_v x1, z_v x2, z_v x3, z_v x4, z_r N 17 0] (zQn X N r g') := by
  refine z_wofW (own := RL) (by decide +kernel) rfl (Nat.le_of_ble_eq_true rfl) ?_
  intro p e s m args below meth c ls hF hr htab hw hl
  have hl : lv_has ls 7 [(0, z_r N 0 0), (1, z_v x1), (2, z_v x2), (3, z_v x3), (4, z_v x4), (5, z_r N 17 0)] := hl
  have hx := hF.1.1
  have hb := hF.1.2.1
  unfold sL_entry at h
  generalize s.heap = H at hw ⊢
  generalize ([] : List Loc) = locs at hw ⊢
  refine lv_aload hx hb dL_entry_0 (lv_at hl 5 rfl) ?_
  refine lv_iconst hx hb dL_entry_2 rfl ?_
  refine lv_aload_n hx hb dL_entry_3 rfl (lv_at hl 0 rfl) ?_
  refine lv_iload_n hx hb dL_entry_4 rfl (lv_at hl 1 rfl) ?_
  refine lv_iload_n hx hb dL_entry_5 rfl (lv_at hl 2 rfl) ?_
  refine lv_iload_n hx hb dL_entry_6 rfl (lv_at hl 3 rfl) ?_
  refine lv_iload hx hb dL_entry_7 (lv_at hl 4 rfl) ?_
  obtain ⟨o1, g1, h1, h⟩ := zbc_some h
  refine zw_callVi (n := 4) (As := [z_v x1, z_v x2, z_v x3, z_v x4]) (rest := [z_v 0, z_r N 17 0]) hF hw (czX4_entry l hT X N h1) h zEf_0_0 (by decide) zC_0 (z_goodV qw_534 qw_535 qw_536 qw_36 qw_537) (by decide +kernel) ⟨Nat.le_of_ble_eq_true rfl, Nat.le_of_ble_eq_true rfl⟩ rfl hl.1 rfl (Nat.le_of_ble_eq_true rfl) dL_entry_9 ⟨Nat.le_of_ble_eq_true rfl, Nat.le_of_ble_eq_true rfl⟩ (fun h H locs ce q9 hw hce hcv hcl => ?_) (fun H locs hw h => ?_)
  · have htab := htab
    rcases h with ⟨hj, h⟩ | ⟨hj, h⟩ | ⟨hj, h⟩
    · have ej : 1 = o1.1 := Option.some.inj hj
      rw [← ej] at hcl
      refine vx_catch (E := zXn 1) (name := "java/lang/IndexOutOfBoundsException") hF.1.2.2.2.1 [] ⟨0, 14, 17, 13⟩ [⟨0, 14, 21, 15⟩, ⟨0, 14, 25, 17⟩] (by rw [htab]; rfl) (fun z hz => nomatch hz) rfl (by decide) (hF.1.2.2.2.2 _ qw_308) (va_Nw.use rfl (hF.2.2.1.2.2.2.1 _ (List.mem_of_getElem? (i := 0) rfl))) hce hcv hcl ?_
      refine lv_astore (lv' := [(6, .ref q9), (0, z_r N 0 0), (1, z_v x1), (2, z_v x2), (3, z_v x3), (4, z_v x4), (5, z_r N 17 0)]) hx hb dL_entry_17 hl (by decide) rfl (fun ls hl => ?_)
      refine lv_iconst hx hb dL_entry_19 rfl ?_
      exact zw_iret hF hr zSame.rf hw h dL_entry_20 ⟨Nat.le_of_ble_eq_true rfl, Nat.le_of_ble_eq_true rfl⟩
    · have ej : 2 = o1.1 := Option.some.inj hj
      rw [← ej] at hcl
      refine vx_catch (E := zXn 2) (name := "java/lang/IllegalArgumentException") hF.1.2.2.2.1 [⟨0, 14, 17, 13⟩] ⟨0, 14, 21, 15⟩ [⟨0, 14, 25, 17⟩] (by rw [htab]; rfl) (fun z hz => by
          rcases List.mem_cons.mp hz with rfl | hz
          · exact Or.inr ⟨by decide, "java/lang/IndexOutOfBoundsException", hF.1.2.2.2.2 _ qw_308, hF.2.2.1.2.2.2.2.1 _ (List.mem_of_getElem? (i := 0) rfl)⟩
          · exact nomatch hz) rfl (by decide) (hF.1.2.2.2.2 _ qw_309) (va_Nw.use rfl (hF.2.2.1.2.2.2.1 _ (List.mem_of_getElem? (i := 1) rfl))) hce hcv hcl ?_
      refine lv_astore (lv' := [(6, .ref q9), (0, z_r N 0 0), (1, z_v x1), (2, z_v x2), (3, z_v x3), (4, z_v x4), (5, z_r N 17 0)]) hx hb dL_entry_21 hl (by decide) rfl (fun ls hl => ?_)
      refine lv_iconst hx hb dL_entry_23 rfl ?_
      exact zw_iret hF hr zSame.rf hw h dL_entry_24 ⟨Nat.le_of_ble_eq_true rfl, Nat.le_of_ble_eq_true rfl⟩
    · have ej : 3 = o1.1 := Option.some.inj hj
      rw [← ej] at hcl
      refine vx_catch (E := zXn 3) (name := "java/lang/IllegalStateException") hF.1.2.2.2.1 [⟨0, 14, 17, 13⟩, ⟨0, 14, 21, 15⟩] ⟨0, 14, 25, 17⟩ [] (by rw [htab]; rfl) (fun z hz => by
          rcases List.mem_cons.mp hz with rfl | hz
          · exact Or.inr ⟨by decide, "java/lang/IndexOutOfBoundsException", hF.1.2.2.2.2 _ qw_308, hF.2.2.1.2.2.2.2.1 _ (List.mem_of_getElem? (i := 1) rfl)⟩
          · rcases List.mem_cons.mp hz with rfl | hz
            · exact Or.inr ⟨by decide, "java/lang/IllegalArgumentException", hF.1.2.2.2.2 _ qw_309, hF.2.2.1.2.2.2.2.1 _ (List.mem_of_getElem? (i := 2) rfl)⟩
            · exact nomatch hz) rfl (by decide) (hF.1.2.2.2.2 _ qw_310) (va_Nw.use rfl (hF.2.2.1.2.2.2.1 _ (List.mem_of_getElem? (i := 2) rfl))) hce hcv hcl ?_
      refine lv_astore (lv' := [(6, .ref q9), (0, z_r N 0 0), (1, z_v x1), (2, z_v x2), (3, z_v x3), (4, z_v x4), (5, z_r N 17 0)]) hx hb dL_entry_25 hl (by decide) rfl (fun ls hl => ?_)
      refine lv_iconst hx hb dL_entry_27 rfl ?_
      exact zw_iret hF hr zSame.rf hw h dL_entry_28 ⟨Nat.le_of_ble_eq_true rfl, Nat.le_of_ble_eq_true rfl⟩
  clear h1
  generalize g1 = g at *
  generalize o1.2 = r1 at *
  refine zr_i2l hF h dL_entry_12 (fun h => ?_)
  refine zr_last hF hw zEf_17_0 h dL_entry_13 (fun g H locs hw h => ?_)
  refine lv_goto (tgt := 29) hx hb dL_entry_14 (by decide) ?_
  refine lv_iconst hx hb dL_entry_29 rfl ?_
  exact zw_iret hF hr zSame.rf hw h dL_entry_30 ⟨Nat.le_of_ble_eq_true rfl, Nat.le_of_ble_eq_true rfl⟩
set_option maxHeartbeats 4000000 in
set_option maxRecDepth 100000 in
theorem wL_exempt_j16 {p : Program} {l : Launch} {e : Env} {s : State} {m : MethodId} {args : Array Value} {below : List Frame} {meth : Method} {c : Code} {X : zC} {N : zN} {r : Int} {g' : zG} {H : Heap} {locs : List Loc} {ls : Array Slot} (hF : zF p s m args meth c X cL_exempt 5 RL) (hr : meth.sig.returnType = (some .int)) {t1 : Int} {u2 : Int} {g : zG} (hw : zH X N g s H locs) (hl : lv_has ls 5 []) (h : sL_exempt_j16 t1 u2 g = some (r, g')) : W p l e { frames := 8, cells := 2, slots := 12, locals := 135 } s m args below meth c H locs 2 12 (MQ below (zQn X N r g') args s 2 12 (zA X)) (F0 m 16 ls [z_l u2, z_v t1, z_r N 17 0]) := by
  have hx := hF.1.1
  have hb := hF.1.2.1
  unfold sL_exempt_j16 at h
  refine zr_last hF hw zEf_17_0 h dL_exempt_16 (fun g H locs hw h => ?_)
  refine lv_goto (tgt := 28) hx hb dL_exempt_17 (by decide) ?_
  refine lv_iconst hx hb dL_exempt_28 rfl ?_
  exact zw_iret hF hr zSame.rf hw h dL_exempt_29 ⟨Nat.le_of_ble_eq_true rfl, Nat.le_of_ble_eq_true rfl⟩
set_option maxHeartbeats 4000000 in
set_option maxRecDepth 100000 in
theorem czL_exempt (l : Launch) (hT : l.stackTraces = false) (X : zC) (N : zN) {x1 : Int} {x2 : Int} {g g' : zG} {r : Int} (h : sL_exempt x1 x2 g = some (r, g')) : zMW l yL_exempt cL_exempt 5 (some .int) [(0, 17, 20, 13), (0, 17, 24, 17)] { frames := 8, cells := 2, slots := 12, locals := 135 } X N g [z_r N 0 0, z_v x1, z_v x2, z_r N 17 0] (zQn X N r g') := by
  refine z_wofW (own := RL) (by decide +kernel) rfl (Nat.le_of_ble_eq_true rfl) ?_
  intro p e s m args below meth c ls hF hr htab hw hl
  have hl : lv_has ls 5 [(0, z_r N 0 0), (1, z_v x1), (2, z_v x2), (3, z_r N 17 0)] := hl
  have hx := hF.1.1
  have hb := hF.1.2.1
  unfold sL_exempt at h
  generalize s.heap = H at hw ⊢
  generalize ([] : List Loc) = locs at hw ⊢
  refine lv_aload_n hx hb dL_exempt_0 rfl (lv_at hl 3 rfl) ?_
  refine lv_iconst hx hb dL_exempt_1 rfl ?_
  refine lv_aload_n hx hb dL_exempt_2 rfl (lv_at hl 0 rfl) ?_
  refine lv_iload_n hx hb dL_exempt_3 rfl (lv_at hl 1 rfl) ?_
  refine lv_iload_n hx hb dL_exempt_4 rfl (lv_at hl 2 rfl) ?_
  obtain ⟨o1, g1, h1, h⟩ := zbc_some h
  refine zw_callVi (n := 2) (As := [z_v x1, z_v x2]) (rest := [z_v 0, z_r N 17 0]) hF hw (czX4_exempt l hT X N h1) h zEf_0_0 (by decide) zC_0 (z_goodV qw_563 qw_564 qw_565 qw_36 qw_566) (by decide +kernel) ⟨Nat.le_of_ble_eq_true rfl, Nat.le_of_ble_eq_true rfl⟩ rfl hl.1 rfl (Nat.le_of_ble_eq_true rfl) dL_exempt_5 ⟨Nat.le_of_ble_eq_true rfl, Nat.le_of_ble_eq_true rfl⟩ (fun h H locs ce q9 hw hce hcv hcl => ?_) (fun H locs hw h => ?_)
  · have htab := htab
    rcases h with ⟨hj, h⟩ | ⟨hj, h⟩ | ⟨hj, h⟩
    · have ej : 1 = o1.1 := Option.some.inj hj
      rw [← ej] at hcl
      refine vx_catch (E := zXn 1) (name := "java/lang/IndexOutOfBoundsException") hF.1.2.2.2.1 [] ⟨0, 17, 20, 13⟩ [⟨0, 17, 24, 17⟩] (by rw [htab]; rfl) (fun z hz => nomatch hz) rfl (by decide) (hF.1.2.2.2.2 _ qw_308) (va_Nw.use rfl (hF.2.2.1.2.2.2.1 _ (List.mem_of_getElem? (i := 0) rfl))) hce hcv hcl ?_
      refine lv_astore (lv' := [(4, .ref q9), (0, z_r N 0 0), (1, z_v x1), (2, z_v x2), (3, z_r N 17 0)]) hx hb dL_exempt_20 hl (by decide) rfl (fun ls hl => ?_)
      refine lv_iconst hx hb dL_exempt_22 rfl ?_
      exact zw_iret hF hr zSame.rf hw h dL_exempt_23 ⟨Nat.le_of_ble_eq_true rfl, Nat.le_of_ble_eq_true rfl⟩
    · have ej : 3 = o1.1 := Option.some.inj hj
      rw [← ej] at hcl
      refine vx_catch (E := zXn 3) (name := "java/lang/IllegalStateException") hF.1.2.2.2.1 [⟨0, 17, 20, 13⟩] ⟨0, 17, 24, 17⟩ [] (by rw [htab]; rfl) (fun z hz => by
          rcases List.mem_cons.mp hz with rfl | hz
          · exact Or.inr ⟨by decide, "java/lang/IndexOutOfBoundsException", hF.1.2.2.2.2 _ qw_308, hF.2.2.1.2.2.2.2.1 _ (List.mem_of_getElem? (i := 1) rfl)⟩
          · exact nomatch hz) rfl (by decide) (hF.1.2.2.2.2 _ qw_310) (va_Nw.use rfl (hF.2.2.1.2.2.2.1 _ (List.mem_of_getElem? (i := 2) rfl))) hce hcv hcl ?_
      refine lv_astore (lv' := [(4, .ref q9), (0, z_r N 0 0), (1, z_v x1), (2, z_v x2), (3, z_r N 17 0)]) hx hb dL_exempt_24 hl (by decide) rfl (fun ls hl => ?_)
      refine lv_iconst hx hb dL_exempt_26 rfl ?_
      exact zw_iret hF hr zSame.rf hw h dL_exempt_27 ⟨Nat.le_of_ble_eq_true rfl, Nat.le_of_ble_eq_true rfl⟩
    · cases hj
  clear h1
  generalize g1 = g at *
  generalize o1.2 = r1 at *
  refine zr_if_eq (tgt := 15) hF h dL_exempt_8 (by decide) (fun h => ?_) (fun h => ?_)
  · refine lv_lconst (v := Int64.ofInt 0) hx hb dL_exempt_15 (by decide) ?_
    exact wL_exempt_j16 hF hr  hw (lv_sub hl [] rfl) h
  · refine lv_lconst (v := Int64.ofInt 1) hx hb dL_exempt_11 (by decide) ?_
    refine lv_goto (tgt := 16) hx hb dL_exempt_12 (by decide) ?_
    exact wL_exempt_j16 hF hr  hw (lv_sub hl [] rfl) h
set_option maxHeartbeats 4000000 in
set_option maxRecDepth 100000 in
theorem czL_flightIs (l : Launch) (hT : l.stackTraces = false) (X : zC) (N : zN) {x1 : Int} {x2 : Int} {g g' : zG} {r : Int} (h : sL_flightIs x1 x2 g = some (r, g')) : zMW l yL_flightIs cL_flightIs 5 (some .int) [(0, 10, 13, 13), (0, 10, 17, 15)] { frames := 8, cells := 2, slots := 12, locals := 135 } X N g [z_r N 0 0, z_v x1, z_v x2, z_r N 17 0] (zQn X N r g') := by
  refine z_wofW (own := RL) (by decide +kernel) rfl (Nat.le_of_ble_eq_true rfl) ?_
  intro p e s m args below meth c ls hF hr htab hw hl
  have hl : lv_has ls 5 [(0, z_r N 0 0), (1, z_v x1), (2, z_v x2), (3, z_r N 17 0)] := hl
  have hx := hF.1.1
  have hb := hF.1.2.1
  unfold sL_flightIs at h
  generalize s.heap = H at hw ⊢
  generalize ([] : List Loc) = locs at hw ⊢
  refine lv_aload_n hx hb dL_flightIs_0 rfl (lv_at hl 3 rfl) ?_
  refine lv_iconst hx hb dL_flightIs_1 rfl ?_
  refine lv_aload_n hx hb dL_flightIs_2 rfl (lv_at hl 0 rfl) ?_
  refine lv_iload_n hx hb dL_flightIs_3 rfl (lv_at hl 1 rfl) ?_
  refine lv_iload_n hx hb dL_flightIs_4 rfl (lv_at hl 2 rfl) ?_
  obtain ⟨o1, g1, h1, h⟩ := zbc_some h
  refine zw_callVi (n := 2) (As := [z_v x1, z_v x2]) (rest := [z_v 0, z_r N 17 0]) hF hw (czX4_flightIs l hT X N h1) h zEf_0_0 (by decide) zC_0 (z_goodV qw_572 qw_573 qw_574 qw_36 qw_575) (by decide +kernel) ⟨Nat.le_of_ble_eq_true rfl, Nat.le_of_ble_eq_true rfl⟩ rfl hl.1 rfl (Nat.le_of_ble_eq_true rfl) dL_flightIs_5 ⟨Nat.le_of_ble_eq_true rfl, Nat.le_of_ble_eq_true rfl⟩ (fun h H locs ce q9 hw hce hcv hcl => ?_) (fun H locs hw h => ?_)
  · have htab := htab
    rcases h with ⟨hj, h⟩ | ⟨hj, h⟩ | ⟨hj, h⟩
    · have ej : 1 = o1.1 := Option.some.inj hj
      rw [← ej] at hcl
      refine vx_catch (E := zXn 1) (name := "java/lang/IndexOutOfBoundsException") hF.1.2.2.2.1 [] ⟨0, 10, 13, 13⟩ [⟨0, 10, 17, 15⟩] (by rw [htab]; rfl) (fun z hz => nomatch hz) rfl (by decide) (hF.1.2.2.2.2 _ qw_308) (va_Nw.use rfl (hF.2.2.1.2.2.2.1 _ (List.mem_of_getElem? (i := 0) rfl))) hce hcv hcl ?_
      refine lv_astore (lv' := [(4, .ref q9), (0, z_r N 0 0), (1, z_v x1), (2, z_v x2), (3, z_r N 17 0)]) hx hb dL_flightIs_13 hl (by decide) rfl (fun ls hl => ?_)
      refine lv_iconst hx hb dL_flightIs_15 rfl ?_
      exact zw_iret hF hr zSame.rf hw h dL_flightIs_16 ⟨Nat.le_of_ble_eq_true rfl, Nat.le_of_ble_eq_true rfl⟩
    · have ej : 2 = o1.1 := Option.some.inj hj
      rw [← ej] at hcl
      refine vx_catch (E := zXn 2) (name := "java/lang/IllegalArgumentException") hF.1.2.2.2.1 [⟨0, 10, 13, 13⟩] ⟨0, 10, 17, 15⟩ [] (by rw [htab]; rfl) (fun z hz => by
          rcases List.mem_cons.mp hz with rfl | hz
          · exact Or.inr ⟨by decide, "java/lang/IndexOutOfBoundsException", hF.1.2.2.2.2 _ qw_308, hF.2.2.1.2.2.2.2.1 _ (List.mem_of_getElem? (i := 0) rfl)⟩
          · exact nomatch hz) rfl (by decide) (hF.1.2.2.2.2 _ qw_309) (va_Nw.use rfl (hF.2.2.1.2.2.2.1 _ (List.mem_of_getElem? (i := 1) rfl))) hce hcv hcl ?_
      refine lv_astore (lv' := [(4, .ref q9), (0, z_r N 0 0), (1, z_v x1), (2, z_v x2), (3, z_r N 17 0)]) hx hb dL_flightIs_17 hl (by decide) rfl (fun ls hl => ?_)
      refine lv_iconst hx hb dL_flightIs_19 rfl ?_
      exact zw_iret hF hr zSame.rf hw h dL_flightIs_20 ⟨Nat.le_of_ble_eq_true rfl, Nat.le_of_ble_eq_true rfl⟩
    · cases hj
  clear h1
  generalize g1 = g at *
  generalize o1.2 = r1 at *
  refine zr_i2l hF h dL_flightIs_8 (fun h => ?_)
  refine zr_last hF hw zEf_17_0 h dL_flightIs_9 (fun g H locs hw h => ?_)
  refine lv_goto (tgt := 21) hx hb dL_flightIs_10 (by decide) ?_
  refine lv_iconst hx hb dL_flightIs_21 rfl ?_
  exact zw_iret hF hr zSame.rf hw h dL_flightIs_22 ⟨Nat.le_of_ble_eq_true rfl, Nat.le_of_ble_eq_true rfl⟩
set_option maxHeartbeats 4000000 in
set_option maxRecDepth 100000 in
theorem czL_over (l : Launch) (hT : l.stackTraces = false) (X : zC) (N : zN) {x1 : Int} {x2 : Int} {g g' : zG} {r : Int} (h : sL_over x1 x2 g = some (r, g')) : zMW l yL_over cL_over 5 (some .int) [(0, 10, 13, 13)] { frames := 8, cells := 2, slots := 12, locals := 134 } X N g [z_r N 0 0, z_v x1, z_v x2, z_r N 17 0] (zQn X N r g') := by
  refine z_wofW (own := RL) (by decide +kernel) rfl (Nat.le_of_ble_eq_true rfl) ?_
  intro p e s m args below meth c ls hF hr htab hw hl
  have hl : lv_has ls 5 [(0, z_r N 0 0), (1, z_v x1), (2, z_v x2), (3, z_r N 17 0)] := hl
  have hx := hF.1.1
  have hb := hF.1.2.1
  unfold sL_over at h
  generalize s.heap = H at hw ⊢
  generalize ([] : List Loc) = locs at hw ⊢
  refine lv_aload_n hx hb dL_over_0 rfl (lv_at hl 3 rfl) ?_
  refine lv_iconst hx hb dL_over_1 rfl ?_
  refine lv_aload_n hx hb dL_over_2 rfl (lv_at hl 0 rfl) ?_
  refine lv_iload_n hx hb dL_over_3 rfl (lv_at hl 1 rfl) ?_
  refine lv_iload_n hx hb dL_over_4 rfl (lv_at hl 2 rfl) ?_
  obtain ⟨o1, g1, h1, h⟩ := zbc_some h
  refine zw_callVi (n := 2) (As := [z_v x1, z_v x2]) (rest := [z_v 0, z_r N 17 0]) hF hw (czX4_over l hT X N h1) h zEf_0_0 (by decide) zC_0 (z_goodV qw_583 qw_584 qw_585 qw_36 qw_586) (by decide +kernel) ⟨Nat.le_of_ble_eq_true rfl, Nat.le_of_ble_eq_true rfl⟩ rfl hl.1 rfl (Nat.le_of_ble_eq_true rfl) dL_over_5 ⟨Nat.le_of_ble_eq_true rfl, Nat.le_of_ble_eq_true rfl⟩ (fun h H locs ce q9 hw hce hcv hcl => ?_) (fun H locs hw h => ?_)
  · have htab := htab
    rcases h with ⟨hj, h⟩ | ⟨hj, h⟩ | ⟨hj, h⟩
    · have ej : 1 = o1.1 := Option.some.inj hj
      rw [← ej] at hcl
      refine vx_catch (E := zXn 1) (name := "java/lang/IndexOutOfBoundsException") hF.1.2.2.2.1 [] ⟨0, 10, 13, 13⟩ [] (by rw [htab]; rfl) (fun z hz => nomatch hz) rfl (by decide) (hF.1.2.2.2.2 _ qw_308) (va_Nw.use rfl (hF.2.2.1.2.2.2.1 _ (List.mem_of_getElem? (i := 0) rfl))) hce hcv hcl ?_
      refine lv_astore (lv' := [(4, .ref q9), (0, z_r N 0 0), (1, z_v x1), (2, z_v x2), (3, z_r N 17 0)]) hx hb dL_over_13 hl (by decide) rfl (fun ls hl => ?_)
      refine lv_iconst hx hb dL_over_15 rfl ?_
      exact zw_iret hF hr zSame.rf hw h dL_over_16 ⟨Nat.le_of_ble_eq_true rfl, Nat.le_of_ble_eq_true rfl⟩
    · cases hj
    · cases hj
  clear h1
  generalize g1 = g at *
  generalize o1.2 = r1 at *
  refine zr_i2l hF h dL_over_8 (fun h => ?_)
  refine zr_last hF hw zEf_17_0 h dL_over_9 (fun g H locs hw h => ?_)
  refine lv_goto (tgt := 17) hx hb dL_over_10 (by decide) ?_
  refine lv_iconst hx hb dL_over_17 rfl ?_
  exact zw_iret hF hr zSame.rf hw h dL_over_18 ⟨Nat.le_of_ble_eq_true rfl, Nat.le_of_ble_eq_true rfl⟩
set_option maxHeartbeats 4000000 in
set_option maxRecDepth 100000 in
theorem czL_load (l : Launch) (hT : l.stackTraces = false) (X : zC) (N : zN) {n : Nat} {x1 : Int} {x2 : Int} {x3 : Int} {g g' : zG} {r : Int} (h : sL_load n x1 x2 x3 g = some (r, g')) : zMW l yL_load cL_load 6 (some .int) [(0, 12, 15, 13), (0, 12, 19, 15)] { frames := 8, cells := 3, slots := 18, locals := 135 } X N g [z_r N 0 0, z_v x1, z_v x2, z_v x3, z_r N 17 0] (zQn X N r g') := by
  refine z_wofW (own := RL) (by decide +kernel) rfl (Nat.le_of_ble_eq_true rfl) ?_
  intro p e s m args below meth c ls hF hr htab hw hl
  have hl : lv_has ls 6 [(0, z_r N 0 0), (1, z_v x1), (2, z_v x2), (3, z_v x3), (4, z_r N 17 0)] := hl
  have hx := hF.1.1
  have hb := hF.1.2.1
  unfold sL_load at h
  generalize s.heap = H at hw ⊢
  generalize ([] : List Loc) = locs at hw ⊢
  refine lv_aload hx hb dL_load_0 (lv_at hl 4 rfl) ?_
  refine lv_iconst hx hb dL_load_2 rfl ?_
  refine lv_aload_n hx hb dL_load_3 rfl (lv_at hl 0 rfl) ?_
  refine lv_iload_n hx hb dL_load_4 rfl (lv_at hl 1 rfl) ?_
  refine lv_iload_n hx hb dL_load_5 rfl (lv_at hl 2 rfl) ?_
  refine lv_iload_n hx hb dL_load_6 rfl (lv_at hl 3 rfl) ?_
  obtain ⟨o1, g1, h1, h⟩ := zbc_some h
  refine zw_callVi (n := 3) (As := [z_v x1, z_v x2, z_v x3]) (rest := [z_v 0, z_r N 17 0]) hF hw (czX4_load l hT X N h1) h zEf_0_0 (by decide) zC_0 (z_goodV qw_595 qw_596 qw_597 qw_36 qw_598) (by decide +kernel) ⟨Nat.le_of_ble_eq_true rfl, Nat.le_of_ble_eq_true rfl⟩ rfl hl.1 rfl (Nat.le_of_ble_eq_true rfl) dL_load_7 ⟨Nat.le_of_ble_eq_true rfl, Nat.le_of_ble_eq_true rfl⟩ (fun h H locs ce q9 hw hce hcv hcl => ?_) (fun H locs hw h => ?_)
  · have htab := htab
    rcases h with ⟨hj, h⟩ | ⟨hj, h⟩ | ⟨hj, h⟩
    · have ej : 1 = o1.1 := Option.some.inj hj
      rw [← ej] at hcl
      refine vx_catch (E := zXn 1) (name := "java/lang/IndexOutOfBoundsException") hF.1.2.2.2.1 [] ⟨0, 12, 15, 13⟩ [⟨0, 12, 19, 15⟩] (by rw [htab]; rfl) (fun z hz => nomatch hz) rfl (by decide) (hF.1.2.2.2.2 _ qw_308) (va_Nw.use rfl (hF.2.2.1.2.2.2.1 _ (List.mem_of_getElem? (i := 0) rfl))) hce hcv hcl ?_
      refine lv_astore (lv' := [(5, .ref q9), (0, z_r N 0 0), (1, z_v x1), (2, z_v x2), (3, z_v x3), (4, z_r N 17 0)]) hx hb dL_load_15 hl (by decide) rfl (fun ls hl => ?_)
      refine lv_iconst hx hb dL_load_17 rfl ?_
      exact zw_iret hF hr zSame.rf hw h dL_load_18 ⟨Nat.le_of_ble_eq_true rfl, Nat.le_of_ble_eq_true rfl⟩
    · have ej : 2 = o1.1 := Option.some.inj hj
      rw [← ej] at hcl
      refine vx_catch (E := zXn 2) (name := "java/lang/IllegalArgumentException") hF.1.2.2.2.1 [⟨0, 12, 15, 13⟩] ⟨0, 12, 19, 15⟩ [] (by rw [htab]; rfl) (fun z hz => by
          rcases List.mem_cons.mp hz with rfl | hz
          · exact Or.inr ⟨by decide, "java/lang/IndexOutOfBoundsException", hF.1.2.2.2.2 _ qw_308, hF.2.2.1.2.2.2.2.1 _ (List.mem_of_getElem? (i := 0) rfl)⟩
          · exact nomatch hz) rfl (by decide) (hF.1.2.2.2.2 _ qw_309) (va_Nw.use rfl (hF.2.2.1.2.2.2.1 _ (List.mem_of_getElem? (i := 1) rfl))) hce hcv hcl ?_
      refine lv_astore (lv' := [(5, .ref q9), (0, z_r N 0 0), (1, z_v x1), (2, z_v x2), (3, z_v x3), (4, z_r N 17 0)]) hx hb dL_load_19 hl (by decide) rfl (fun ls hl => ?_)
      refine lv_iconst hx hb dL_load_21 rfl ?_
      exact zw_iret hF hr zSame.rf hw h dL_load_22 ⟨Nat.le_of_ble_eq_true rfl, Nat.le_of_ble_eq_true rfl⟩
    · cases hj
  clear h1
  generalize g1 = g at *
  generalize o1.2 = r1 at *
  refine zr_i2l hF h dL_load_10 (fun h => ?_)
  refine zr_last hF hw zEf_17_0 h dL_load_11 (fun g H locs hw h => ?_)
  refine lv_goto (tgt := 23) hx hb dL_load_12 (by decide) ?_
  refine lv_iconst hx hb dL_load_23 rfl ?_
  exact zw_iret hF hr zSame.rf hw h dL_load_24 ⟨Nat.le_of_ble_eq_true rfl, Nat.le_of_ble_eq_true rfl⟩
set_option maxHeartbeats 4000000 in
set_option maxRecDepth 100000 in
theorem czL_inside (l : Launch) (hT : l.stackTraces = false) (X : zC) (N : zN) {n : Nat} {x1 : Int} {x2 : Int} {g g' : zG} {r : Int} (h : sL_inside n x1 x2 g = some (r, g')) : zMW l yL_inside cL_inside 5 (some .int) [(0, 10, 13, 13), (0, 10, 17, 15)] { frames := 8, cells := 2, slots := 12, locals := 136 } X N g [z_r N 0 0, z_v x1, z_v x2, z_r N 17 0] (zQn X N r g') := by
  refine z_wofW (own := RL) (by decide +kernel) rfl (Nat.le_of_ble_eq_true rfl) ?_
  intro p e s m args below meth c ls hF hr htab hw hl
  have hl : lv_has ls 5 [(0, z_r N 0 0), (1, z_v x1), (2, z_v x2), (3, z_r N 17 0)] := hl
  have hx := hF.1.1
  have hb := hF.1.2.1
  unfold sL_inside at h
  generalize s.heap = H at hw ⊢
  generalize ([] : List Loc) = locs at hw ⊢
  refine lv_aload_n hx hb dL_inside_0 rfl (lv_at hl 3 rfl) ?_
  refine lv_iconst hx hb dL_inside_1 rfl ?_
  refine lv_aload_n hx hb dL_inside_2 rfl (lv_at hl 0 rfl) ?_
  refine lv_iload_n hx hb dL_inside_3 rfl (lv_at hl 1 rfl) ?_
  refine lv_iload_n hx hb dL_inside_4 rfl (lv_at hl 2 rfl) ?_
  obtain ⟨o1, g1, h1, h⟩ := zbc_some h
  refine zw_callVi (n := 2) (As := [z_v x1, z_v x2]) (rest := [z_v 0, z_r N 17 0]) hF hw (czX4_inside l hT X N h1) h zEf_0_0 (by decide) zC_0 (z_goodV qw_610 qw_611 qw_612 qw_36 qw_613) (by decide +kernel) ⟨Nat.le_of_ble_eq_true rfl, Nat.le_of_ble_eq_true rfl⟩ rfl hl.1 rfl (Nat.le_of_ble_eq_true rfl) dL_inside_5 ⟨Nat.le_of_ble_eq_true rfl, Nat.le_of_ble_eq_true rfl⟩ (fun h H locs ce q9 hw hce hcv hcl => ?_) (fun H locs hw h => ?_)
  · have htab := htab
    rcases h with ⟨hj, h⟩ | ⟨hj, h⟩ | ⟨hj, h⟩
    · have ej : 1 = o1.1 := Option.some.inj hj
      rw [← ej] at hcl
      refine vx_catch (E := zXn 1) (name := "java/lang/IndexOutOfBoundsException") hF.1.2.2.2.1 [] ⟨0, 10, 13, 13⟩ [⟨0, 10, 17, 15⟩] (by rw [htab]; rfl) (fun z hz => nomatch hz) rfl (by decide) (hF.1.2.2.2.2 _ qw_308) (va_Nw.use rfl (hF.2.2.1.2.2.2.1 _ (List.mem_of_getElem? (i := 0) rfl))) hce hcv hcl ?_
      refine lv_astore (lv' := [(4, .ref q9), (0, z_r N 0 0), (1, z_v x1), (2, z_v x2), (3, z_r N 17 0)]) hx hb dL_inside_13 hl (by decide) rfl (fun ls hl => ?_)
      refine lv_iconst hx hb dL_inside_15 rfl ?_
      exact zw_iret hF hr zSame.rf hw h dL_inside_16 ⟨Nat.le_of_ble_eq_true rfl, Nat.le_of_ble_eq_true rfl⟩
    · have ej : 2 = o1.1 := Option.some.inj hj
      rw [← ej] at hcl
      refine vx_catch (E := zXn 2) (name := "java/lang/IllegalArgumentException") hF.1.2.2.2.1 [⟨0, 10, 13, 13⟩] ⟨0, 10, 17, 15⟩ [] (by rw [htab]; rfl) (fun z hz => by
          rcases List.mem_cons.mp hz with rfl | hz
          · exact Or.inr ⟨by decide, "java/lang/IndexOutOfBoundsException", hF.1.2.2.2.2 _ qw_308, hF.2.2.1.2.2.2.2.1 _ (List.mem_of_getElem? (i := 0) rfl)⟩
          · exact nomatch hz) rfl (by decide) (hF.1.2.2.2.2 _ qw_309) (va_Nw.use rfl (hF.2.2.1.2.2.2.1 _ (List.mem_of_getElem? (i := 1) rfl))) hce hcv hcl ?_
      refine lv_astore (lv' := [(4, .ref q9), (0, z_r N 0 0), (1, z_v x1), (2, z_v x2), (3, z_r N 17 0)]) hx hb dL_inside_17 hl (by decide) rfl (fun ls hl => ?_)
      refine lv_iconst hx hb dL_inside_19 rfl ?_
      exact zw_iret hF hr zSame.rf hw h dL_inside_20 ⟨Nat.le_of_ble_eq_true rfl, Nat.le_of_ble_eq_true rfl⟩
    · cases hj
  clear h1
  generalize g1 = g at *
  generalize o1.2 = r1 at *
  refine zr_i2l hF h dL_inside_8 (fun h => ?_)
  refine zr_last hF hw zEf_17_0 h dL_inside_9 (fun g H locs hw h => ?_)
  refine lv_goto (tgt := 21) hx hb dL_inside_10 (by decide) ?_
  refine lv_iconst hx hb dL_inside_21 rfl ?_
  exact zw_iret hF hr zSame.rf hw h dL_inside_22 ⟨Nat.le_of_ble_eq_true rfl, Nat.le_of_ble_eq_true rfl⟩
set_option maxHeartbeats 4000000 in
set_option maxRecDepth 100000 in
theorem czL_peak (l : Launch) (hT : l.stackTraces = false) (X : zC) (N : zN) {n : Nat} {x1 : Int} {x2 : Int} {g g' : zG} {r : Int} (h : sL_peak n x1 x2 g = some (r, g')) : zMW l yL_peak cL_peak 5 (some .int) [(0, 10, 13, 13), (0, 10, 17, 15)] { frames := 8, cells := 2, slots := 12, locals := 138 } X N g [z_r N 0 0, z_v x1, z_v x2, z_r N 17 0] (zQn X N r g') := by
  refine z_wofW (own := RL) (by decide +kernel) rfl (Nat.le_of_ble_eq_true rfl) ?_
  intro p e s m args below meth c ls hF hr htab hw hl
  have hl : lv_has ls 5 [(0, z_r N 0 0), (1, z_v x1), (2, z_v x2), (3, z_r N 17 0)] := hl
  have hx := hF.1.1
  have hb := hF.1.2.1
  unfold sL_peak at h
  generalize s.heap = H at hw ⊢
  generalize ([] : List Loc) = locs at hw ⊢
  refine lv_aload_n hx hb dL_peak_0 rfl (lv_at hl 3 rfl) ?_
  refine lv_iconst hx hb dL_peak_1 rfl ?_
  refine lv_aload_n hx hb dL_peak_2 rfl (lv_at hl 0 rfl) ?_
  refine lv_iload_n hx hb dL_peak_3 rfl (lv_at hl 1 rfl) ?_
  refine lv_iload_n hx hb dL_peak_4 rfl (lv_at hl 2 rfl) ?_
  obtain ⟨o1, g1, h1, h⟩ := zbc_some h
  refine zw_callVi (n := 2) (As := [z_v x1, z_v x2]) (rest := [z_v 0, z_r N 17 0]) hF hw (czX4_peak l hT X N h1) h zEf_0_0 (by decide) zC_0 (z_goodV qw_627 qw_628 qw_629 qw_36 qw_630) (by decide +kernel) ⟨Nat.le_of_ble_eq_true rfl, Nat.le_of_ble_eq_true rfl⟩ rfl hl.1 rfl (Nat.le_of_ble_eq_true rfl) dL_peak_5 ⟨Nat.le_of_ble_eq_true rfl, Nat.le_of_ble_eq_true rfl⟩ (fun h H locs ce q9 hw hce hcv hcl => ?_) (fun H locs hw h => ?_)
  · have htab := htab
    rcases h with ⟨hj, h⟩ | ⟨hj, h⟩ | ⟨hj, h⟩
    · have ej : 1 = o1.1 := Option.some.inj hj
      rw [← ej] at hcl
      refine vx_catch (E := zXn 1) (name := "java/lang/IndexOutOfBoundsException") hF.1.2.2.2.1 [] ⟨0, 10, 13, 13⟩ [⟨0, 10, 17, 15⟩] (by rw [htab]; rfl) (fun z hz => nomatch hz) rfl (by decide) (hF.1.2.2.2.2 _ qw_308) (va_Nw.use rfl (hF.2.2.1.2.2.2.1 _ (List.mem_of_getElem? (i := 0) rfl))) hce hcv hcl ?_
      refine lv_astore (lv' := [(4, .ref q9), (0, z_r N 0 0), (1, z_v x1), (2, z_v x2), (3, z_r N 17 0)]) hx hb dL_peak_13 hl (by decide) rfl (fun ls hl => ?_)
      refine lv_iconst hx hb dL_peak_15 rfl ?_
      exact zw_iret hF hr zSame.rf hw h dL_peak_16 ⟨Nat.le_of_ble_eq_true rfl, Nat.le_of_ble_eq_true rfl⟩
    · have ej : 2 = o1.1 := Option.some.inj hj
      rw [← ej] at hcl
      refine vx_catch (E := zXn 2) (name := "java/lang/IllegalArgumentException") hF.1.2.2.2.1 [⟨0, 10, 13, 13⟩] ⟨0, 10, 17, 15⟩ [] (by rw [htab]; rfl) (fun z hz => by
          rcases List.mem_cons.mp hz with rfl | hz
          · exact Or.inr ⟨by decide, "java/lang/IndexOutOfBoundsException", hF.1.2.2.2.2 _ qw_308, hF.2.2.1.2.2.2.2.1 _ (List.mem_of_getElem? (i := 0) rfl)⟩
          · exact nomatch hz) rfl (by decide) (hF.1.2.2.2.2 _ qw_309) (va_Nw.use rfl (hF.2.2.1.2.2.2.1 _ (List.mem_of_getElem? (i := 1) rfl))) hce hcv hcl ?_
      refine lv_astore (lv' := [(4, .ref q9), (0, z_r N 0 0), (1, z_v x1), (2, z_v x2), (3, z_r N 17 0)]) hx hb dL_peak_17 hl (by decide) rfl (fun ls hl => ?_)
      refine lv_iconst hx hb dL_peak_19 rfl ?_
      exact zw_iret hF hr zSame.rf hw h dL_peak_20 ⟨Nat.le_of_ble_eq_true rfl, Nat.le_of_ble_eq_true rfl⟩
    · cases hj
  clear h1
  generalize g1 = g at *
  generalize o1.2 = r1 at *
  refine zr_i2l hF h dL_peak_8 (fun h => ?_)
  refine zr_last hF hw zEf_17_0 h dL_peak_9 (fun g H locs hw h => ?_)
  refine lv_goto (tgt := 21) hx hb dL_peak_10 (by decide) ?_
  refine lv_iconst hx hb dL_peak_21 rfl ?_
  exact zw_iret hF hr zSame.rf hw h dL_peak_22 ⟨Nat.le_of_ble_eq_true rfl, Nat.le_of_ble_eq_true rfl⟩
set_option maxHeartbeats 4000000 in
set_option maxRecDepth 100000 in
theorem czL_peakAnew (l : Launch) (hT : l.stackTraces = false) (X : zC) (N : zN) {n : Nat} {x1 : Int} {x2 : Int} {g g' : zG} {r : Int} (h : sL_peakAnew n x1 x2 g = some (r, g')) : zMW l yL_peakAnew cL_peakAnew 5 (some .int) [(0, 10, 13, 13), (0, 10, 17, 15)] { frames := 8, cells := 2, slots := 12, locals := 137 } X N g [z_r N 0 0, z_v x1, z_v x2, z_r N 17 0] (zQn X N r g') := by
  refine z_wofW (own := RL) (by decide +kernel) rfl (Nat.le_of_ble_eq_true rfl) ?_
  intro p e s m args below meth c ls hF hr htab hw hl
  have hl : lv_has ls 5 [(0, z_r N 0 0), (1, z_v x1), (2, z_v x2), (3, z_r N 17 0)] := hl
  have hx := hF.1.1
  have hb := hF.1.2.1
  unfold sL_peakAnew at h
  generalize s.heap = H at hw ⊢
  generalize ([] : List Loc) = locs at hw ⊢
  refine lv_aload_n hx hb dL_peakAnew_0 rfl (lv_at hl 3 rfl) ?_
  refine lv_iconst hx hb dL_peakAnew_1 rfl ?_
  refine lv_aload_n hx hb dL_peakAnew_2 rfl (lv_at hl 0 rfl) ?_
  refine lv_iload_n hx hb dL_peakAnew_3 rfl (lv_at hl 1 rfl) ?_
  refine lv_iload_n hx hb dL_peakAnew_4 rfl (lv_at hl 2 rfl) ?_
  obtain ⟨o1, g1, h1, h⟩ := zbc_some h
  refine zw_callVi (n := 2) (As := [z_v x1, z_v x2]) (rest := [z_v 0, z_r N 17 0]) hF hw (czX4_peakAnew l hT X N h1) h zEf_0_0 (by decide) zC_0 (z_goodV qw_646 qw_647 qw_648 qw_36 qw_649) (by decide +kernel) ⟨Nat.le_of_ble_eq_true rfl, Nat.le_of_ble_eq_true rfl⟩ rfl hl.1 rfl (Nat.le_of_ble_eq_true rfl) dL_peakAnew_5 ⟨Nat.le_of_ble_eq_true rfl, Nat.le_of_ble_eq_true rfl⟩ (fun h H locs ce q9 hw hce hcv hcl => ?_) (fun H locs hw h => ?_)
  · have htab := htab
    rcases h with ⟨hj, h⟩ | ⟨hj, h⟩ | ⟨hj, h⟩
    · have ej : 1 = o1.1 := Option.some.inj hj
      rw [← ej] at hcl
      refine vx_catch (E := zXn 1) (name := "java/lang/IndexOutOfBoundsException") hF.1.2.2.2.1 [] ⟨0, 10, 13, 13⟩ [⟨0, 10, 17, 15⟩] (by rw [htab]; rfl) (fun z hz => nomatch hz) rfl (by decide) (hF.1.2.2.2.2 _ qw_308) (va_Nw.use rfl (hF.2.2.1.2.2.2.1 _ (List.mem_of_getElem? (i := 0) rfl))) hce hcv hcl ?_
      refine lv_astore (lv' := [(4, .ref q9), (0, z_r N 0 0), (1, z_v x1), (2, z_v x2), (3, z_r N 17 0)]) hx hb dL_peakAnew_13 hl (by decide) rfl (fun ls hl => ?_)
      refine lv_iconst hx hb dL_peakAnew_15 rfl ?_
      exact zw_iret hF hr zSame.rf hw h dL_peakAnew_16 ⟨Nat.le_of_ble_eq_true rfl, Nat.le_of_ble_eq_true rfl⟩
    · have ej : 2 = o1.1 := Option.some.inj hj
      rw [← ej] at hcl
      refine vx_catch (E := zXn 2) (name := "java/lang/IllegalArgumentException") hF.1.2.2.2.1 [⟨0, 10, 13, 13⟩] ⟨0, 10, 17, 15⟩ [] (by rw [htab]; rfl) (fun z hz => by
          rcases List.mem_cons.mp hz with rfl | hz
          · exact Or.inr ⟨by decide, "java/lang/IndexOutOfBoundsException", hF.1.2.2.2.2 _ qw_308, hF.2.2.1.2.2.2.2.1 _ (List.mem_of_getElem? (i := 0) rfl)⟩
          · exact nomatch hz) rfl (by decide) (hF.1.2.2.2.2 _ qw_309) (va_Nw.use rfl (hF.2.2.1.2.2.2.1 _ (List.mem_of_getElem? (i := 1) rfl))) hce hcv hcl ?_
      refine lv_astore (lv' := [(4, .ref q9), (0, z_r N 0 0), (1, z_v x1), (2, z_v x2), (3, z_r N 17 0)]) hx hb dL_peakAnew_17 hl (by decide) rfl (fun ls hl => ?_)
      refine lv_iconst hx hb dL_peakAnew_19 rfl ?_
      exact zw_iret hF hr zSame.rf hw h dL_peakAnew_20 ⟨Nat.le_of_ble_eq_true rfl, Nat.le_of_ble_eq_true rfl⟩
    · cases hj
  clear h1
  generalize g1 = g at *
  generalize o1.2 = r1 at *
  refine zr_i2l hF h dL_peakAnew_8 (fun h => ?_)
  refine zr_last hF hw zEf_17_0 h dL_peakAnew_9 (fun g H locs hw h => ?_)
  refine lv_goto (tgt := 21) hx hb dL_peakAnew_10 (by decide) ?_
  refine lv_iconst hx hb dL_peakAnew_21 rfl ?_
  exact zw_iret hF hr zSame.rf hw h dL_peakAnew_22 ⟨Nat.le_of_ble_eq_true rfl, Nat.le_of_ble_eq_true rfl⟩
set_option maxHeartbeats 4000000 in
set_option maxRecDepth 100000 in
theorem czL_regulation (l : Launch) (hT : l.stackTraces = false) (X : zC) (N : zN) {x1 : Int} {x2 : Int} {x3 : Int} {x4 : Int} {g g' : zG} {r : Int} (hnp : zNp N) (h : sL_regulation x1 x2 x3 x4 g = some (r, g')) : zMW l yL_regulation cL_regulation 7 (some .int) [(0, 14, 17, 13), (0, 14, 21, 15), (0, 14, 25, 17)] { frames := 9, cells := 6, slots := 80, locals := 224 } X N g [z_r N 0 0, z_v x1, z_v x2, z_v x3, z_v x4, z_r N 17 0] (zQn X N r g') := by
  refine z_wofW (own := RL) (by decide +kernel) rfl (Nat.le_of_ble_eq_true rfl) ?_
  intro p e s m args below meth c ls hF hr htab hw hl
  have hl : lv_has ls 7 [(0, z_r N 0 0), (1, z_v x1), (2, z_v x2), (3, z_v x3), (4, z_v x4), (5, z_r N 17 0)] := hl
  have hx := hF.1.1
  have hb := hF.1.2.1
  unfold sL_regulation at h
  generalize s.heap = H at hw ⊢
  generalize ([] : List Loc) = locs at hw ⊢
  refine lv_aload hx hb dL_regulation_0 (lv_at hl 5 rfl) ?_
  refine lv_iconst hx hb dL_regulation_2 rfl ?_
  refine lv_aload_n hx hb dL_regulation_3 rfl (lv_at hl 0 rfl) ?_
  refine lv_iload_n hx hb dL_regulation_4 rfl (lv_at hl 1 rfl) ?_
  refine lv_iload_n hx hb dL_regulation_5 rfl (lv_at hl 2 rfl) ?_
  refine lv_iload_n hx hb dL_regulation_6 rfl (lv_at hl 3 rfl) ?_
  refine lv_iload hx hb dL_regulation_7 (lv_at hl 4 rfl) ?_
  obtain ⟨o1, g1, h1, h⟩ := zbc_some h
  refine zw_callVn (n := 4) (As := [z_v x1, z_v x2, z_v x3, z_v x4]) (rest := [z_v 0, z_r N 17 0]) hF hw (czX4_regulation l hT X N hnp h1) h zEf_0_0 (by decide) zC_0 (z_goodV qw_653 qw_654 qw_655 qw_36 qw_656) (by decide +kernel) ⟨Nat.le_of_ble_eq_true rfl, Nat.le_of_ble_eq_true rfl⟩ rfl hl.1 rfl (Nat.le_of_ble_eq_true rfl) dL_regulation_9 ⟨Nat.le_of_ble_eq_true rfl, Nat.le_of_ble_eq_true rfl⟩ (fun h H locs ce q9 hw hce hcv hcl => ?_) (fun N1 H locs hsm hw h => ?_)
  · have htab := htab
    rcases h with ⟨hj, h⟩ | ⟨hj, h⟩ | ⟨hj, h⟩
    · have ej : 1 = o1.1 := Option.some.inj hj
      rw [← ej] at hcl
      refine vx_catch (E := zXn 1) (name := "java/lang/IndexOutOfBoundsException") hF.1.2.2.2.1 [] ⟨0, 14, 17, 13⟩ [⟨0, 14, 21, 15⟩, ⟨0, 14, 25, 17⟩] (by rw [htab]; rfl) (fun z hz => nomatch hz) rfl (by decide) (hF.1.2.2.2.2 _ qw_308) (va_Nw.use rfl (hF.2.2.1.2.2.2.1 _ (List.mem_of_getElem? (i := 0) rfl))) hce hcv hcl ?_
      refine lv_astore (lv' := [(6, .ref q9), (0, z_r N 0 0), (1, z_v x1), (2, z_v x2), (3, z_v x3), (4, z_v x4), (5, z_r N 17 0)]) hx hb dL_regulation_17 hl (by decide) rfl (fun ls hl => ?_)
      refine lv_iconst hx hb dL_regulation_19 rfl ?_
      exact zw_iret hF hr zSame.rf hw h dL_regulation_20 ⟨Nat.le_of_ble_eq_true rfl, Nat.le_of_ble_eq_true rfl⟩
    · have ej : 2 = o1.1 := Option.some.inj hj
      rw [← ej] at hcl
      refine vx_catch (E := zXn 2) (name := "java/lang/IllegalArgumentException") hF.1.2.2.2.1 [⟨0, 14, 17, 13⟩] ⟨0, 14, 21, 15⟩ [⟨0, 14, 25, 17⟩] (by rw [htab]; rfl) (fun z hz => by
          rcases List.mem_cons.mp hz with rfl | hz
          · exact Or.inr ⟨by decide, "java/lang/IndexOutOfBoundsException", hF.1.2.2.2.2 _ qw_308, hF.2.2.1.2.2.2.2.1 _ (List.mem_of_getElem? (i := 0) rfl)⟩
          · exact nomatch hz) rfl (by decide) (hF.1.2.2.2.2 _ qw_309) (va_Nw.use rfl (hF.2.2.1.2.2.2.1 _ (List.mem_of_getElem? (i := 1) rfl))) hce hcv hcl ?_
      refine lv_astore (lv' := [(6, .ref q9), (0, z_r N 0 0), (1, z_v x1), (2, z_v x2), (3, z_v x3), (4, z_v x4), (5, z_r N 17 0)]) hx hb dL_regulation_21 hl (by decide) rfl (fun ls hl => ?_)
      refine lv_iconst hx hb dL_regulation_23 rfl ?_
      exact zw_iret hF hr zSame.rf hw h dL_regulation_24 ⟨Nat.le_of_ble_eq_true rfl, Nat.le_of_ble_eq_true rfl⟩
    · have ej : 3 = o1.1 := Option.some.inj hj
      rw [← ej] at hcl
      refine vx_catch (E := zXn 3) (name := "java/lang/IllegalStateException") hF.1.2.2.2.1 [⟨0, 14, 17, 13⟩, ⟨0, 14, 21, 15⟩] ⟨0, 14, 25, 17⟩ [] (by rw [htab]; rfl) (fun z hz => by
          rcases List.mem_cons.mp hz with rfl | hz
          · exact Or.inr ⟨by decide, "java/lang/IndexOutOfBoundsException", hF.1.2.2.2.2 _ qw_308, hF.2.2.1.2.2.2.2.1 _ (List.mem_of_getElem? (i := 1) rfl)⟩
          · rcases List.mem_cons.mp hz with rfl | hz
            · exact Or.inr ⟨by decide, "java/lang/IllegalArgumentException", hF.1.2.2.2.2 _ qw_309, hF.2.2.1.2.2.2.2.1 _ (List.mem_of_getElem? (i := 2) rfl)⟩
            · exact nomatch hz) rfl (by decide) (hF.1.2.2.2.2 _ qw_310) (va_Nw.use rfl (hF.2.2.1.2.2.2.1 _ (List.mem_of_getElem? (i := 2) rfl))) hce hcv hcl ?_
      refine lv_astore (lv' := [(6, .ref q9), (0, z_r N 0 0), (1, z_v x1), (2, z_v x2), (3, z_v x3), (4, z_v x4), (5, z_r N 17 0)]) hx hb dL_regulation_25 hl (by decide) rfl (fun ls hl => ?_)
      refine lv_iconst hx hb dL_regulation_27 rfl ?_
      exact zw_iret hF hr zSame.rf hw h dL_regulation_28 ⟨Nat.le_of_ble_eq_true rfl, Nat.le_of_ble_eq_true rfl⟩
  clear h1
  generalize g1 = g at *
  generalize o1.2 = r1 at *
  rw [show z_r N 17 0 = z_r N1 17 0 from congrArg Value.ref (hsm.1 17 0 (by decide) (by decide) (by decide) (by decide) (by decide)).symm]
  refine zr_i2l hF h dL_regulation_12 (fun h => ?_)
  refine zr_last hF hw zEf_17_0 h dL_regulation_13 (fun g H locs hw h => ?_)
  refine lv_goto (tgt := 29) hx hb dL_regulation_14 (by decide) ?_
  refine lv_iconst hx hb dL_regulation_29 rfl ?_
  exact zw_iret hF hr hsm hw h dL_regulation_30 ⟨Nat.le_of_ble_eq_true rfl, Nat.le_of_ble_eq_true rfl⟩
set_option maxHeartbeats 4000000 in
set_option maxRecDepth 100000 in
theorem czL_rate (l : Launch) (hT : l.stackTraces = false) (X : zC) (N : zN) {x1 : Int} {x2 : Int} {g g' : zG} {r : Int} (h : sL_rate x1 x2 g = some (r, g')) : zMW l yL_rate cL_rate 5 (some .int) [(0, 10, 13, 13), (0, 10, 17, 15), (0, 10, 21, 17)] { frames := 8, cells := 3, slots := 18, locals := 136 } X N g [z_r N 0 0, z_v x1, z_v x2, z_r N 17 0] (zQn X N r g') := by
  refine z_wofW (own := RL) (by decide +kernel) rfl (Nat.le_of_ble_eq_true rfl) ?_
  intro p e s m args below meth c ls hF hr htab hw hl
  have hl : lv_has ls 5 [(0, z_r N 0 0), (1, z_v x1), (2, z_v x2), (3, z_r N 17 0)] := hl
  have hx := hF.1.1
  have hb := hF.1.2.1
  unfold sL_rate at h
  generalize s.heap = H at hw ⊢
  generalize ([] : List Loc) = locs at hw ⊢
  refine lv_aload_n hx hb dL_rate_0 rfl (lv_at hl 3 rfl) ?_
  refine lv_iconst hx hb dL_rate_1 rfl ?_
  refine lv_aload_n hx hb dL_rate_2 rfl (lv_at hl 0 rfl) ?_
  refine lv_iload_n hx hb dL_rate_3 rfl (lv_at hl 1 rfl) ?_
  refine lv_iload_n hx hb dL_rate_4 rfl (lv_at hl 2 rfl) ?_
  obtain ⟨o1, g1, h1, h⟩ := zbc_some h
  refine zw_callVi (n := 2) (As := [z_v x1, z_v x2]) (rest := [z_v 0, z_r N 17 0]) hF hw (czX4_rate l hT X N h1) h zEf_0_0 (by decide) zC_0 (z_goodV qw_691 qw_692 qw_693 qw_36 qw_694) (by decide +kernel) ⟨Nat.le_of_ble_eq_true rfl, Nat.le_of_ble_eq_true rfl⟩ rfl hl.1 rfl (Nat.le_of_ble_eq_true rfl) dL_rate_5 ⟨Nat.le_of_ble_eq_true rfl, Nat.le_of_ble_eq_true rfl⟩ (fun h H locs ce q9 hw hce hcv hcl => ?_) (fun H locs hw h => ?_)
  · have htab := htab
    rcases h with ⟨hj, h⟩ | ⟨hj, h⟩ | ⟨hj, h⟩
    · have ej : 1 = o1.1 := Option.some.inj hj
      rw [← ej] at hcl
      refine vx_catch (E := zXn 1) (name := "java/lang/IndexOutOfBoundsException") hF.1.2.2.2.1 [] ⟨0, 10, 13, 13⟩ [⟨0, 10, 17, 15⟩, ⟨0, 10, 21, 17⟩] (by rw [htab]; rfl) (fun z hz => nomatch hz) rfl (by decide) (hF.1.2.2.2.2 _ qw_308) (va_Nw.use rfl (hF.2.2.1.2.2.2.1 _ (List.mem_of_getElem? (i := 0) rfl))) hce hcv hcl ?_
      refine lv_astore (lv' := [(4, .ref q9), (0, z_r N 0 0), (1, z_v x1), (2, z_v x2), (3, z_r N 17 0)]) hx hb dL_rate_13 hl (by decide) rfl (fun ls hl => ?_)
      refine lv_iconst hx hb dL_rate_15 rfl ?_
      exact zw_iret hF hr zSame.rf hw h dL_rate_16 ⟨Nat.le_of_ble_eq_true rfl, Nat.le_of_ble_eq_true rfl⟩
    · have ej : 2 = o1.1 := Option.some.inj hj
      rw [← ej] at hcl
      refine vx_catch (E := zXn 2) (name := "java/lang/IllegalArgumentException") hF.1.2.2.2.1 [⟨0, 10, 13, 13⟩] ⟨0, 10, 17, 15⟩ [⟨0, 10, 21, 17⟩] (by rw [htab]; rfl) (fun z hz => by
          rcases List.mem_cons.mp hz with rfl | hz
          · exact Or.inr ⟨by decide, "java/lang/IndexOutOfBoundsException", hF.1.2.2.2.2 _ qw_308, hF.2.2.1.2.2.2.2.1 _ (List.mem_of_getElem? (i := 0) rfl)⟩
          · exact nomatch hz) rfl (by decide) (hF.1.2.2.2.2 _ qw_309) (va_Nw.use rfl (hF.2.2.1.2.2.2.1 _ (List.mem_of_getElem? (i := 1) rfl))) hce hcv hcl ?_
      refine lv_astore (lv' := [(4, .ref q9), (0, z_r N 0 0), (1, z_v x1), (2, z_v x2), (3, z_r N 17 0)]) hx hb dL_rate_17 hl (by decide) rfl (fun ls hl => ?_)
      refine lv_iconst hx hb dL_rate_19 rfl ?_
      exact zw_iret hF hr zSame.rf hw h dL_rate_20 ⟨Nat.le_of_ble_eq_true rfl, Nat.le_of_ble_eq_true rfl⟩
    · have ej : 3 = o1.1 := Option.some.inj hj
      rw [← ej] at hcl
      refine vx_catch (E := zXn 3) (name := "java/lang/IllegalStateException") hF.1.2.2.2.1 [⟨0, 10, 13, 13⟩, ⟨0, 10, 17, 15⟩] ⟨0, 10, 21, 17⟩ [] (by rw [htab]; rfl) (fun z hz => by
          rcases List.mem_cons.mp hz with rfl | hz
          · exact Or.inr ⟨by decide, "java/lang/IndexOutOfBoundsException", hF.1.2.2.2.2 _ qw_308, hF.2.2.1.2.2.2.2.1 _ (List.mem_of_getElem? (i := 1) rfl)⟩
          · rcases List.mem_cons.mp hz with rfl | hz
            · exact Or.inr ⟨by decide, "java/lang/IllegalArgumentException", hF.1.2.2.2.2 _ qw_309, hF.2.2.1.2.2.2.2.1 _ (List.mem_of_getElem? (i := 2) rfl)⟩
            · exact nomatch hz) rfl (by decide) (hF.1.2.2.2.2 _ qw_310) (va_Nw.use rfl (hF.2.2.1.2.2.2.1 _ (List.mem_of_getElem? (i := 2) rfl))) hce hcv hcl ?_
      refine lv_astore (lv' := [(4, .ref q9), (0, z_r N 0 0), (1, z_v x1), (2, z_v x2), (3, z_r N 17 0)]) hx hb dL_rate_21 hl (by decide) rfl (fun ls hl => ?_)
      refine lv_iconst hx hb dL_rate_23 rfl ?_
      exact zw_iret hF hr zSame.rf hw h dL_rate_24 ⟨Nat.le_of_ble_eq_true rfl, Nat.le_of_ble_eq_true rfl⟩
  clear h1
  generalize g1 = g at *
  generalize o1.2 = r1 at *
  refine zr_i2l hF h dL_rate_8 (fun h => ?_)
  refine zr_last hF hw zEf_17_0 h dL_rate_9 (fun g H locs hw h => ?_)
  refine lv_goto (tgt := 25) hx hb dL_rate_10 (by decide) ?_
  refine lv_iconst hx hb dL_rate_25 rfl ?_
  exact zw_iret hF hr zSame.rf hw h dL_rate_26 ⟨Nat.le_of_ble_eq_true rfl, Nat.le_of_ble_eq_true rfl⟩
set_option maxHeartbeats 4000000 in
set_option maxRecDepth 100000 in
theorem czL_end (l : Launch) (hT : l.stackTraces = false) (X : zC) (N : zN) {x1 : Int} {g g' : zG} {r : Int} (h : sL_end x1 g = some (r, g')) : zMW l yL_end cL_end 3 (some .int) [(0, 5, 8, 13), (0, 5, 11, 17)] { frames := 8, cells := 2, slots := 12, locals := 133 } X N g [z_r N 0 0, z_v x1] (zQn X N r g') := by
  refine z_wofW (own := RL) (by decide +kernel) rfl (Nat.le_of_ble_eq_true rfl) ?_
  intro p e s m args below meth c ls hF hr htab hw hl
  have hl : lv_has ls 3 [(0, z_r N 0 0), (1, z_v x1)] := hl
  have hx := hF.1.1
  have hb := hF.1.2.1
  unfold sL_end at h
  generalize s.heap = H at hw ⊢
  generalize ([] : List Loc) = locs at hw ⊢
  refine lv_aload_n hx hb dL_end_0 rfl (lv_at hl 0 rfl) ?_
  refine lv_iload_n hx hb dL_end_1 rfl (lv_at hl 1 rfl) ?_
  obtain ⟨o1, g1, h1, h⟩ := zbc_some h
  refine zw_callVv (n := 1) (As := [z_v x1]) (rest := []) hF hw (czX4_end l hT X N h1) h zEf_0_0 (by decide) zC_0 (z_goodV qw_707 qw_708 qw_709 qw_36 qw_710) (by decide +kernel) ⟨Nat.le_of_ble_eq_true rfl, Nat.le_of_ble_eq_true rfl⟩ rfl hl.1 rfl (Nat.le_of_ble_eq_true rfl) dL_end_2 ⟨Nat.le_of_ble_eq_true rfl, Nat.le_of_ble_eq_true rfl⟩ (fun h H locs ce q9 hw hce hcv hcl => ?_) (fun H locs hw h => ?_)
  · have htab := htab
    rcases h with ⟨hj, h⟩ | ⟨hj, h⟩ | ⟨hj, h⟩
    · have ej : 1 = o1.1 := Option.some.inj hj
      rw [← ej] at hcl
      refine vx_catch (E := zXn 1) (name := "java/lang/IndexOutOfBoundsException") hF.1.2.2.2.1 [] ⟨0, 5, 8, 13⟩ [⟨0, 5, 11, 17⟩] (by rw [htab]; rfl) (fun z hz => nomatch hz) rfl (by decide) (hF.1.2.2.2.2 _ qw_308) (va_Nw.use rfl (hF.2.2.1.2.2.2.1 _ (List.mem_of_getElem? (i := 0) rfl))) hce hcv hcl ?_
      refine lv_astore_n (lv' := [(2, .ref q9), (0, z_r N 0 0), (1, z_v x1)]) hx hb dL_end_8 rfl hl (by decide) rfl (fun ls hl => ?_)
      refine lv_iconst hx hb dL_end_9 rfl ?_
      exact zw_iret hF hr zSame.rf hw h dL_end_10 ⟨Nat.le_of_ble_eq_true rfl, Nat.le_of_ble_eq_true rfl⟩
    · have ej : 3 = o1.1 := Option.some.inj hj
      rw [← ej] at hcl
      refine vx_catch (E := zXn 3) (name := "java/lang/IllegalStateException") hF.1.2.2.2.1 [⟨0, 5, 8, 13⟩] ⟨0, 5, 11, 17⟩ [] (by rw [htab]; rfl) (fun z hz => by
          rcases List.mem_cons.mp hz with rfl | hz
          · exact Or.inr ⟨by decide, "java/lang/IndexOutOfBoundsException", hF.1.2.2.2.2 _ qw_308, hF.2.2.1.2.2.2.2.1 _ (List.mem_of_getElem? (i := 1) rfl)⟩
          · exact nomatch hz) rfl (by decide) (hF.1.2.2.2.2 _ qw_310) (va_Nw.use rfl (hF.2.2.1.2.2.2.1 _ (List.mem_of_getElem? (i := 2) rfl))) hce hcv hcl ?_
      refine lv_astore_n (lv' := [(2, .ref q9), (0, z_r N 0 0), (1, z_v x1)]) hx hb dL_end_11 rfl hl (by decide) rfl (fun ls hl => ?_)
      refine lv_iconst hx hb dL_end_12 rfl ?_
      exact zw_iret hF hr zSame.rf hw h dL_end_13 ⟨Nat.le_of_ble_eq_true rfl, Nat.le_of_ble_eq_true rfl⟩
    · cases hj
  clear h1
  generalize g1 = g at *
  refine lv_goto (tgt := 14) hx hb dL_end_5 (by decide) ?_
  refine lv_iconst hx hb dL_end_14 rfl ?_
  exact zw_iret hF hr zSame.rf hw h dL_end_15 ⟨Nat.le_of_ble_eq_true rfl, Nat.le_of_ble_eq_true rfl⟩
set_option maxHeartbeats 4000000 in
set_option maxRecDepth 100000 in
theorem czL_regulationIs (l : Launch) (hT : l.stackTraces = false) (X : zC) (N : zN) {n : Nat} {x1 : Int} {x2 : Int} {g g' : zG} {r : Int} (h : sL_regulationIs n x1 x2 g = some (r, g')) : zMW l yL_regulationIs cL_regulationIs 5 (some .int) [(0, 10, 13, 13), (0, 10, 17, 15)] { frames := 8, cells := 2, slots := 12, locals := 152 } X N g [z_r N 0 0, z_v x1, z_v x2, z_r N 17 0] (zQn X N r g') := by
  refine z_wofW (own := RL) (by decide +kernel) rfl (Nat.le_of_ble_eq_true rfl) ?_
  intro p e s m args below meth c ls hF hr htab hw hl
  have hl : lv_has ls 5 [(0, z_r N 0 0), (1, z_v x1), (2, z_v x2), (3, z_r N 17 0)] := hl
  have hx := hF.1.1
  have hb := hF.1.2.1
  unfold sL_regulationIs at h
  generalize s.heap = H at hw ⊢
  generalize ([] : List Loc) = locs at hw ⊢
  refine lv_aload_n hx hb dL_regulationIs_0 rfl (lv_at hl 3 rfl) ?_
  refine lv_iconst hx hb dL_regulationIs_1 rfl ?_
  refine lv_aload_n hx hb dL_regulationIs_2 rfl (lv_at hl 0 rfl) ?_
  refine lv_iload_n hx hb dL_regulationIs_3 rfl (lv_at hl 1 rfl) ?_
  refine lv_iload_n hx hb dL_regulationIs_4 rfl (lv_at hl 2 rfl) ?_
  obtain ⟨o1, g1, h1, h⟩ := zbc_some h
  refine zw_callVi (n := 2) (As := [z_v x1, z_v x2]) (rest := [z_v 0, z_r N 17 0]) hF hw (czX4_regulationIs l hT X N h1) h zEf_0_0 (by decide) zC_0 (z_goodV qw_714 qw_715 qw_716 qw_36 qw_717) (by decide +kernel) ⟨Nat.le_of_ble_eq_true rfl, Nat.le_of_ble_eq_true rfl⟩ rfl hl.1 rfl (Nat.le_of_ble_eq_true rfl) dL_regulationIs_5 ⟨Nat.le_of_ble_eq_true rfl, Nat.le_of_ble_eq_true rfl⟩ (fun h H locs ce q9 hw hce hcv hcl => ?_) (fun H locs hw h => ?_)
  · have htab := htab
    rcases h with ⟨hj, h⟩ | ⟨hj, h⟩ | ⟨hj, h⟩
    · have ej : 1 = o1.1 := Option.some.inj hj
      rw [← ej] at hcl
      refine vx_catch (E := zXn 1) (name := "java/lang/IndexOutOfBoundsException") hF.1.2.2.2.1 [] ⟨0, 10, 13, 13⟩ [⟨0, 10, 17, 15⟩] (by rw [htab]; rfl) (fun z hz => nomatch hz) rfl (by decide) (hF.1.2.2.2.2 _ qw_308) (va_Nw.use rfl (hF.2.2.1.2.2.2.1 _ (List.mem_of_getElem? (i := 0) rfl))) hce hcv hcl ?_
      refine lv_astore (lv' := [(4, .ref q9), (0, z_r N 0 0), (1, z_v x1), (2, z_v x2), (3, z_r N 17 0)]) hx hb dL_regulationIs_13 hl (by decide) rfl (fun ls hl => ?_)
      refine lv_iconst hx hb dL_regulationIs_15 rfl ?_
      exact zw_iret hF hr zSame.rf hw h dL_regulationIs_16 ⟨Nat.le_of_ble_eq_true rfl, Nat.le_of_ble_eq_true rfl⟩
    · have ej : 2 = o1.1 := Option.some.inj hj
      rw [← ej] at hcl
      refine vx_catch (E := zXn 2) (name := "java/lang/IllegalArgumentException") hF.1.2.2.2.1 [⟨0, 10, 13, 13⟩] ⟨0, 10, 17, 15⟩ [] (by rw [htab]; rfl) (fun z hz => by
          rcases List.mem_cons.mp hz with rfl | hz
          · exact Or.inr ⟨by decide, "java/lang/IndexOutOfBoundsException", hF.1.2.2.2.2 _ qw_308, hF.2.2.1.2.2.2.2.1 _ (List.mem_of_getElem? (i := 0) rfl)⟩
          · exact nomatch hz) rfl (by decide) (hF.1.2.2.2.2 _ qw_309) (va_Nw.use rfl (hF.2.2.1.2.2.2.1 _ (List.mem_of_getElem? (i := 1) rfl))) hce hcv hcl ?_
      refine lv_astore (lv' := [(4, .ref q9), (0, z_r N 0 0), (1, z_v x1), (2, z_v x2), (3, z_r N 17 0)]) hx hb dL_regulationIs_17 hl (by decide) rfl (fun ls hl => ?_)
      refine lv_iconst hx hb dL_regulationIs_19 rfl ?_
      exact zw_iret hF hr zSame.rf hw h dL_regulationIs_20 ⟨Nat.le_of_ble_eq_true rfl, Nat.le_of_ble_eq_true rfl⟩
    · cases hj
  clear h1
  generalize g1 = g at *
  generalize o1.2 = r1 at *
  refine zr_i2l hF h dL_regulationIs_8 (fun h => ?_)
  refine zr_last hF hw zEf_17_0 h dL_regulationIs_9 (fun g H locs hw h => ?_)
  refine lv_goto (tgt := 21) hx hb dL_regulationIs_10 (by decide) ?_
  refine lv_iconst hx hb dL_regulationIs_21 rfl ?_
  exact zw_iret hF hr zSame.rf hw h dL_regulationIs_22 ⟨Nat.le_of_ble_eq_true rfl, Nat.le_of_ble_eq_true rfl⟩
set_option maxHeartbeats 4000000 in
set_option maxRecDepth 100000 in
theorem czL_slot (l : Launch) (hT : l.stackTraces = false) (X : zC) (N : zN) {x1 : Int} {x2 : Int} {g g' : zG} {r : Int} (h : sL_slot x1 x2 g = some (r, g')) : zMW l yL_slot cL_slot 5 (some .int) [(0, 10, 13, 13)] { frames := 8, cells := 2, slots := 12, locals := 134 } X N g [z_r N 0 0, z_v x1, z_v x2, z_r N 17 0] (zQn X N r g') := by
  refine z_wofW (own := RL) (by decide +kernel) rfl (Nat.le_of_ble_eq_true rfl) ?_
  intro p e s m args below meth c ls hF hr htab hw hl
  have hl : lv_has ls 5 [(0, z_r N 0 0), (1, z_v x1), (2, z_v x2), (3, z_r N 17 0)] := hl
  have hx := hF.1.1
  have hb := hF.1.2.1
  unfold sL_slot at h
  generalize s.heap = H at hw ⊢
  generalize ([] : List Loc) = locs at hw ⊢
  refine lv_aload_n hx hb dL_slot_0 rfl (lv_at hl 3 rfl) ?_
  refine lv_iconst hx hb dL_slot_1 rfl ?_
  refine lv_aload_n hx hb dL_slot_2 rfl (lv_at hl 0 rfl) ?_
  refine lv_iload_n hx hb dL_slot_3 rfl (lv_at hl 1 rfl) ?_
  refine lv_iload_n hx hb dL_slot_4 rfl (lv_at hl 2 rfl) ?_
  obtain ⟨o1, g1, h1, h⟩ := zbc_some h
  refine zw_callVi (n := 2) (As := [z_v x1, z_v x2]) (rest := [z_v 0, z_r N 17 0]) hF hw (czX4_slot l hT X N h1) h zEf_0_0 (by decide) zC_0 (z_goodV qw_730 qw_731 qw_732 qw_36 qw_733) (by decide +kernel) ⟨Nat.le_of_ble_eq_true rfl, Nat.le_of_ble_eq_true rfl⟩ rfl hl.1 rfl (Nat.le_of_ble_eq_true rfl) dL_slot_5 ⟨Nat.le_of_ble_eq_true rfl, Nat.le_of_ble_eq_true rfl⟩ (fun h H locs ce q9 hw hce hcv hcl => ?_) (fun H locs hw h => ?_)
  · have htab := htab
    rcases h with ⟨hj, h⟩ | ⟨hj, h⟩ | ⟨hj, h⟩
    · have ej : 1 = o1.1 := Option.some.inj hj
      rw [← ej] at hcl
      refine vx_catch (E := zXn 1) (name := "java/lang/IndexOutOfBoundsException") hF.1.2.2.2.1 [] ⟨0, 10, 13, 13⟩ [] (by rw [htab]; rfl) (fun z hz => nomatch hz) rfl (by decide) (hF.1.2.2.2.2 _ qw_308) (va_Nw.use rfl (hF.2.2.1.2.2.2.1 _ (List.mem_of_getElem? (i := 0) rfl))) hce hcv hcl ?_
      refine lv_astore (lv' := [(4, .ref q9), (0, z_r N 0 0), (1, z_v x1), (2, z_v x2), (3, z_r N 17 0)]) hx hb dL_slot_13 hl (by decide) rfl (fun ls hl => ?_)
      refine lv_iconst hx hb dL_slot_15 rfl ?_
      exact zw_iret hF hr zSame.rf hw h dL_slot_16 ⟨Nat.le_of_ble_eq_true rfl, Nat.le_of_ble_eq_true rfl⟩
    · cases hj
    · cases hj
  clear h1
  generalize g1 = g at *
  generalize o1.2 = r1 at *
  refine zr_i2l hF h dL_slot_8 (fun h => ?_)
  refine zr_last hF hw zEf_17_0 h dL_slot_9 (fun g H locs hw h => ?_)
  refine lv_goto (tgt := 17) hx hb dL_slot_10 (by decide) ?_
  refine lv_iconst hx hb dL_slot_17 rfl ?_
  exact zw_iret hF hr zSame.rf hw h dL_slot_18 ⟨Nat.le_of_ble_eq_true rfl, Nat.le_of_ble_eq_true rfl⟩
set_option maxHeartbeats 4000000 in
set_option maxRecDepth 100000 in
theorem czL_penalty (l : Launch) (hT : l.stackTraces = false) (X : zC) (N : zN) {n : Nat} {x1 : Int} {x2 : Int} {g g' : zG} {r : Int} (h : sL_penalty n x1 x2 g = some (r, g')) : zMW l yL_penalty cL_penalty 5 (some .int) [(0, 10, 13, 13)] { frames := 8, cells := 2, slots := 12, locals := 152 } X N g [z_r N 0 0, z_v x1, z_v x2, z_r N 17 0] (zQn X N r g') := by
  refine z_wofW (own := RL) (by decide +kernel) rfl (Nat.le_of_ble_eq_true rfl) ?_
  intro p e s m args below meth c ls hF hr htab hw hl
  have hl : lv_has ls 5 [(0, z_r N 0 0), (1, z_v x1), (2, z_v x2), (3, z_r N 17 0)] := hl
  have hx := hF.1.1
  have hb := hF.1.2.1
  unfold sL_penalty at h
  generalize s.heap = H at hw ⊢
  generalize ([] : List Loc) = locs at hw ⊢
  refine lv_aload_n hx hb dL_penalty_0 rfl (lv_at hl 3 rfl) ?_
  refine lv_iconst hx hb dL_penalty_1 rfl ?_
  refine lv_aload_n hx hb dL_penalty_2 rfl (lv_at hl 0 rfl) ?_
  refine lv_iload_n hx hb dL_penalty_3 rfl (lv_at hl 1 rfl) ?_
  refine lv_iload_n hx hb dL_penalty_4 rfl (lv_at hl 2 rfl) ?_
  obtain ⟨o1, g1, h1, h⟩ := zbc_some h
  refine zw_callVi (n := 2) (As := [z_v x1, z_v x2]) (rest := [z_v 0, z_r N 17 0]) hF hw (czX4_penalty l hT X N h1) h zEf_0_0 (by decide) zC_0 (z_goodV qw_740 qw_741 qw_742 qw_36 qw_743) (by decide +kernel) ⟨Nat.le_of_ble_eq_true rfl, Nat.le_of_ble_eq_true rfl⟩ rfl hl.1 rfl (Nat.le_of_ble_eq_true rfl) dL_penalty_5 ⟨Nat.le_of_ble_eq_true rfl, Nat.le_of_ble_eq_true rfl⟩ (fun h H locs ce q9 hw hce hcv hcl => ?_) (fun H locs hw h => ?_)
  · have htab := htab
    rcases h with ⟨hj, h⟩ | ⟨hj, h⟩ | ⟨hj, h⟩
    · have ej : 1 = o1.1 := Option.some.inj hj
      rw [← ej] at hcl
      refine vx_catch (E := zXn 1) (name := "java/lang/IndexOutOfBoundsException") hF.1.2.2.2.1 [] ⟨0, 10, 13, 13⟩ [] (by rw [htab]; rfl) (fun z hz => nomatch hz) rfl (by decide) (hF.1.2.2.2.2 _ qw_308) (va_Nw.use rfl (hF.2.2.1.2.2.2.1 _ (List.mem_of_getElem? (i := 0) rfl))) hce hcv hcl ?_
      refine lv_astore (lv' := [(4, .ref q9), (0, z_r N 0 0), (1, z_v x1), (2, z_v x2), (3, z_r N 17 0)]) hx hb dL_penalty_13 hl (by decide) rfl (fun ls hl => ?_)
      refine lv_iconst hx hb dL_penalty_15 rfl ?_
      exact zw_iret hF hr zSame.rf hw h dL_penalty_16 ⟨Nat.le_of_ble_eq_true rfl, Nat.le_of_ble_eq_true rfl⟩
    · cases hj
    · cases hj
  clear h1
  generalize g1 = g at *
  generalize o1.2 = r1 at *
  refine zr_i2l hF h dL_penalty_8 (fun h => ?_)
  refine zr_last hF hw zEf_17_0 h dL_penalty_9 (fun g H locs hw h => ?_)
  refine lv_goto (tgt := 17) hx hb dL_penalty_10 (by decide) ?_
  refine lv_iconst hx hb dL_penalty_17 rfl ?_
  exact zw_iret hF hr zSame.rf hw h dL_penalty_18 ⟨Nat.le_of_ble_eq_true rfl, Nat.le_of_ble_eq_true rfl⟩
set_option maxHeartbeats 4000000 in
set_option maxRecDepth 100000 in
theorem czL_due (l : Launch) (hT : l.stackTraces = false) (X : zC) (N : zN) {n : Nat} {x1 : Int} {g g' : zG} {r : Int} (h : sL_due n x1 g = some (r, g')) : zMW l yL_due cL_due 4 (some .int) [(0, 9, 12, 13)] { frames := 8, cells := 1, slots := 6, locals := 195 } X N g [z_r N 0 0, z_v x1, z_r N 17 0] (zQn X N r g') := by
  refine z_wofW (own := RL) (by decide +kernel) rfl (Nat.le_of_ble_eq_true rfl) ?_
  intro p e s m args below meth c ls hF hr htab hw hl
  have hl : lv_has ls 4 [(0, z_r N 0 0), (1, z_v x1), (2, z_r N 17 0)] := hl
  have hx := hF.1.1
  have hb := hF.1.2.1
  unfold sL_due at h
  generalize s.heap = H at hw ⊢
  generalize ([] : List Loc) = locs at hw ⊢
  refine lv_aload_n hx hb dL_due_0 rfl (lv_at hl 2 rfl) ?_
  refine lv_iconst hx hb dL_due_1 rfl ?_
  refine lv_aload_n hx hb dL_due_2 rfl (lv_at hl 0 rfl) ?_
  refine lv_iload_n hx hb dL_due_3 rfl (lv_at hl 1 rfl) ?_
  obtain ⟨o1, g1, h1, h⟩ := zbc_some h
  refine zw_callVi (n := 1) (As := [z_v x1]) (rest := [z_v 0, z_r N 17 0]) hF hw (czX4_due l hT X N h1) h zEf_0_0 (by decide) zC_0 (z_goodV qw_747 qw_748 qw_749 qw_36 qw_750) (by decide +kernel) ⟨Nat.le_of_ble_eq_true rfl, Nat.le_of_ble_eq_true rfl⟩ rfl hl.1 rfl (Nat.le_of_ble_eq_true rfl) dL_due_4 ⟨Nat.le_of_ble_eq_true rfl, Nat.le_of_ble_eq_true rfl⟩ (fun h H locs ce q9 hw hce hcv hcl => ?_) (fun H locs hw h => ?_)
  · have htab := htab
    rcases h with ⟨hj, h⟩ | ⟨hj, h⟩ | ⟨hj, h⟩
    · have ej : 1 = o1.1 := Option.some.inj hj
      rw [← ej] at hcl
      refine vx_catch (E := zXn 1) (name := "java/lang/IndexOutOfBoundsException") hF.1.2.2.2.1 [] ⟨0, 9, 12, 13⟩ [] (by rw [htab]; rfl) (fun z hz => nomatch hz) rfl (by decide) (hF.1.2.2.2.2 _ qw_308) (va_Nw.use rfl (hF.2.2.1.2.2.2.1 _ (List.mem_of_getElem? (i := 0) rfl))) hce hcv hcl ?_
      refine lv_astore_n (lv' := [(3, .ref q9), (0, z_r N 0 0), (1, z_v x1), (2, z_r N 17 0)]) hx hb dL_due_12 rfl hl (by decide) rfl (fun ls hl => ?_)
      refine lv_iconst hx hb dL_due_13 rfl ?_
      exact zw_iret hF hr zSame.rf hw h dL_due_14 ⟨Nat.le_of_ble_eq_true rfl, Nat.le_of_ble_eq_true rfl⟩
    · cases hj
    · cases hj
  clear h1
  generalize g1 = g at *
  generalize o1.2 = r1 at *
  refine zr_i2l hF h dL_due_7 (fun h => ?_)
  refine zr_last hF hw zEf_17_0 h dL_due_8 (fun g H locs hw h => ?_)
  refine lv_goto (tgt := 15) hx hb dL_due_9 (by decide) ?_
  refine lv_iconst hx hb dL_due_15 rfl ?_
  exact zw_iret hF hr zSame.rf hw h dL_due_16 ⟨Nat.le_of_ble_eq_true rfl, Nat.le_of_ble_eq_true rfl⟩
set_option maxHeartbeats 4000000 in
set_option maxRecDepth 100000 in
theorem czL_dueAnew (l : Launch) (hT : l.stackTraces = false) (X : zC) (N : zN) {n : Nat} {x1 : Int} {g g' : zG} {r : Int} (h : sL_dueAnew n x1 g = some (r, g')) : zMW l yL_dueAnew cL_dueAnew 4 (some .int) [(0, 9, 12, 13)] { frames := 8, cells := 1, slots := 6, locals := 158 } X N g [z_r N 0 0, z_v x1, z_r N 17 0] (zQn X N r g') := by
  refine z_wofW (own := RL) (by decide +kernel) rfl (Nat.le_of_ble_eq_true rfl) ?_
  intro p e s m args below meth c ls hF hr htab hw hl
  have hl : lv_has ls 4 [(0, z_r N 0 0), (1, z_v x1), (2, z_r N 17 0)] := hl
  have hx := hF.1.1
  have hb := hF.1.2.1
  unfold sL_dueAnew at h
  generalize s.heap = H at hw ⊢
  generalize ([] : List Loc) = locs at hw ⊢
  refine lv_aload_n hx hb dL_dueAnew_0 rfl (lv_at hl 2 rfl) ?_
  refine lv_iconst hx hb dL_dueAnew_1 rfl ?_
  refine lv_aload_n hx hb dL_dueAnew_2 rfl (lv_at hl 0 rfl) ?_
  refine lv_iload_n hx hb dL_dueAnew_3 rfl (lv_at hl 1 rfl) ?_
  obtain ⟨o1, g1, h1, h⟩ := zbc_some h
  refine zw_callVi (n := 1) (As := [z_v x1]) (rest := [z_v 0, z_r N 17 0]) hF hw (czX4_dueAnew l hT X N h1) h zEf_0_0 (by decide) zC_0 (z_goodV qw_754 qw_755 qw_756 qw_36 qw_757) (by decide +kernel) ⟨Nat.le_of_ble_eq_true rfl, Nat.le_of_ble_eq_true rfl⟩ rfl hl.1 rfl (Nat.le_of_ble_eq_true rfl) dL_dueAnew_4 ⟨Nat.le_of_ble_eq_true rfl, Nat.le_of_ble_eq_true rfl⟩ (fun h H locs ce q9 hw hce hcv hcl => ?_) (fun H locs hw h => ?_)
  · have htab := htab
    rcases h with ⟨hj, h⟩ | ⟨hj, h⟩ | ⟨hj, h⟩
    · have ej : 1 = o1.1 := Option.some.inj hj
      rw [← ej] at hcl
      refine vx_catch (E := zXn 1) (name := "java/lang/IndexOutOfBoundsException") hF.1.2.2.2.1 [] ⟨0, 9, 12, 13⟩ [] (by rw [htab]; rfl) (fun z hz => nomatch hz) rfl (by decide) (hF.1.2.2.2.2 _ qw_308) (va_Nw.use rfl (hF.2.2.1.2.2.2.1 _ (List.mem_of_getElem? (i := 0) rfl))) hce hcv hcl ?_
      refine lv_astore_n (lv' := [(3, .ref q9), (0, z_r N 0 0), (1, z_v x1), (2, z_r N 17 0)]) hx hb dL_dueAnew_12 rfl hl (by decide) rfl (fun ls hl => ?_)
      refine lv_iconst hx hb dL_dueAnew_13 rfl ?_
      exact zw_iret hF hr zSame.rf hw h dL_dueAnew_14 ⟨Nat.le_of_ble_eq_true rfl, Nat.le_of_ble_eq_true rfl⟩
    · cases hj
    · cases hj
  clear h1
  generalize g1 = g at *
  generalize o1.2 = r1 at *
  refine zr_i2l hF h dL_dueAnew_7 (fun h => ?_)
  refine zr_last hF hw zEf_17_0 h dL_dueAnew_8 (fun g H locs hw h => ?_)
  refine lv_goto (tgt := 15) hx hb dL_dueAnew_9 (by decide) ?_
  refine lv_iconst hx hb dL_dueAnew_15 rfl ?_
  exact zw_iret hF hr zSame.rf hw h dL_dueAnew_16 ⟨Nat.le_of_ble_eq_true rfl, Nat.le_of_ble_eq_true rfl⟩
set_option maxHeartbeats 4000000 in
set_option maxRecDepth 100000 in
theorem czL_would (l : Launch) (hT : l.stackTraces = false) (X : zC) (N : zN) {n : Nat} {x1 : Int} {x2 : Int} {x3 : Int} {x4 : Int} {g g' : zG} {r : Int} (hnp : zNp N) (h : sL_would n x1 x2 x3 x4 g = some (r, g')) : zMW l yL_would cL_would 7 (some .int) [(0, 14, 17, 13), (0, 14, 21, 15)] { frames := 9, cells := 6, slots := 80, locals := 224 } X N g [z_r N 0 0, z_v x1, z_v x2, z_v x3, z_v x4, z_r N 17 0] (zQn X N r g') := by
  refine z_wofW (own := RL) (by decide +kernel) rfl (Nat.le_of_ble_eq_true rfl) ?_
  intro p e s m args below meth c ls hF hr htab hw hl
  have hl : lv_has ls 7 [(0, z_r N 0 0), (1, z_v x1), (2, z_v x2), (3, z_v x3), (4, z_v x4), (5, z_r N 17 0)] := hl
  have hx := hF.1.1
  have hb := hF.1.2.1
  unfold sL_would at h
  generalize s.heap = H at hw ⊢
  generalize ([] : List Loc) = locs at hw ⊢
  refine lv_aload hx hb dL_would_0 (lv_at hl 5 rfl) ?_
  refine lv_iconst hx hb dL_would_2 rfl ?_
  refine lv_aload_n hx hb dL_would_3 rfl (lv_at hl 0 rfl) ?_
  refine lv_iload_n hx hb dL_would_4 rfl (lv_at hl 1 rfl) ?_
  refine lv_iload_n hx hb dL_would_5 rfl (lv_at hl 2 rfl) ?_
  refine lv_iload_n hx hb dL_would_6 rfl (lv_at hl 3 rfl) ?_
  refine lv_iload hx hb dL_would_7 (lv_at hl 4 rfl) ?_
  obtain ⟨o1, g1, h1, h⟩ := zbc_some h
  refine zw_callVi (n := 4) (As := [z_v x1, z_v x2, z_v x3, z_v x4]) (rest := [z_v 0, z_r N 17 0]) hF hw (czX4_would l hT X N hnp h1) h zEf_0_0 (by decide) zC_0 (z_goodV qw_770 qw_771 qw_772 qw_36 qw_773) (by decide +kernel) ⟨Nat.le_of_ble_eq_true rfl, Nat.le_of_ble_eq_true rfl⟩ rfl hl.1 rfl (Nat.le_of_ble_eq_true rfl) dL_would_9 ⟨Nat.le_of_ble_eq_true rfl, Nat.le_of_ble_eq_true rfl⟩ (fun h H locs ce q9 hw hce hcv hcl => ?_) (fun H locs hw h => ?_)
  · have htab := htab
    rcases h with ⟨hj, h⟩ | ⟨hj, h⟩ | ⟨hj, h⟩
    · have ej : 1 = o1.1 := Option.some.inj hj
      rw [← ej] at hcl
      refine vx_catch (E := zXn 1) (name := "java/lang/IndexOutOfBoundsException") hF.1.2.2.2.1 [] ⟨0, 14, 17, 13⟩ [⟨0, 14, 21, 15⟩] (by rw [htab]; rfl) (fun z hz => nomatch hz) rfl (by decide) (hF.1.2.2.2.2 _ qw_308) (va_Nw.use rfl (hF.2.2.1.2.2.2.1 _ (List.mem_of_getElem? (i := 0) rfl))) hce hcv hcl ?_
      refine lv_astore (lv' := [(6, .ref q9), (0, z_r N 0 0), (1, z_v x1), (2, z_v x2), (3, z_v x3), (4, z_v x4), (5, z_r N 17 0)]) hx hb dL_would_17 hl (by decide) rfl (fun ls hl => ?_)
      refine lv_iconst hx hb dL_would_19 rfl ?_
      exact zw_iret hF hr zSame.rf hw h dL_would_20 ⟨Nat.le_of_ble_eq_true rfl, Nat.le_of_ble_eq_true rfl⟩
    · have ej : 2 = o1.1 := Option.some.inj hj
      rw [← ej] at hcl
      refine vx_catch (E := zXn 2) (name := "java/lang/IllegalArgumentException") hF.1.2.2.2.1 [⟨0, 14, 17, 13⟩] ⟨0, 14, 21, 15⟩ [] (by rw [htab]; rfl) (fun z hz => by
          rcases List.mem_cons.mp hz with rfl | hz
          · exact Or.inr ⟨by decide, "java/lang/IndexOutOfBoundsException", hF.1.2.2.2.2 _ qw_308, hF.2.2.1.2.2.2.2.1 _ (List.mem_of_getElem? (i := 0) rfl)⟩
          · exact nomatch hz) rfl (by decide) (hF.1.2.2.2.2 _ qw_309) (va_Nw.use rfl (hF.2.2.1.2.2.2.1 _ (List.mem_of_getElem? (i := 1) rfl))) hce hcv hcl ?_
      refine lv_astore (lv' := [(6, .ref q9), (0, z_r N 0 0), (1, z_v x1), (2, z_v x2), (3, z_v x3), (4, z_v x4), (5, z_r N 17 0)]) hx hb dL_would_21 hl (by decide) rfl (fun ls hl => ?_)
      refine lv_iconst hx hb dL_would_23 rfl ?_
      exact zw_iret hF hr zSame.rf hw h dL_would_24 ⟨Nat.le_of_ble_eq_true rfl, Nat.le_of_ble_eq_true rfl⟩
    · cases hj
  clear h1
  generalize g1 = g at *
  generalize o1.2 = r1 at *
  refine zr_i2l hF h dL_would_12 (fun h => ?_)
  refine zr_last hF hw zEf_17_0 h dL_would_13 (fun g H locs hw h => ?_)
  refine lv_goto (tgt := 25) hx hb dL_would_14 (by decide) ?_
  refine lv_iconst hx hb dL_would_25 rfl ?_
  exact zw_iret hF hr zSame.rf hw h dL_would_26 ⟨Nat.le_of_ble_eq_true rfl, Nat.le_of_ble_eq_true rfl⟩
set_option maxHeartbeats 4000000 in
set_option maxRecDepth 100000 in
theorem czL_swap (l : Launch) (hT : l.stackTraces = false) (X : zC) (N : zN) {x1 : Int} {x2 : Int} {g g' : zG} {r : Int} (h : sL_swap x1 x2 g = some (r, g')) : zMW l yL_swap cL_swap 4 (some .int) [(0, 6, 9, 13), (0, 6, 12, 15), (0, 6, 15, 17)] { frames := 8, cells := 4, slots := 24, locals := 138 } X N g [z_r N 0 0, z_v x1, z_v x2] (zQn X N r g') := by
  refine z_wofW (own := RL) (by decide +kernel) rfl (Nat.le_of_ble_eq_true rfl) ?_
  intro p e s m args below meth c ls hF hr htab hw hl
  have hl : lv_has ls 4 [(0, z_r N 0 0), (1, z_v x1), (2, z_v x2)] := hl
  have hx := hF.1.1
  have hb := hF.1.2.1
  unfold sL_swap at h
  generalize s.heap = H at hw ⊢
  generalize ([] : List Loc) = locs at hw ⊢
  refine lv_aload_n hx hb dL_swap_0 rfl (lv_at hl 0 rfl) ?_
  refine lv_iload_n hx hb dL_swap_1 rfl (lv_at hl 1 rfl) ?_
  refine lv_iload_n hx hb dL_swap_2 rfl (lv_at hl 2 rfl) ?_
  obtain ⟨o1, g1, h1, h⟩ := zbc_some h
  refine zw_callVv (n := 2) (As := [z_v x1, z_v x2]) (rest := []) hF hw (czX4_swap l hT X N h1) h zEf_0_0 (by decide) zC_0 (z_goodV qw_777 qw_778 qw_779 qw_36 qw_780) (by decide +kernel) ⟨Nat.le_of_ble_eq_true rfl, Nat.le_of_ble_eq_true rfl⟩ rfl hl.1 rfl (Nat.le_of_ble_eq_true rfl) dL_swap_3 ⟨Nat.le_of_ble_eq_true rfl, Nat.le_of_ble_eq_true rfl⟩ (fun h H locs ce q9 hw hce hcv hcl => ?_) (fun H locs hw h => ?_)
  · have htab := htab
    rcases h with ⟨hj, h⟩ | ⟨hj, h⟩ | ⟨hj, h⟩
    · have ej : 1 = o1.1 := Option.some.inj hj
      rw [← ej] at hcl
      refine vx_catch (E := zXn 1) (name := "java/lang/IndexOutOfBoundsException") hF.1.2.2.2.1 [] ⟨0, 6, 9, 13⟩ [⟨0, 6, 12, 15⟩, ⟨0, 6, 15, 17⟩] (by rw [htab]; rfl) (fun z hz => nomatch hz) rfl (by decide) (hF.1.2.2.2.2 _ qw_308) (va_Nw.use rfl (hF.2.2.1.2.2.2.1 _ (List.mem_of_getElem? (i := 0) rfl))) hce hcv hcl ?_
      refine lv_astore_n (lv' := [(3, .ref q9), (0, z_r N 0 0), (1, z_v x1), (2, z_v x2)]) hx hb dL_swap_9 rfl hl (by decide) rfl (fun ls hl => ?_)
      refine lv_iconst hx hb dL_swap_10 rfl ?_
      exact zw_iret hF hr zSame.rf hw h dL_swap_11 ⟨Nat.le_of_ble_eq_true rfl, Nat.le_of_ble_eq_true rfl⟩
    · have ej : 2 = o1.1 := Option.some.inj hj
      rw [← ej] at hcl
      refine vx_catch (E := zXn 2) (name := "java/lang/IllegalArgumentException") hF.1.2.2.2.1 [⟨0, 6, 9, 13⟩] ⟨0, 6, 12, 15⟩ [⟨0, 6, 15, 17⟩] (by rw [htab]; rfl) (fun z hz => by
          rcases List.mem_cons.mp hz with rfl | hz
          · exact Or.inr ⟨by decide, "java/lang/IndexOutOfBoundsException", hF.1.2.2.2.2 _ qw_308, hF.2.2.1.2.2.2.2.1 _ (List.mem_of_getElem? (i := 0) rfl)⟩
          · exact nomatch hz) rfl (by decide) (hF.1.2.2.2.2 _ qw_309) (va_Nw.use rfl (hF.2.2.1.2.2.2.1 _ (List.mem_of_getElem? (i := 1) rfl))) hce hcv hcl ?_
      refine lv_astore_n (lv' := [(3, .ref q9), (0, z_r N 0 0), (1, z_v x1), (2, z_v x2)]) hx hb dL_swap_12 rfl hl (by decide) rfl (fun ls hl => ?_)
      refine lv_iconst hx hb dL_swap_13 rfl ?_
      exact zw_iret hF hr zSame.rf hw h dL_swap_14 ⟨Nat.le_of_ble_eq_true rfl, Nat.le_of_ble_eq_true rfl⟩
    · have ej : 3 = o1.1 := Option.some.inj hj
      rw [← ej] at hcl
      refine vx_catch (E := zXn 3) (name := "java/lang/IllegalStateException") hF.1.2.2.2.1 [⟨0, 6, 9, 13⟩, ⟨0, 6, 12, 15⟩] ⟨0, 6, 15, 17⟩ [] (by rw [htab]; rfl) (fun z hz => by
          rcases List.mem_cons.mp hz with rfl | hz
          · exact Or.inr ⟨by decide, "java/lang/IndexOutOfBoundsException", hF.1.2.2.2.2 _ qw_308, hF.2.2.1.2.2.2.2.1 _ (List.mem_of_getElem? (i := 1) rfl)⟩
          · rcases List.mem_cons.mp hz with rfl | hz
            · exact Or.inr ⟨by decide, "java/lang/IllegalArgumentException", hF.1.2.2.2.2 _ qw_309, hF.2.2.1.2.2.2.2.1 _ (List.mem_of_getElem? (i := 2) rfl)⟩
            · exact nomatch hz) rfl (by decide) (hF.1.2.2.2.2 _ qw_310) (va_Nw.use rfl (hF.2.2.1.2.2.2.1 _ (List.mem_of_getElem? (i := 2) rfl))) hce hcv hcl ?_
      refine lv_astore_n (lv' := [(3, .ref q9), (0, z_r N 0 0), (1, z_v x1), (2, z_v x2)]) hx hb dL_swap_15 rfl hl (by decide) rfl (fun ls hl => ?_)
      refine lv_iconst hx hb dL_swap_16 rfl ?_
      exact zw_iret hF hr zSame.rf hw h dL_swap_17 ⟨Nat.le_of_ble_eq_true rfl, Nat.le_of_ble_eq_true rfl⟩
  clear h1
  generalize g1 = g at *
  refine lv_goto (tgt := 18) hx hb dL_swap_6 (by decide) ?_
  refine lv_iconst hx hb dL_swap_18 rfl ?_
  exact zw_iret hF hr zSame.rf hw h dL_swap_19 ⟨Nat.le_of_ble_eq_true rfl, Nat.le_of_ble_eq_true rfl⟩
set_option maxHeartbeats 4000000 in
set_option maxRecDepth 100000 in
theorem wL_message_j20 {p : Program} {l : Launch} {e : Env} {s : State} {m : MethodId} {args : Array Value} {below : List Frame} {meth : Method} {c : Code} {X : zC} {N : zN} {r : Int} {g' : zG} {H : Heap} {locs : List Loc} {ls : Array Slot} (hF : zF p s m args meth c X cL_message 7 RL) (hr : meth.sig.returnType = (some .int)) {t1 : Int} {u2 : Int} {g : zG} (hw : zH X N g s H locs) (hl : lv_has ls 7 []) (h : sL_message_j20 t1 u2 g = some (r, g')) : W p l e { frames := 8, cells := 4, slots := 24, locals := 137 } s m args below meth c H locs 4 24 (MQ below (zQn X N r g') args s 4 24 (zA X)) (F0 m 20 ls [z_l u2, z_v t1, z_r N 17 0]) := by
  have hx := hF.1.1
  have hb := hF.1.2.1
  unfold sL_message_j20 at h
  refine zr_last hF hw zEf_17_0 h dL_message_20 (fun g H locs hw h => ?_)
  refine lv_goto (tgt := 32) hx hb dL_message_21 (by decide) ?_
  refine lv_iconst hx hb dL_message_32 rfl ?_
  exact zw_iret hF hr zSame.rf hw h dL_message_33 ⟨Nat.le_of_ble_eq_true rfl, Nat.le_of_ble_eq_true rfl⟩
set_option maxHeartbeats 4000000 in
set_option maxRecDepth 100000 in
theorem czL_message (l : Launch) (hT : l.stackTraces = false) (X : zC) (N : zN) {x1 : Int} {x2 : Int} {x3 : Int} {x4 : Int} {g g' : zG} {r : Int} (h : sL_message x1 x2 x3 x4 g = some (r, g')) : zMW l yL_message cL_message 7 (some .int) [(0, 21, 24, 13), (0, 21, 28, 15)] { frames := 8, cells := 4, slots := 24, locals := 137 } X N g [z_r N 0 0, z_v x1, z_v x2, z_v x3, z_v x4, z_r N 17 0] (zQn X N r g') := by
  refine z_wofW (own := RL) (by decide +kernel) rfl (Nat.le_of_ble_eq_true rfl) ?_
  intro p e s m args below meth c ls hF hr htab hw hl
  have hl : lv_has ls 7 [(0, z_r N 0 0), (1, z_v x1), (2, z_v x2), (3, z_v x3), (4, z_v x4), (5, z_r N 17 0)] := hl
  have hx := hF.1.1
  have hb := hF.1.2.1
  unfold sL_message at h
  generalize s.heap = H at hw ⊢
  generalize ([] : List Loc) = locs at hw ⊢
  refine lv_aload hx hb dL_message_0 (lv_at hl 5 rfl) ?_
  refine lv_iconst hx hb dL_message_2 rfl ?_
  refine lv_aload_n hx hb dL_message_3 rfl (lv_at hl 0 rfl) ?_
  refine lv_iload_n hx hb dL_message_4 rfl (lv_at hl 1 rfl) ?_
  refine lv_iload_n hx hb dL_message_5 rfl (lv_at hl 2 rfl) ?_
  refine lv_iload_n hx hb dL_message_6 rfl (lv_at hl 3 rfl) ?_
  refine lv_iload hx hb dL_message_7 (lv_at hl 4 rfl) ?_
  obtain ⟨o1, g1, h1, h⟩ := zbc_some h
  refine zw_callVi (n := 4) (As := [z_v x1, z_v x2, z_v x3, z_v x4]) (rest := [z_v 0, z_r N 17 0]) hF hw (czX4_message l hT X N h1) h zEf_0_0 (by decide) zC_0 (z_goodV qw_792 qw_793 qw_794 qw_36 qw_795) (by decide +kernel) ⟨Nat.le_of_ble_eq_true rfl, Nat.le_of_ble_eq_true rfl⟩ rfl hl.1 rfl (Nat.le_of_ble_eq_true rfl) dL_message_9 ⟨Nat.le_of_ble_eq_true rfl, Nat.le_of_ble_eq_true rfl⟩ (fun h H locs ce q9 hw hce hcv hcl => ?_) (fun H locs hw h => ?_)
  · have htab := htab
    rcases h with ⟨hj, h⟩ | ⟨hj, h⟩ | ⟨hj, h⟩
    · have ej : 1 = o1.1 := Option.some.inj hj
      rw [← ej] at hcl
      refine vx_catch (E := zXn 1) (name := "java/lang/IndexOutOfBoundsException") hF.1.2.2.2.1 [] ⟨0, 21, 24, 13⟩ [⟨0, 21, 28, 15⟩] (by rw [htab]; rfl) (fun z hz => nomatch hz) rfl (by decide) (hF.1.2.2.2.2 _ qw_308) (va_Nw.use rfl (hF.2.2.1.2.2.2.1 _ (List.mem_of_getElem? (i := 0) rfl))) hce hcv hcl ?_
      refine lv_astore (lv' := [(6, .ref q9), (0, z_r N 0 0), (1, z_v x1), (2, z_v x2), (3, z_v x3), (4, z_v x4), (5, z_r N 17 0)]) hx hb dL_message_24 hl (by decide) rfl (fun ls hl => ?_)
      refine lv_iconst hx hb dL_message_26 rfl ?_
      exact zw_iret hF hr zSame.rf hw h dL_message_27 ⟨Nat.le_of_ble_eq_true rfl, Nat.le_of_ble_eq_true rfl⟩
    · have ej : 2 = o1.1 := Option.some.inj hj
      rw [← ej] at hcl
      refine vx_catch (E := zXn 2) (name := "java/lang/IllegalArgumentException") hF.1.2.2.2.1 [⟨0, 21, 24, 13⟩] ⟨0, 21, 28, 15⟩ [] (by rw [htab]; rfl) (fun z hz => by
          rcases List.mem_cons.mp hz with rfl | hz
          · exact Or.inr ⟨by decide, "java/lang/IndexOutOfBoundsException", hF.1.2.2.2.2 _ qw_308, hF.2.2.1.2.2.2.2.1 _ (List.mem_of_getElem? (i := 0) rfl)⟩
          · exact nomatch hz) rfl (by decide) (hF.1.2.2.2.2 _ qw_309) (va_Nw.use rfl (hF.2.2.1.2.2.2.1 _ (List.mem_of_getElem? (i := 1) rfl))) hce hcv hcl ?_
      refine lv_astore (lv' := [(6, .ref q9), (0, z_r N 0 0), (1, z_v x1), (2, z_v x2), (3, z_v x3), (4, z_v x4), (5, z_r N 17 0)]) hx hb dL_message_28 hl (by decide) rfl (fun ls hl => ?_)
      refine lv_iconst hx hb dL_message_30 rfl ?_
      exact zw_iret hF hr zSame.rf hw h dL_message_31 ⟨Nat.le_of_ble_eq_true rfl, Nat.le_of_ble_eq_true rfl⟩
    · cases hj
  clear h1
  generalize g1 = g at *
  generalize o1.2 = r1 at *
  refine zr_if_eq (tgt := 19) hF h dL_message_12 (by decide) (fun h => ?_) (fun h => ?_)
  · refine lv_lconst (v := Int64.ofInt 0) hx hb dL_message_19 (by decide) ?_
    exact wL_message_j20 hF hr  hw (lv_sub hl [] rfl) h
  · refine lv_lconst (v := Int64.ofInt 1) hx hb dL_message_15 (by decide) ?_
    refine lv_goto (tgt := 20) hx hb dL_message_16 (by decide) ?_
    exact wL_message_j20 hF hr  hw (lv_sub hl [] rfl) h
set_option maxHeartbeats 4000000 in
set_option maxRecDepth 100000 in
theorem czL_companyIs (l : Launch) (hT : l.stackTraces = false) (X : zC) (N : zN) {n : Nat} {x1 : Int} {x2 : Int} {g g' : zG} {r : Int} (h : sL_companyIs n x1 x2 g = some (r, g')) : zMW l yL_companyIs cL_companyIs 5 (some .int) [(0, 10, 13, 13), (0, 10, 17, 15)] { frames := 8, cells := 2, slots := 12, locals := 137 } X N g [z_r N 0 0, z_v x1, z_v x2, z_r N 17 0] (zQn X N r g') := by
  refine z_wofW (own := RL) (by decide +kernel) rfl (Nat.le_of_ble_eq_true rfl) ?_
  intro p e s m args below meth c ls hF hr htab hw hl
  have hl : lv_has ls 5 [(0, z_r N 0 0), (1, z_v x1), (2, z_v x2), (3, z_r N 17 0)] := hl
  have hx := hF.1.1
  have hb := hF.1.2.1
  unfold sL_companyIs at h
  generalize s.heap = H at hw ⊢
  generalize ([] : List Loc) = locs at hw ⊢
  refine lv_aload_n hx hb dL_companyIs_0 rfl (lv_at hl 3 rfl) ?_
  refine lv_iconst hx hb dL_companyIs_1 rfl ?_
  refine lv_aload_n hx hb dL_companyIs_2 rfl (lv_at hl 0 rfl) ?_
  refine lv_iload_n hx hb dL_companyIs_3 rfl (lv_at hl 1 rfl) ?_
  refine lv_iload_n hx hb dL_companyIs_4 rfl (lv_at hl 2 rfl) ?_
  obtain ⟨o1, g1, h1, h⟩ := zbc_some h
  refine zw_callVi (n := 2) (As := [z_v x1, z_v x2]) (rest := [z_v 0, z_r N 17 0]) hF hw (czX4_companyIs l hT X N h1) h zEf_0_0 (by decide) zC_0 (z_goodV qw_803 qw_804 qw_805 qw_36 qw_806) (by decide +kernel) ⟨Nat.le_of_ble_eq_true rfl, Nat.le_of_ble_eq_true rfl⟩ rfl hl.1 rfl (Nat.le_of_ble_eq_true rfl) dL_companyIs_5 ⟨Nat.le_of_ble_eq_true rfl, Nat.le_of_ble_eq_true rfl⟩ (fun h H locs ce q9 hw hce hcv hcl => ?_) (fun H locs hw h => ?_)
  · have htab := htab
    rcases h with ⟨hj, h⟩ | ⟨hj, h⟩ | ⟨hj, h⟩
    · have ej : 1 = o1.1 := Option.some.inj hj
      rw [← ej] at hcl
      refine vx_catch (E := zXn 1) (name := "java/lang/IndexOutOfBoundsException") hF.1.2.2.2.1 [] ⟨0, 10, 13, 13⟩ [⟨0, 10, 17, 15⟩] (by rw [htab]; rfl) (fun z hz => nomatch hz) rfl (by decide) (hF.1.2.2.2.2 _ qw_308) (va_Nw.use rfl (hF.2.2.1.2.2.2.1 _ (List.mem_of_getElem? (i := 0) rfl))) hce hcv hcl ?_
      refine lv_astore (lv' := [(4, .ref q9), (0, z_r N 0 0), (1, z_v x1), (2, z_v x2), (3, z_r N 17 0)]) hx hb dL_companyIs_13 hl (by decide) rfl (fun ls hl => ?_)
      refine lv_iconst hx hb dL_companyIs_15 rfl ?_
      exact zw_iret hF hr zSame.rf hw h dL_companyIs_16 ⟨Nat.le_of_ble_eq_true rfl, Nat.le_of_ble_eq_true rfl⟩
    · have ej : 2 = o1.1 := Option.some.inj hj
      rw [← ej] at hcl
      refine vx_catch (E := zXn 2) (name := "java/lang/IllegalArgumentException") hF.1.2.2.2.1 [⟨0, 10, 13, 13⟩] ⟨0, 10, 17, 15⟩ [] (by rw [htab]; rfl) (fun z hz => by
          rcases List.mem_cons.mp hz with rfl | hz
          · exact Or.inr ⟨by decide, "java/lang/IndexOutOfBoundsException", hF.1.2.2.2.2 _ qw_308, hF.2.2.1.2.2.2.2.1 _ (List.mem_of_getElem? (i := 0) rfl)⟩
          · exact nomatch hz) rfl (by decide) (hF.1.2.2.2.2 _ qw_309) (va_Nw.use rfl (hF.2.2.1.2.2.2.1 _ (List.mem_of_getElem? (i := 1) rfl))) hce hcv hcl ?_
      refine lv_astore (lv' := [(4, .ref q9), (0, z_r N 0 0), (1, z_v x1), (2, z_v x2), (3, z_r N 17 0)]) hx hb dL_companyIs_17 hl (by decide) rfl (fun ls hl => ?_)
      refine lv_iconst hx hb dL_companyIs_19 rfl ?_
      exact zw_iret hF hr zSame.rf hw h dL_companyIs_20 ⟨Nat.le_of_ble_eq_true rfl, Nat.le_of_ble_eq_true rfl⟩
    · cases hj
  clear h1
  generalize g1 = g at *
  generalize o1.2 = r1 at *
  refine zr_i2l hF h dL_companyIs_8 (fun h => ?_)
  refine zr_last hF hw zEf_17_0 h dL_companyIs_9 (fun g H locs hw h => ?_)
  refine lv_goto (tgt := 21) hx hb dL_companyIs_10 (by decide) ?_
  refine lv_iconst hx hb dL_companyIs_21 rfl ?_
  exact zw_iret hF hr zSame.rf hw h dL_companyIs_22 ⟨Nat.le_of_ble_eq_true rfl, Nat.le_of_ble_eq_true rfl⟩

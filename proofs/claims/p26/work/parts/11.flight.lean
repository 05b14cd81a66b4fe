/-! flights, over the machine -/
def sX1_behindAt (i0 : Nat) (x1 : Int) (g : zG) : Option (Int × zG) := zlt x1 0 (some ((-1), g)) (zlt x1 6 (zix x1 6 (some (g 14 i0 (x1).toNat, g))) (some ((-1), g)))
def sX1_enters (i0 : Nat) (x1 : Int) (g : zG) : Option (Int × zG) := zbd (sX1_behindAt i0 x1 g) (fun r1 g => zeq r1 (-1) (zbo 0 (some (0, g))) (zbo 1 (some (1, g))))
def sX1_canEnterNext (i0 : Nat) (x1 : Int) (x2 : Int) (g : zG) : Option (Int × zG) := zeq (g 4 i0 2) 0 (zeq (g 4 i0 4) (-1) (zlt (g 4 i0 8) 5 (zbd (sX1_enters i0 x1 g) (fun r1 g => zeq r1 0 (zlt (g 4 i0 9) x2 (zbo 1 (some (1, g))) (zbo 0 (some (0, g)))) (zbo 0 (some (0, g))))) (zbo 0 (some (0, g)))) (zbo 0 (some (0, g)))) (zbo 0 (some (0, g)))
def sX1_addEntry (i0 : Nat) (x1 : Int) (x2 : Int) (x3 : Int) (g : zG) : Option (Int × zG) := zlt x1 0 (some (0, g)) (zlt x1 6 (zlt x1 6 (zix x1 6 (zst g 14 i0 (x1).toNat x2 (fun g => zix x1 6 (zst g 15 i0 (x1).toNat x3 (fun g => zst g 4 i0 9 x2 (fun g => zst g 4 i0 8 ((g 4 i0 8) + 1) (fun g => some (0, g)))))))) (some (0, g))) (some (0, g)))
def sX1_stayAt (i0 : Nat) (x1 : Int) (g : zG) : Option (Int × zG) := zlt x1 0 (some (0, g)) (zlt x1 6 (zix x1 6 (some (g 15 i0 (x1).toNat, g))) (some (0, g)))
def sX1_departure (i0 : Nat) (g : zG) : Option (Int × zG) := zeq (g 4 i0 2) 1 (some (g 4 i0 6, g)) (zeq (g 4 i0 4) (-1) (some (g 4 i0 1, g)) (some (g 4 i0 4, g)))
def sX1_timeOver (i0 : Nat) (x1 : Int) (g : zG) : Option (Int × zG) := zbd (sX1_behindAt i0 x1 g) (fun r1 g => zeq r1 (-1) (some ((-1), g)) (zbd (sX1_departure i0 g) (fun r2 g => some (r2 + r1, g))))
def sX1_loads (i0 : Nat) (x1 : Int) (g : zG) : Option (Int × zG) := zeq (g 4 i0 2) 2 (zbo 0 (some (0, g))) (zbd (sX1_enters i0 x1 g) (fun r1 g => zeq r1 0 (zbo 0 (some (0, g))) (zbo 1 (some (1, g)))))
def sX1_isInside (i0 : Nat) (x1 : Int) (x2 : Int) (g : zG) : Option (Int × zG) := zbd (sX1_timeOver i0 x1 g) (fun r1 g => zbd (sX1_loads i0 x1 g) (fun r2 g => zeq r2 0 (zbo 0 (some (0, g))) (zle r1 x2 (zbd (sX1_stayAt i0 x1 g) (fun r3 g => zlt x2 (r1 + r3) (zbo 1 (some (1, g))) (zbo 0 (some (0, g))))) (zbo 0 (some (0, g))))))
def sX1_isFixed_j22 (g : zG) : Option (Int × zG) := zbo 1 (some (1, g))
def sX1_isFixed (i0 : Nat) (g : zG) : Option (Int × zG) := zeq (g 4 i0 2) 1 ((sX1_isFixed_j22 g)) (zeq (g 4 i0 2) 0 (zeq (g 4 i0 3) 0 (zbo 0 (some (0, g))) ((sX1_isFixed_j22 g))) (zbo 0 (some (0, g))))
def sX1_isListed (i0 : Nat) (g : zG) : Option (Int × zG) := zeq (g 4 i0 2) 0 (zeq (g 4 i0 3) 0 (zbo 1 (some (1, g))) (zbo 0 (some (0, g)))) (zbo 0 (some (0, g)))
def sX1_lineTime (i0 : Nat) (x1 : Int) (g : zG) : Option (Int × zG) := zbd (sX1_behindAt i0 x1 g) (fun r1 g => zeq r1 (-1) (some ((-1), g)) (zeq (g 4 i0 2) 1 (some ((g 4 i0 6) + r1, g)) (some ((g 4 i0 1) + r1, g))))
def sX1_loseSlotTime (i0 : Nat) (g : zG) : Option (Int × zG) := zst g 4 i0 4 (-1) (fun g => zst g 4 i0 5 (-1) (fun g => some (0, g)))
def sX1_delay (i0 : Nat) (g : zG) : Option (Int × zG) := zeq (g 4 i0 4) (-1) (some (0, g)) (some ((g 4 i0 4) - (g 4 i0 1), g))
def sX1_charge (i0 : Nat) (g : zG) : Option (Int × zG) := zeq (g 4 i0 2) 1 (zbd (sX1_delay i0 g) (fun r1 g => some (r1, g))) (some (0, g))
def sX1_wentOutOfWindow_j43 (g : zG) : Option (Int × zG) := zbo 1 (some (1, g))
def sX1_wentOutOfWindow (i0 : Nat) (g : zG) : Option (Int × zG) := zeq (g 4 i0 2) 1 (zeq (g 4 i0 4) (-1) (zbo 0 (some (0, g))) (zlt (g 4 i0 6) ((g 4 i0 4) - 5) ((sX1_wentOutOfWindow_j43 g)) (zle (g 4 i0 6) ((g 4 i0 4) + 10) (zbo 0 (some (0, g))) ((sX1_wentOutOfWindow_j43 g))))) (zbo 0 (some (0, g)))
def sX1_ledgerLine (i0 : Nat) (x1 : Int) (g : zG) : Option (Int × zG) := zeq x1 0 (zbd (sX1_charge i0 g) (fun r1 g => some (r1, g))) (zeq x1 1 (zbd (sX1_wentOutOfWindow i0 g) (fun r2 g => zeq r2 0 (some (0, g)) (some (1, g)))) (zeq (g 4 i0 2) 1 (some (1, g)) (some (0, g))))
def sX1_forgetReckoned (i0 : Nat) (g : zG) : Option (Int × zG) := zst g 4 i0 12 0 (fun g => zst g 4 i0 13 (-1) (fun g => some (0, g)))
def sX1_reckon (i0 : Nat) (x1 : Int) (x2 : Int) (g : zG) : Option (Int × zG) := zle x1 (g 4 i0 12) (some (0, g)) (zst g 4 i0 12 x1 (fun g => zst g 4 i0 13 x2 (fun g => some (0, g))))
def sX1_takeReckoned_j50 (i0 : Nat) (x2 : Int) (g : zG) : Option (Int × zG) := zst g 4 i0 4 x2 (fun g => zst g 4 i0 5 (g 4 i0 13) (fun g => some (0, g)))
def sX1_takeReckoned (i0 : Nat) (x1 : Int) (g : zG) : Option (Int × zG) := zbd (sX1_isListed i0 g) (fun r1 g => zeq r1 0 (some (0, g)) (zeq (g 4 i0 12) 0 (zbd (sX1_loseSlotTime i0 g) (fun _ g => some (0, g))) (zlet ((g 4 i0 1) + (g 4 i0 12)) (fun v2 => zeq x1 0 (zeq (g 4 i0 4) (-1) ((sX1_takeReckoned_j50 i0 v2 g)) (zle v2 (g 4 i0 4) ((sX1_takeReckoned_j50 i0 v2 g)) (some (0, g)))) ((sX1_takeReckoned_j50 i0 v2 g))))))
def sX1_sharesRuling (i0 : Nat) (i1 : Nat) (g : zG) : Option (Int × zG) := zeq (g 4 i0 2) 0 (zeq (g 4 i1 2) 0 (zeq (g 4 i0 0) (g 4 i1 0) (zeq (g 4 i0 4) (-1) (zbo 0 (some (0, g))) (zeq (g 4 i1 4) (-1) (zbo 0 (some (0, g))) (zeq (g 4 i0 5) (g 4 i1 5) (zbo 1 (some (1, g))) (zbo 0 (some (0, g)))))) (zbo 0 (some (0, g)))) (zbo 0 (some (0, g)))) (zbo 0 (some (0, g)))
def sX1_follow (i0 : Nat) (x1 : Int) (x2 : Int) (g : zG) : Option (Int × zG) := zeq x1 0 (zst g 4 i0 1 x2 (fun g => zlt (g 4 i0 4) x2 (zbd (sX1_loseSlotTime i0 g) (fun _ g => some (0, g))) (some (0, g)))) (zeq x1 1 (zst g 4 i0 2 2 (fun g => some (0, g))) (zst g 4 i0 2 1 (fun g => zst g 4 i0 6 x2 (fun g => some (0, g)))))
set_option maxHeartbeats 4000000 in
set_option maxRecDepth 100000 in
theorem czX1_behindAt (l : Launch) (X : zC) (N : zN) {i0 : Nat} {x1 : Int} {g g' : zG} {r : Int} (he0 : zE N 4 i0) (h : sX1_behindAt i0 x1 g = some (r, g')) : zM l yX1_behindAt cX1_behindAt 2 (some .int) { frames := 0, cells := 0, slots := 0, locals := 0 } X N g [z_r N 4 i0, z_v x1] (zQi X N r g') := by
  refine z_ofW (own := RX1) (by decide +kernel) rfl (Nat.le_of_ble_eq_true rfl) ?_
  intro p e s m args below meth c ls hF hr hw hl
  have hl : lv_has ls 2 [(0, z_r N 4 i0), (1, z_v x1)] := hl
  have hx := hF.1.1
  have hb := hF.1.2.1
  unfold sX1_behindAt at h
  generalize s.heap = H at hw ⊢
  generalize ([] : List Loc) = locs at hw ⊢
  refine lv_iload_n hx hb dX1_behindAt_0 rfl (lv_at hl 1 rfl) ?_
  refine zr_if_lt (tgt := 22) hF h dX1_behindAt_1 (by decide) (fun h => ?_) (fun h => ?_)
  · refine lv_iconst hx hb dX1_behindAt_22 rfl ?_
    exact zr_iret hF hr hw h dX1_behindAt_23
  · refine lv_iload_n hx hb dX1_behindAt_4 rfl (lv_at hl 1 rfl) ?_
    refine lv_aload_n hx hb dX1_behindAt_5 rfl (lv_at hl 0 rfl) ?_
    refine zr_get hF hw he0 (by decide) zC_4 10 (by decide) qw_479 rfl dX1_behindAt_6 ?_
    refine zr_alen hF hw (zE_fl2 he0).1 (by decide) (v := 6) (by decide) dX1_behindAt_9 ?_
    refine zr_icmp_ge (tgt := 22) hF h dX1_behindAt_10 (by decide) (fun h => ?_) (fun h => ?_)
    · refine lv_iconst hx hb dX1_behindAt_22 rfl ?_
      exact zr_iret hF hr hw h dX1_behindAt_23
    · refine lv_aload_n hx hb dX1_behindAt_13 rfl (lv_at hl 0 rfl) ?_
      refine zr_get hF hw he0 (by decide) zC_4 10 (by decide) qw_479 rfl dX1_behindAt_14 ?_
      refine lv_iload_n hx hb dX1_behindAt_17 rfl (lv_at hl 1 rfl) ?_
      refine zr_iald hF hw (zE_fl2 he0).1 (by decide) h dX1_behindAt_18 (fun h => ?_)
      refine lv_goto (tgt := 23) hx hb dX1_behindAt_19 (by decide) ?_
      exact zr_iret hF hr hw h dX1_behindAt_23
set_option maxHeartbeats 4000000 in
set_option maxRecDepth 100000 in
theorem czX1_enters (l : Launch) (X : zC) (N : zN) {i0 : Nat} {x1 : Int} {g g' : zG} {r : Int} (he0 : zE N 4 i0) (h : sX1_enters i0 x1 g = some (r, g')) : zM l yX1_enters cX1_enters 2 (some .boolean) { frames := 1, cells := 0, slots := 0, locals := 21 } X N g [z_r N 4 i0, z_v x1] (zQi X N r g') := by
  refine z_ofW (own := RX1) (by decide +kernel) rfl (Nat.le_of_ble_eq_true rfl) ?_
  intro p e s m args below meth c ls hF hr hw hl
  have hl : lv_has ls 2 [(0, z_r N 4 i0), (1, z_v x1)] := hl
  have hx := hF.1.1
  have hb := hF.1.2.1
  unfold sX1_enters at h
  generalize s.heap = H at hw ⊢
  generalize ([] : List Loc) = locs at hw ⊢
  refine lv_aload_n hx hb dX1_enters_0 rfl (lv_at hl 0 rfl) ?_
  refine lv_iload_n hx hb dX1_enters_1 rfl (lv_at hl 1 rfl) ?_
  obtain ⟨r1, g1, h1, h⟩ := zbd_some h
  refine zr_callVi (n := 1) (As := [z_v x1]) (rest := []) hF hw (czX1_behindAt l X N he0 h1) he0 (by decide) zC_4 (z_goodV qw_257 qw_258 qw_259 qw_30 qw_260) (by decide +kernel) ⟨Nat.le_of_ble_eq_true rfl, Nat.le_of_ble_eq_true rfl⟩ ⟨rfl, rfl⟩ rfl hl.1 rfl (Nat.le_of_ble_eq_true rfl) dX1_enters_2 ⟨Nat.le_of_ble_eq_true rfl, Nat.le_of_ble_eq_true rfl⟩ (fun H locs hw => ?_)
  clear h1
  generalize g1 = g at *
  refine lv_iconst hx hb dX1_enters_5 rfl ?_
  refine zr_icmp_eq (tgt := 13) hF h dX1_enters_6 (by decide) (fun h => ?_) (fun h => ?_)
  · refine lv_iconst hx hb dX1_enters_13 rfl ?_
    exact zr_zret hF hr hw h dX1_enters_14
  · refine lv_iconst hx hb dX1_enters_9 rfl ?_
    refine lv_goto (tgt := 14) hx hb dX1_enters_10 (by decide) ?_
    exact zr_zret hF hr hw h dX1_enters_14
set_option maxHeartbeats 4000000 in
set_option maxRecDepth 100000 in
theorem czX1_canEnterNext (l : Launch) (X : zC) (N : zN) {i0 : Nat} {x1 : Int} {x2 : Int} {g g' : zG} {r : Int} (he0 : zE N 4 i0) (h : sX1_canEnterNext i0 x1 x2 g = some (r, g')) : zM l yX1_canEnterNext cX1_canEnterNext 3 (some .boolean) { frames := 2, cells := 0, slots := 0, locals := 42 } X N g [z_r N 4 i0, z_v x1, z_v x2] (zQi X N r g') := by
  refine z_ofW (own := RX1) (by decide +kernel) rfl (Nat.le_of_ble_eq_true rfl) ?_
  intro p e s m args below meth c ls hF hr hw hl
  have hl : lv_has ls 3 [(0, z_r N 4 i0), (1, z_v x1), (2, z_v x2)] := hl
  have hx := hF.1.1
  have hb := hF.1.2.1
  unfold sX1_canEnterNext at h
  generalize s.heap = H at hw ⊢
  generalize ([] : List Loc) = locs at hw ⊢
  refine lv_aload_n hx hb dX1_canEnterNext_0 rfl (lv_at hl 0 rfl) ?_
  refine zr_get hF hw he0 (by decide) zC_4 2 (by decide) qw_465 rfl dX1_canEnterNext_1 ?_
  refine zr_if_ne (tgt := 43) hF h dX1_canEnterNext_4 (by decide) (fun h => ?_) (fun h => ?_)
  · refine lv_iconst hx hb dX1_canEnterNext_43 rfl ?_
    exact zr_zret hF hr hw h dX1_canEnterNext_44
  · refine lv_aload_n hx hb dX1_canEnterNext_7 rfl (lv_at hl 0 rfl) ?_
    refine zr_get hF hw he0 (by decide) zC_4 4 (by decide) qw_469 rfl dX1_canEnterNext_8 ?_
    refine lv_iconst hx hb dX1_canEnterNext_11 rfl ?_
    refine zr_icmp_ne (tgt := 43) hF h dX1_canEnterNext_12 (by decide) (fun h => ?_) (fun h => ?_)
    · refine lv_iconst hx hb dX1_canEnterNext_43 rfl ?_
      exact zr_zret hF hr hw h dX1_canEnterNext_44
    · refine lv_aload_n hx hb dX1_canEnterNext_15 rfl (lv_at hl 0 rfl) ?_
      refine zr_get hF hw he0 (by decide) zC_4 8 (by decide) qw_476 rfl dX1_canEnterNext_16 ?_
      refine lv_iconst hx hb dX1_canEnterNext_19 rfl ?_
      refine zr_icmp_ge (tgt := 43) hF h dX1_canEnterNext_20 (by decide) (fun h => ?_) (fun h => ?_)
      · refine lv_iconst hx hb dX1_canEnterNext_43 rfl ?_
        exact zr_zret hF hr hw h dX1_canEnterNext_44
      · refine lv_aload_n hx hb dX1_canEnterNext_23 rfl (lv_at hl 0 rfl) ?_
        refine lv_iload_n hx hb dX1_canEnterNext_24 rfl (lv_at hl 1 rfl) ?_
        obtain ⟨r1, g1, h1, h⟩ := zbd_some h
        refine zr_callVi (n := 1) (As := [z_v x1]) (rest := []) hF hw (czX1_enters l X N he0 h1) he0 (by decide) zC_4 (z_goodV qw_269 qw_270 qw_271 qw_30 qw_272) (by decide +kernel) ⟨Nat.le_of_ble_eq_true rfl, Nat.le_of_ble_eq_true rfl⟩ ⟨rfl, rfl⟩ rfl hl.1 rfl (Nat.le_of_ble_eq_true rfl) dX1_canEnterNext_25 ⟨Nat.le_of_ble_eq_true rfl, Nat.le_of_ble_eq_true rfl⟩ (fun H locs hw => ?_)
        clear h1
        generalize g1 = g at *
        refine zr_if_ne (tgt := 43) hF h dX1_canEnterNext_28 (by decide) (fun h => ?_) (fun h => ?_)
        · refine lv_iconst hx hb dX1_canEnterNext_43 rfl ?_
          exact zr_zret hF hr hw h dX1_canEnterNext_44
        · refine lv_aload_n hx hb dX1_canEnterNext_31 rfl (lv_at hl 0 rfl) ?_
          refine zr_get hF hw he0 (by decide) zC_4 9 (by decide) qw_478 rfl dX1_canEnterNext_32 ?_
          refine lv_iload_n hx hb dX1_canEnterNext_35 rfl (lv_at hl 2 rfl) ?_
          refine zr_icmp_ge (tgt := 43) hF h dX1_canEnterNext_36 (by decide) (fun h => ?_) (fun h => ?_)
          · refine lv_iconst hx hb dX1_canEnterNext_43 rfl ?_
            exact zr_zret hF hr hw h dX1_canEnterNext_44
          · refine lv_iconst hx hb dX1_canEnterNext_39 rfl ?_
            refine lv_goto (tgt := 44) hx hb dX1_canEnterNext_40 (by decide) ?_
            exact zr_zret hF hr hw h dX1_canEnterNext_44
set_option maxHeartbeats 4000000 in
set_option maxRecDepth 100000 in
theorem czX1_addEntry (l : Launch) (X : zC) (N : zN) {i0 : Nat} {x1 : Int} {x2 : Int} {x3 : Int} {g g' : zG} {r : Int} (he0 : zE N 4 i0) (h : sX1_addEntry i0 x1 x2 x3 g = some (r, g')) : zM l yX1_addEntry cX1_addEntry 4 none { frames := 0, cells := 0, slots := 0, locals := 0 } X N g [z_r N 4 i0, z_v x1, z_v x2, z_v x3] (zQv X N g') := by
  refine z_ofW (own := RX1) (by decide +kernel) rfl (Nat.le_of_ble_eq_true rfl) ?_
  intro p e s m args below meth c ls hF hr hw hl
  have hl : lv_has ls 4 [(0, z_r N 4 i0), (1, z_v x1), (2, z_v x2), (3, z_v x3)] := hl
  have hx := hF.1.1
  have hb := hF.1.2.1
  unfold sX1_addEntry at h
  generalize s.heap = H at hw ⊢
  generalize ([] : List Loc) = locs at hw ⊢
  refine lv_iload_n hx hb dX1_addEntry_0 rfl (lv_at hl 1 rfl) ?_
  refine zr_if_lt (tgt := 22) hF h dX1_addEntry_1 (by decide) (fun h => ?_) (fun h => ?_)
  · exact zr_vret hF hr hw h dX1_addEntry_22
  · refine lv_iload_n hx hb dX1_addEntry_4 rfl (lv_at hl 1 rfl) ?_
    refine lv_aload_n hx hb dX1_addEntry_5 rfl (lv_at hl 0 rfl) ?_
    refine zr_get hF hw he0 (by decide) zC_4 10 (by decide) qw_479 rfl dX1_addEntry_6 ?_
    refine zr_alen hF hw (zE_fl2 he0).1 (by decide) (v := 6) (by decide) dX1_addEntry_9 ?_
    refine zr_icmp_ge (tgt := 22) hF h dX1_addEntry_10 (by decide) (fun h => ?_) (fun h => ?_)
    · exact zr_vret hF hr hw h dX1_addEntry_22
    · refine lv_iload_n hx hb dX1_addEntry_13 rfl (lv_at hl 1 rfl) ?_
      refine lv_aload_n hx hb dX1_addEntry_14 rfl (lv_at hl 0 rfl) ?_
      refine zr_get hF hw he0 (by decide) zC_4 11 (by decide) qw_480 rfl dX1_addEntry_15 ?_
      refine zr_alen hF hw (zE_fl2 he0).2 (by decide) (v := 6) (by decide) dX1_addEntry_18 ?_
      refine zr_icmp_lt (tgt := 23) hF h dX1_addEntry_19 (by decide) (fun h => ?_) (fun h => ?_)
      · refine lv_aload_n hx hb dX1_addEntry_23 rfl (lv_at hl 0 rfl) ?_
        refine zr_get hF hw he0 (by decide) zC_4 10 (by decide) qw_479 rfl dX1_addEntry_24 ?_
        refine lv_iload_n hx hb dX1_addEntry_27 rfl (lv_at hl 1 rfl) ?_
        refine lv_iload_n hx hb dX1_addEntry_28 rfl (lv_at hl 2 rfl) ?_
        refine zr_iast hF hw (zE_fl2 he0).1 (by decide) h dX1_addEntry_29 (fun g H locs hw h => ?_)
        refine lv_aload_n hx hb dX1_addEntry_30 rfl (lv_at hl 0 rfl) ?_
        refine zr_get hF hw he0 (by decide) zC_4 11 (by decide) qw_480 rfl dX1_addEntry_31 ?_
        refine lv_iload_n hx hb dX1_addEntry_34 rfl (lv_at hl 1 rfl) ?_
        refine lv_iload_n hx hb dX1_addEntry_35 rfl (lv_at hl 3 rfl) ?_
        refine zr_iast hF hw (zE_fl2 he0).2 (by decide) h dX1_addEntry_36 (fun g H locs hw h => ?_)
        refine lv_aload_n hx hb dX1_addEntry_37 rfl (lv_at hl 0 rfl) ?_
        refine lv_iload_n hx hb dX1_addEntry_38 rfl (lv_at hl 2 rfl) ?_
        refine zr_put hF hw he0 (by decide) zC_4 9 (by decide) (by decide) qw_478 rfl (by decide +kernel) h dX1_addEntry_39 (fun g H locs hw h => ?_)
        refine lv_aload_n hx hb dX1_addEntry_42 rfl (lv_at hl 0 rfl) ?_
        refine lv_dup hx hb dX1_addEntry_43 rfl ?_
        refine zr_get hF hw he0 (by decide) zC_4 8 (by decide) qw_476 rfl dX1_addEntry_44 ?_
        refine lv_iconst hx hb dX1_addEntry_47 rfl ?_
        refine zr_iadd hF dX1_addEntry_48 ?_
        refine zr_put hF hw he0 (by decide) zC_4 8 (by decide) (by decide) qw_476 rfl (by decide +kernel) h dX1_addEntry_49 (fun g H locs hw h => ?_)
        exact zr_vret hF hr hw h dX1_addEntry_52
      · exact zr_vret hF hr hw h dX1_addEntry_22
set_option maxHeartbeats 4000000 in
set_option maxRecDepth 100000 in
theorem czX1_stayAt (l : Launch) (X : zC) (N : zN) {i0 : Nat} {x1 : Int} {g g' : zG} {r : Int} (he0 : zE N 4 i0) (h : sX1_stayAt i0 x1 g = some (r, g')) : zM l yX1_stayAt cX1_stayAt 2 (some .int) { frames := 0, cells := 0, slots := 0, locals := 0 } X N g [z_r N 4 i0, z_v x1] (zQi X N r g') := by
  refine z_ofW (own := RX1) (by decide +kernel) rfl (Nat.le_of_ble_eq_true rfl) ?_
  intro p e s m args below meth c ls hF hr hw hl
  have hl : lv_has ls 2 [(0, z_r N 4 i0), (1, z_v x1)] := hl
  have hx := hF.1.1
  have hb := hF.1.2.1
  unfold sX1_stayAt at h
  generalize s.heap = H at hw ⊢
  generalize ([] : List Loc) = locs at hw ⊢
  refine lv_iload_n hx hb dX1_stayAt_0 rfl (lv_at hl 1 rfl) ?_
  refine zr_if_lt (tgt := 22) hF h dX1_stayAt_1 (by decide) (fun h => ?_) (fun h => ?_)
  · refine lv_iconst hx hb dX1_stayAt_22 rfl ?_
    exact zr_iret hF hr hw h dX1_stayAt_23
  · refine lv_iload_n hx hb dX1_stayAt_4 rfl (lv_at hl 1 rfl) ?_
    refine lv_aload_n hx hb dX1_stayAt_5 rfl (lv_at hl 0 rfl) ?_
    refine zr_get hF hw he0 (by decide) zC_4 11 (by decide) qw_480 rfl dX1_stayAt_6 ?_
    refine zr_alen hF hw (zE_fl2 he0).2 (by decide) (v := 6) (by decide) dX1_stayAt_9 ?_
    refine zr_icmp_ge (tgt := 22) hF h dX1_stayAt_10 (by decide) (fun h => ?_) (fun h => ?_)
    · refine lv_iconst hx hb dX1_stayAt_22 rfl ?_
      exact zr_iret hF hr hw h dX1_stayAt_23
    · refine lv_aload_n hx hb dX1_stayAt_13 rfl (lv_at hl 0 rfl) ?_
      refine zr_get hF hw he0 (by decide) zC_4 11 (by decide) qw_480 rfl dX1_stayAt_14 ?_
      refine lv_iload_n hx hb dX1_stayAt_17 rfl (lv_at hl 1 rfl) ?_
      refine zr_iald hF hw (zE_fl2 he0).2 (by decide) h dX1_stayAt_18 (fun h => ?_)
      refine lv_goto (tgt := 23) hx hb dX1_stayAt_19 (by decide) ?_
      exact zr_iret hF hr hw h dX1_stayAt_23
set_option maxHeartbeats 4000000 in
set_option maxRecDepth 100000 in
theorem czX1_departure (l : Launch) (X : zC) (N : zN) {i0 : Nat} {g g' : zG} {r : Int} (he0 : zE N 4 i0) (h : sX1_departure i0 g = some (r, g')) : zM l yX1_departure cX1_departure 1 (some .int) { frames := 0, cells := 0, slots := 0, locals := 0 } X N g [z_r N 4 i0] (zQi X N r g') := by
  refine z_ofW (own := RX1) (by decide +kernel) rfl (Nat.le_of_ble_eq_true rfl) ?_
  intro p e s m args below meth c ls hF hr hw hl
  have hl : lv_has ls 1 [(0, z_r N 4 i0)] := hl
  have hx := hF.1.1
  have hb := hF.1.2.1
  unfold sX1_departure at h
  generalize s.heap = H at hw ⊢
  generalize ([] : List Loc) = locs at hw ⊢
  refine lv_aload_n hx hb dX1_departure_0 rfl (lv_at hl 0 rfl) ?_
  refine zr_get hF hw he0 (by decide) zC_4 2 (by decide) qw_465 rfl dX1_departure_1 ?_
  refine lv_iconst hx hb dX1_departure_4 rfl ?_
  refine zr_icmp_ne (tgt := 13) hF h dX1_departure_5 (by decide) (fun h => ?_) (fun h => ?_)
  · refine lv_aload_n hx hb dX1_departure_13 rfl (lv_at hl 0 rfl) ?_
    refine zr_get hF hw he0 (by decide) zC_4 4 (by decide) qw_469 rfl dX1_departure_14 ?_
    refine lv_iconst hx hb dX1_departure_17 rfl ?_
    refine zr_icmp_eq (tgt := 28) hF h dX1_departure_18 (by decide) (fun h => ?_) (fun h => ?_)
    · refine lv_aload_n hx hb dX1_departure_28 rfl (lv_at hl 0 rfl) ?_
      refine zr_get hF hw he0 (by decide) zC_4 1 (by decide) qw_463 rfl dX1_departure_29 ?_
      exact zr_iret hF hr hw h dX1_departure_32
    · refine lv_aload_n hx hb dX1_departure_21 rfl (lv_at hl 0 rfl) ?_
      refine zr_get hF hw he0 (by decide) zC_4 4 (by decide) qw_469 rfl dX1_departure_22 ?_
      refine lv_goto (tgt := 32) hx hb dX1_departure_25 (by decide) ?_
      exact zr_iret hF hr hw h dX1_departure_32
  · refine lv_aload_n hx hb dX1_departure_8 rfl (lv_at hl 0 rfl) ?_
    refine zr_get hF hw he0 (by decide) zC_4 6 (by decide) qw_473 rfl dX1_departure_9 ?_
    exact zr_iret hF hr hw h dX1_departure_12
set_option maxHeartbeats 4000000 in
set_option maxRecDepth 100000 in
theorem czX1_timeOver (l : Launch) (X : zC) (N : zN) {i0 : Nat} {x1 : Int} {g g' : zG} {r : Int} (he0 : zE N 4 i0) (h : sX1_timeOver i0 x1 g = some (r, g')) : zM l yX1_timeOver cX1_timeOver 3 (some .int) { frames := 1, cells := 0, slots := 0, locals := 21 } X N g [z_r N 4 i0, z_v x1] (zQi X N r g') := by
  refine z_ofW (own := RX1) (by decide +kernel) rfl (Nat.le_of_ble_eq_true rfl) ?_
  intro p e s m args below meth c ls hF hr hw hl
  have hl : lv_has ls 3 [(0, z_r N 4 i0), (1, z_v x1)] := hl
  have hx := hF.1.1
  have hb := hF.1.2.1
  unfold sX1_timeOver at h
  generalize s.heap = H at hw ⊢
  generalize ([] : List Loc) = locs at hw ⊢
  refine lv_aload_n hx hb dX1_timeOver_0 rfl (lv_at hl 0 rfl) ?_
  refine lv_iload_n hx hb dX1_timeOver_1 rfl (lv_at hl 1 rfl) ?_
  obtain ⟨r1, g1, h1, h⟩ := zbd_some h
  refine zr_callVi (n := 1) (As := [z_v x1]) (rest := []) hF hw (czX1_behindAt l X N he0 h1) he0 (by decide) zC_4 (z_goodV qw_257 qw_258 qw_259 qw_30 qw_260) (by decide +kernel) ⟨Nat.le_of_ble_eq_true rfl, Nat.le_of_ble_eq_true rfl⟩ ⟨rfl, rfl⟩ rfl hl.1 rfl (Nat.le_of_ble_eq_true rfl) dX1_timeOver_2 ⟨Nat.le_of_ble_eq_true rfl, Nat.le_of_ble_eq_true rfl⟩ (fun H locs hw => ?_)
  clear h1
  generalize g1 = g at *
  refine lv_istore_n (lv' := [(2, z_v r1), (0, z_r N 4 i0), (1, z_v x1)]) hx hb dX1_timeOver_5 rfl hl (by decide) rfl (fun ls hl => ?_)
  refine lv_iload_n hx hb dX1_timeOver_6 rfl (lv_at hl 0 rfl) ?_
  refine lv_iconst hx hb dX1_timeOver_7 rfl ?_
  refine zr_icmp_eq (tgt := 20) hF h dX1_timeOver_8 (by decide) (fun h => ?_) (fun h => ?_)
  · refine lv_iconst hx hb dX1_timeOver_20 rfl ?_
    exact zr_iret hF hr hw h dX1_timeOver_21
  · refine lv_aload_n hx hb dX1_timeOver_11 rfl (lv_at hl 1 rfl) ?_
    obtain ⟨r2, g1, h1, h⟩ := zbd_some h
    refine zr_callVi (n := 0) (As := []) (rest := []) hF hw (czX1_departure l X N he0 h1) he0 (by decide) zC_4 (z_goodV qw_261 qw_262 qw_263 qw_30 qw_264) (by decide +kernel) ⟨Nat.le_of_ble_eq_true rfl, Nat.le_of_ble_eq_true rfl⟩ ⟨rfl, rfl⟩ rfl hl.1 rfl (Nat.le_of_ble_eq_true rfl) dX1_timeOver_12 ⟨Nat.le_of_ble_eq_true rfl, Nat.le_of_ble_eq_true rfl⟩ (fun H locs hw => ?_)
    clear h1
    generalize g1 = g at *
    refine lv_iload_n hx hb dX1_timeOver_15 rfl (lv_at hl 0 rfl) ?_
    refine zr_iadd hF dX1_timeOver_16 ?_
    refine lv_goto (tgt := 21) hx hb dX1_timeOver_17 (by decide) ?_
    exact zr_iret hF hr hw h dX1_timeOver_21
set_option maxHeartbeats 4000000 in
set_option maxRecDepth 100000 in
theorem czX1_loads (l : Launch) (X : zC) (N : zN) {i0 : Nat} {x1 : Int} {g g' : zG} {r : Int} (he0 : zE N 4 i0) (h : sX1_loads i0 x1 g = some (r, g')) : zM l yX1_loads cX1_loads 2 (some .boolean) { frames := 2, cells := 0, slots := 0, locals := 42 } X N g [z_r N 4 i0, z_v x1] (zQi X N r g') := by
  refine z_ofW (own := RX1) (by decide +kernel) rfl (Nat.le_of_ble_eq_true rfl) ?_
  intro p e s m args below meth c ls hF hr hw hl
  have hl : lv_has ls 2 [(0, z_r N 4 i0), (1, z_v x1)] := hl
  have hx := hF.1.1
  have hb := hF.1.2.1
  unfold sX1_loads at h
  generalize s.heap = H at hw ⊢
  generalize ([] : List Loc) = locs at hw ⊢
  refine lv_aload_n hx hb dX1_loads_0 rfl (lv_at hl 0 rfl) ?_
  refine zr_get hF hw he0 (by decide) zC_4 2 (by decide) qw_465 rfl dX1_loads_1 ?_
  refine lv_iconst hx hb dX1_loads_4 rfl ?_
  refine zr_icmp_eq (tgt := 20) hF h dX1_loads_5 (by decide) (fun h => ?_) (fun h => ?_)
  · refine lv_iconst hx hb dX1_loads_20 rfl ?_
    exact zr_zret hF hr hw h dX1_loads_21
  · refine lv_aload_n hx hb dX1_loads_8 rfl (lv_at hl 0 rfl) ?_
    refine lv_iload_n hx hb dX1_loads_9 rfl (lv_at hl 1 rfl) ?_
    obtain ⟨r1, g1, h1, h⟩ := zbd_some h
    refine zr_callVi (n := 1) (As := [z_v x1]) (rest := []) hF hw (czX1_enters l X N he0 h1) he0 (by decide) zC_4 (z_goodV qw_269 qw_270 qw_271 qw_30 qw_272) (by decide +kernel) ⟨Nat.le_of_ble_eq_true rfl, Nat.le_of_ble_eq_true rfl⟩ ⟨rfl, rfl⟩ rfl hl.1 rfl (Nat.le_of_ble_eq_true rfl) dX1_loads_10 ⟨Nat.le_of_ble_eq_true rfl, Nat.le_of_ble_eq_true rfl⟩ (fun H locs hw => ?_)
    clear h1
    generalize g1 = g at *
    refine zr_if_eq (tgt := 20) hF h dX1_loads_13 (by decide) (fun h => ?_) (fun h => ?_)
    · refine lv_iconst hx hb dX1_loads_20 rfl ?_
      exact zr_zret hF hr hw h dX1_loads_21
    · refine lv_iconst hx hb dX1_loads_16 rfl ?_
      refine lv_goto (tgt := 21) hx hb dX1_loads_17 (by decide) ?_
      exact zr_zret hF hr hw h dX1_loads_21
set_option maxHeartbeats 4000000 in
set_option maxRecDepth 100000 in
theorem czX1_isInside (l : Launch) (X : zC) (N : zN) {i0 : Nat} {x1 : Int} {x2 : Int} {g g' : zG} {r : Int} (he0 : zE N 4 i0) (h : sX1_isInside i0 x1 x2 g = some (r, g')) : zM l yX1_isInside cX1_isInside 4 (some .boolean) { frames := 3, cells := 0, slots := 0, locals := 63 } X N g [z_r N 4 i0, z_v x1, z_v x2] (zQi X N r g') := by
  refine z_ofW (own := RX1) (by decide +kernel) rfl (Nat.le_of_ble_eq_true rfl) ?_
  intro p e s m args below meth c ls hF hr hw hl
  have hl : lv_has ls 4 [(0, z_r N 4 i0), (1, z_v x1), (2, z_v x2)] := hl
  have hx := hF.1.1
  have hb := hF.1.2.1
  unfold sX1_isInside at h
  generalize s.heap = H at hw ⊢
  generalize ([] : List Loc) = locs at hw ⊢
  refine lv_aload_n hx hb dX1_isInside_0 rfl (lv_at hl 0 rfl) ?_
  refine lv_iload_n hx hb dX1_isInside_1 rfl (lv_at hl 1 rfl) ?_
  obtain ⟨r1, g1, h1, h⟩ := zbd_some h
  refine zr_callVi (n := 1) (As := [z_v x1]) (rest := []) hF hw (czX1_timeOver l X N he0 h1) he0 (by decide) zC_4 (z_goodV qw_652 qw_254 qw_255 qw_30 qw_256) (by decide +kernel) ⟨Nat.le_of_ble_eq_true rfl, Nat.le_of_ble_eq_true rfl⟩ ⟨rfl, rfl⟩ rfl hl.1 rfl (Nat.le_of_ble_eq_true rfl) dX1_isInside_2 ⟨Nat.le_of_ble_eq_true rfl, Nat.le_of_ble_eq_true rfl⟩ (fun H locs hw => ?_)
  clear h1
  generalize g1 = g at *
  refine lv_istore_n (lv' := [(3, z_v r1), (0, z_r N 4 i0), (1, z_v x1), (2, z_v x2)]) hx hb dX1_isInside_5 rfl hl (by decide) rfl (fun ls hl => ?_)
  refine lv_aload_n hx hb dX1_isInside_6 rfl (lv_at hl 1 rfl) ?_
  refine lv_iload_n hx hb dX1_isInside_7 rfl (lv_at hl 2 rfl) ?_
  obtain ⟨r2, g1, h1, h⟩ := zbd_some h
  refine zr_callVi (n := 1) (As := [z_v x1]) (rest := []) hF hw (czX1_loads l X N he0 h1) he0 (by decide) zC_4 (z_goodV qw_653 qw_266 qw_267 qw_30 qw_268) (by decide +kernel) ⟨Nat.le_of_ble_eq_true rfl, Nat.le_of_ble_eq_true rfl⟩ ⟨rfl, rfl⟩ rfl hl.1 rfl (Nat.le_of_ble_eq_true rfl) dX1_isInside_8 ⟨Nat.le_of_ble_eq_true rfl, Nat.le_of_ble_eq_true rfl⟩ (fun H locs hw => ?_)
  clear h1
  generalize g1 = g at *
  refine zr_if_eq (tgt := 34) hF h dX1_isInside_11 (by decide) (fun h => ?_) (fun h => ?_)
  · refine lv_iconst hx hb dX1_isInside_34 rfl ?_
    exact zr_zret hF hr hw h dX1_isInside_35
  · refine lv_iload_n hx hb dX1_isInside_14 rfl (lv_at hl 0 rfl) ?_
    refine lv_iload_n hx hb dX1_isInside_15 rfl (lv_at hl 3 rfl) ?_
    refine zr_icmp_gt (tgt := 34) hF h dX1_isInside_16 (by decide) (fun h => ?_) (fun h => ?_)
    · refine lv_iconst hx hb dX1_isInside_34 rfl ?_
      exact zr_zret hF hr hw h dX1_isInside_35
    · refine lv_iload_n hx hb dX1_isInside_19 rfl (lv_at hl 3 rfl) ?_
      refine lv_iload_n hx hb dX1_isInside_20 rfl (lv_at hl 0 rfl) ?_
      refine lv_aload_n hx hb dX1_isInside_21 rfl (lv_at hl 1 rfl) ?_
      refine lv_iload_n hx hb dX1_isInside_22 rfl (lv_at hl 2 rfl) ?_
      obtain ⟨r3, g1, h1, h⟩ := zbd_some h
      refine zr_callVi (n := 1) (As := [z_v x1]) (rest := [z_v r1, z_v x2]) hF hw (czX1_stayAt l X N he0 h1) he0 (by decide) zC_4 (z_goodV qw_654 qw_655 qw_656 qw_30 qw_657) (by decide +kernel) ⟨Nat.le_of_ble_eq_true rfl, Nat.le_of_ble_eq_true rfl⟩ ⟨rfl, rfl⟩ rfl hl.1 rfl (Nat.le_of_ble_eq_true rfl) dX1_isInside_23 ⟨Nat.le_of_ble_eq_true rfl, Nat.le_of_ble_eq_true rfl⟩ (fun H locs hw => ?_)
      clear h1
      generalize g1 = g at *
      refine zr_iadd hF dX1_isInside_26 ?_
      refine zr_icmp_ge (tgt := 34) hF h dX1_isInside_27 (by decide) (fun h => ?_) (fun h => ?_)
      · refine lv_iconst hx hb dX1_isInside_34 rfl ?_
        exact zr_zret hF hr hw h dX1_isInside_35
      · refine lv_iconst hx hb dX1_isInside_30 rfl ?_
        refine lv_goto (tgt := 35) hx hb dX1_isInside_31 (by decide) ?_
        exact zr_zret hF hr hw h dX1_isInside_35
set_option maxHeartbeats 4000000 in
set_option maxRecDepth 100000 in
theorem wX1_isFixed_j22 {p : Program} {l : Launch} {e : Env} {s : State} {m : MethodId} {args : Array Value} {below : List Frame} {meth : Method} {c : Code} {X : zC} {N : zN} {r : Int} {g' : zG} {H : Heap} {locs : List Loc} {ls : Array Slot} (hF : zF p s m args meth c X cX1_isFixed 1 RX1) (hr : meth.sig.returnType = (some .boolean)) {g : zG} (hw : zH X N g s H locs) (hl : lv_has ls 1 []) (h : sX1_isFixed_j22 g = some (r, g')) : W p l e { frames := 0, cells := 0, slots := 0, locals := 0 } s m args below meth c H locs 0 0 (MQ below (zQi X N r g') args s 0 0 (zA X)) (F0 m 22 ls []) := by
  have hx := hF.1.1
  have hb := hF.1.2.1
  unfold sX1_isFixed_j22 at h
  refine lv_iconst hx hb dX1_isFixed_22 rfl ?_
  refine lv_goto (tgt := 27) hx hb dX1_isFixed_23 (by decide) ?_
  exact zr_zret hF hr hw h dX1_isFixed_27
set_option maxHeartbeats 4000000 in
set_option maxRecDepth 100000 in
theorem czX1_isFixed (l : Launch) (X : zC) (N : zN) {i0 : Nat} {g g' : zG} {r : Int} (he0 : zE N 4 i0) (h : sX1_isFixed i0 g = some (r, g')) : zM l yX1_isFixed cX1_isFixed 1 (some .boolean) { frames := 0, cells := 0, slots := 0, locals := 0 } X N g [z_r N 4 i0] (zQi X N r g') := by
  refine z_ofW (own := RX1) (by decide +kernel) rfl (Nat.le_of_ble_eq_true rfl) ?_
  intro p e s m args below meth c ls hF hr hw hl
  have hl : lv_has ls 1 [(0, z_r N 4 i0)] := hl
  have hx := hF.1.1
  have hb := hF.1.2.1
  unfold sX1_isFixed at h
  generalize s.heap = H at hw ⊢
  generalize ([] : List Loc) = locs at hw ⊢
  refine lv_aload_n hx hb dX1_isFixed_0 rfl (lv_at hl 0 rfl) ?_
  refine zr_get hF hw he0 (by decide) zC_4 2 (by decide) qw_465 rfl dX1_isFixed_1 ?_
  refine lv_iconst hx hb dX1_isFixed_4 rfl ?_
  refine zr_icmp_eq (tgt := 22) hF h dX1_isFixed_5 (by decide) (fun h => ?_) (fun h => ?_)
  · exact wX1_isFixed_j22 hF hr  hw (lv_sub hl [] rfl) h
  · refine lv_aload_n hx hb dX1_isFixed_8 rfl (lv_at hl 0 rfl) ?_
    refine zr_get hF hw he0 (by decide) zC_4 2 (by decide) qw_465 rfl dX1_isFixed_9 ?_
    refine zr_if_ne (tgt := 26) hF h dX1_isFixed_12 (by decide) (fun h => ?_) (fun h => ?_)
    · refine lv_iconst hx hb dX1_isFixed_26 rfl ?_
      exact zr_zret hF hr hw h dX1_isFixed_27
    · refine lv_aload_n hx hb dX1_isFixed_15 rfl (lv_at hl 0 rfl) ?_
      refine zr_get hF hw he0 (by decide) zC_4 3 (by decide) qw_467 rfl dX1_isFixed_16 ?_
      refine zr_if_eq (tgt := 26) hF h dX1_isFixed_19 (by decide) (fun h => ?_) (fun h => ?_)
      · refine lv_iconst hx hb dX1_isFixed_26 rfl ?_
        exact zr_zret hF hr hw h dX1_isFixed_27
      · exact wX1_isFixed_j22 hF hr  hw (lv_sub hl [] rfl) h
set_option maxHeartbeats 4000000 in
set_option maxRecDepth 100000 in
theorem czX1_isListed (l : Launch) (X : zC) (N : zN) {i0 : Nat} {g g' : zG} {r : Int} (he0 : zE N 4 i0) (h : sX1_isListed i0 g = some (r, g')) : zM l yX1_isListed cX1_isListed 1 (some .boolean) { frames := 0, cells := 0, slots := 0, locals := 0 } X N g [z_r N 4 i0] (zQi X N r g') := by
  refine z_ofW (own := RX1) (by decide +kernel) rfl (Nat.le_of_ble_eq_true rfl) ?_
  intro p e s m args below meth c ls hF hr hw hl
  have hl : lv_has ls 1 [(0, z_r N 4 i0)] := hl
  have hx := hF.1.1
  have hb := hF.1.2.1
  unfold sX1_isListed at h
  generalize s.heap = H at hw ⊢
  generalize ([] : List Loc) = locs at hw ⊢
  refine lv_aload_n hx hb dX1_isListed_0 rfl (lv_at hl 0 rfl) ?_
  refine zr_get hF hw he0 (by decide) zC_4 2 (by decide) qw_465 rfl dX1_isListed_1 ?_
  refine zr_if_ne (tgt := 18) hF h dX1_isListed_4 (by decide) (fun h => ?_) (fun h => ?_)
  · refine lv_iconst hx hb dX1_isListed_18 rfl ?_
    exact zr_zret hF hr hw h dX1_isListed_19
  · refine lv_aload_n hx hb dX1_isListed_7 rfl (lv_at hl 0 rfl) ?_
    refine zr_get hF hw he0 (by decide) zC_4 3 (by decide) qw_467 rfl dX1_isListed_8 ?_
    refine zr_if_ne (tgt := 18) hF h dX1_isListed_11 (by decide) (fun h => ?_) (fun h => ?_)
    · refine lv_iconst hx hb dX1_isListed_18 rfl ?_
      exact zr_zret hF hr hw h dX1_isListed_19
    · refine lv_iconst hx hb dX1_isListed_14 rfl ?_
      refine lv_goto (tgt := 19) hx hb dX1_isListed_15 (by decide) ?_
      exact zr_zret hF hr hw h dX1_isListed_19
set_option maxHeartbeats 4000000 in
set_option maxRecDepth 100000 in
theorem czX1_lineTime (l : Launch) (X : zC) (N : zN) {i0 : Nat} {x1 : Int} {g g' : zG} {r : Int} (he0 : zE N 4 i0) (h : sX1_lineTime i0 x1 g = some (r, g')) : zM l yX1_lineTime cX1_lineTime 3 (some .int) { frames := 1, cells := 0, slots := 0, locals := 21 } X N g [z_r N 4 i0, z_v x1] (zQi X N r g') := by
  refine z_ofW (own := RX1) (by decide +kernel) rfl (Nat.le_of_ble_eq_true rfl) ?_
  intro p e s m args below meth c ls hF hr hw hl
  have hl : lv_has ls 3 [(0, z_r N 4 i0), (1, z_v x1)] := hl
  have hx := hF.1.1
  have hb := hF.1.2.1
  unfold sX1_lineTime at h
  generalize s.heap = H at hw ⊢
  generalize ([] : List Loc) = locs at hw ⊢
  refine lv_aload_n hx hb dX1_lineTime_0 rfl (lv_at hl 0 rfl) ?_
  refine lv_iload_n hx hb dX1_lineTime_1 rfl (lv_at hl 1 rfl) ?_
  obtain ⟨r1, g1, h1, h⟩ := zbd_some h
  refine zr_callVi (n := 1) (As := [z_v x1]) (rest := []) hF hw (czX1_behindAt l X N he0 h1) he0 (by decide) zC_4 (z_goodV qw_257 qw_258 qw_259 qw_30 qw_260) (by decide +kernel) ⟨Nat.le_of_ble_eq_true rfl, Nat.le_of_ble_eq_true rfl⟩ ⟨rfl, rfl⟩ rfl hl.1 rfl (Nat.le_of_ble_eq_true rfl) dX1_lineTime_2 ⟨Nat.le_of_ble_eq_true rfl, Nat.le_of_ble_eq_true rfl⟩ (fun H locs hw => ?_)
  clear h1
  generalize g1 = g at *
  refine lv_istore_n (lv' := [(2, z_v r1), (0, z_r N 4 i0), (1, z_v x1)]) hx hb dX1_lineTime_5 rfl hl (by decide) rfl (fun ls hl => ?_)
  refine lv_iload_n hx hb dX1_lineTime_6 rfl (lv_at hl 0 rfl) ?_
  refine lv_iconst hx hb dX1_lineTime_7 rfl ?_
  refine zr_icmp_ne (tgt := 13) hF h dX1_lineTime_8 (by decide) (fun h => ?_) (fun h => ?_)
  · refine lv_aload_n hx hb dX1_lineTime_13 rfl (lv_at hl 1 rfl) ?_
    refine zr_get hF hw he0 (by decide) zC_4 2 (by decide) qw_465 rfl dX1_lineTime_14 ?_
    refine lv_iconst hx hb dX1_lineTime_17 rfl ?_
    refine zr_icmp_ne (tgt := 28) hF h dX1_lineTime_18 (by decide) (fun h => ?_) (fun h => ?_)
    · refine lv_aload_n hx hb dX1_lineTime_28 rfl (lv_at hl 1 rfl) ?_
      refine zr_get hF hw he0 (by decide) zC_4 1 (by decide) qw_463 rfl dX1_lineTime_29 ?_
      refine lv_iload_n hx hb dX1_lineTime_32 rfl (lv_at hl 0 rfl) ?_
      refine zr_iadd hF dX1_lineTime_33 ?_
      exact zr_iret hF hr hw h dX1_lineTime_34
    · refine lv_aload_n hx hb dX1_lineTime_21 rfl (lv_at hl 1 rfl) ?_
      refine zr_get hF hw he0 (by decide) zC_4 6 (by decide) qw_473 rfl dX1_lineTime_22 ?_
      refine lv_goto (tgt := 32) hx hb dX1_lineTime_25 (by decide) ?_
      refine lv_iload_n hx hb dX1_lineTime_32 rfl (lv_at hl 0 rfl) ?_
      refine zr_iadd hF dX1_lineTime_33 ?_
      exact zr_iret hF hr hw h dX1_lineTime_34
  · refine lv_iconst hx hb dX1_lineTime_11 rfl ?_
    exact zr_iret hF hr hw h dX1_lineTime_12
set_option maxHeartbeats 4000000 in
set_option maxRecDepth 100000 in
theorem czX1_loseSlotTime (l : Launch) (X : zC) (N : zN) {i0 : Nat} {g g' : zG} {r : Int} (he0 : zE N 4 i0) (h : sX1_loseSlotTime i0 g = some (r, g')) : zM l yX1_loseSlotTime cX1_loseSlotTime 1 none { frames := 0, cells := 0, slots := 0, locals := 0 } X N g [z_r N 4 i0] (zQv X N g') := by
  refine z_ofW (own := RX1) (by decide +kernel) rfl (Nat.le_of_ble_eq_true rfl) ?_
  intro p e s m args below meth c ls hF hr hw hl
  have hl : lv_has ls 1 [(0, z_r N 4 i0)] := hl
  have hx := hF.1.1
  have hb := hF.1.2.1
  unfold sX1_loseSlotTime at h
  generalize s.heap = H at hw ⊢
  generalize ([] : List Loc) = locs at hw ⊢
  refine lv_aload_n hx hb dX1_loseSlotTime_0 rfl (lv_at hl 0 rfl) ?_
  refine lv_iconst hx hb dX1_loseSlotTime_1 rfl ?_
  refine zr_put hF hw he0 (by decide) zC_4 4 (by decide) (by decide) qw_469 rfl (by decide +kernel) h dX1_loseSlotTime_2 (fun g H locs hw h => ?_)
  refine lv_aload_n hx hb dX1_loseSlotTime_5 rfl (lv_at hl 0 rfl) ?_
  refine lv_iconst hx hb dX1_loseSlotTime_6 rfl ?_
  refine zr_put hF hw he0 (by decide) zC_4 5 (by decide) (by decide) qw_471 rfl (by decide +kernel) h dX1_loseSlotTime_7 (fun g H locs hw h => ?_)
  exact zr_vret hF hr hw h dX1_loseSlotTime_10
set_option maxHeartbeats 4000000 in
set_option maxRecDepth 100000 in
theorem czX1_delay (l : Launch) (X : zC) (N : zN) {i0 : Nat} {g g' : zG} {r : Int} (he0 : zE N 4 i0) (h : sX1_delay i0 g = some (r, g')) : zM l yX1_delay cX1_delay 1 (some .int) { frames := 0, cells := 0, slots := 0, locals := 0 } X N g [z_r N 4 i0] (zQi X N r g') := by
  refine z_ofW (own := RX1) (by decide +kernel) rfl (Nat.le_of_ble_eq_true rfl) ?_
  intro p e s m args below meth c ls hF hr hw hl
  have hl : lv_has ls 1 [(0, z_r N 4 i0)] := hl
  have hx := hF.1.1
  have hb := hF.1.2.1
  unfold sX1_delay at h
  generalize s.heap = H at hw ⊢
  generalize ([] : List Loc) = locs at hw ⊢
  refine lv_aload_n hx hb dX1_delay_0 rfl (lv_at hl 0 rfl) ?_
  refine zr_get hF hw he0 (by decide) zC_4 4 (by decide) qw_469 rfl dX1_delay_1 ?_
  refine lv_iconst hx hb dX1_delay_4 rfl ?_
  refine zr_icmp_eq (tgt := 20) hF h dX1_delay_5 (by decide) (fun h => ?_) (fun h => ?_)
  · refine lv_iconst hx hb dX1_delay_20 rfl ?_
    exact zr_iret hF hr hw h dX1_delay_21
  · refine lv_aload_n hx hb dX1_delay_8 rfl (lv_at hl 0 rfl) ?_
    refine zr_get hF hw he0 (by decide) zC_4 4 (by decide) qw_469 rfl dX1_delay_9 ?_
    refine lv_aload_n hx hb dX1_delay_12 rfl (lv_at hl 0 rfl) ?_
    refine zr_get hF hw he0 (by decide) zC_4 1 (by decide) qw_463 rfl dX1_delay_13 ?_
    refine zr_isub hF dX1_delay_16 ?_
    refine lv_goto (tgt := 21) hx hb dX1_delay_17 (by decide) ?_
    exact zr_iret hF hr hw h dX1_delay_21
set_option maxHeartbeats 4000000 in
set_option maxRecDepth 100000 in
theorem czX1_charge (l : Launch) (X : zC) (N : zN) {i0 : Nat} {g g' : zG} {r : Int} (he0 : zE N 4 i0) (h : sX1_charge i0 g = some (r, g')) : zM l yX1_charge cX1_charge 1 (some .int) { frames := 1, cells := 0, slots := 0, locals := 20 } X N g [z_r N 4 i0] (zQi X N r g') := by
  refine z_ofW (own := RX1) (by decide +kernel) rfl (Nat.le_of_ble_eq_true rfl) ?_
  intro p e s m args below meth c ls hF hr hw hl
  have hl : lv_has ls 1 [(0, z_r N 4 i0)] := hl
  have hx := hF.1.1
  have hb := hF.1.2.1
  unfold sX1_charge at h
  generalize s.heap = H at hw ⊢
  generalize ([] : List Loc) = locs at hw ⊢
  refine lv_aload_n hx hb dX1_charge_0 rfl (lv_at hl 0 rfl) ?_
  refine zr_get hF hw he0 (by decide) zC_4 2 (by decide) qw_465 rfl dX1_charge_1 ?_
  refine lv_iconst hx hb dX1_charge_4 rfl ?_
  refine zr_icmp_ne (tgt := 15) hF h dX1_charge_5 (by decide) (fun h => ?_) (fun h => ?_)
  · refine lv_iconst hx hb dX1_charge_15 rfl ?_
    exact zr_iret hF hr hw h dX1_charge_16
  · refine lv_aload_n hx hb dX1_charge_8 rfl (lv_at hl 0 rfl) ?_
    obtain ⟨r1, g1, h1, h⟩ := zbd_some h
    refine zr_callVi (n := 0) (As := []) (rest := []) hF hw (czX1_delay l X N he0 h1) he0 (by decide) zC_4 (z_goodV qw_418 qw_399 qw_400 qw_30 qw_401) (by decide +kernel) ⟨Nat.le_of_ble_eq_true rfl, Nat.le_of_ble_eq_true rfl⟩ ⟨rfl, rfl⟩ rfl hl.1 rfl (Nat.le_of_ble_eq_true rfl) dX1_charge_9 ⟨Nat.le_of_ble_eq_true rfl, Nat.le_of_ble_eq_true rfl⟩ (fun H locs hw => ?_)
    clear h1
    generalize g1 = g at *
    refine lv_goto (tgt := 16) hx hb dX1_charge_12 (by decide) ?_
    exact zr_iret hF hr hw h dX1_charge_16
set_option maxHeartbeats 4000000 in
set_option maxRecDepth 100000 in
theorem wX1_wentOutOfWindow_j43 {p : Program} {l : Launch} {e : Env} {s : State} {m : MethodId} {args : Array Value} {below : List Frame} {meth : Method} {c : Code} {X : zC} {N : zN} {r : Int} {g' : zG} {H : Heap} {locs : List Loc} {ls : Array Slot} (hF : zF p s m args meth c X cX1_wentOutOfWindow 1 RX1) (hr : meth.sig.returnType = (some .boolean)) {g : zG} (hw : zH X N g s H locs) (hl : lv_has ls 1 []) (h : sX1_wentOutOfWindow_j43 g = some (r, g')) : W p l e { frames := 0, cells := 0, slots := 0, locals := 0 } s m args below meth c H locs 0 0 (MQ below (zQi X N r g') args s 0 0 (zA X)) (F0 m 43 ls []) := by
  have hx := hF.1.1
  have hb := hF.1.2.1
  unfold sX1_wentOutOfWindow_j43 at h
  refine lv_iconst hx hb dX1_wentOutOfWindow_43 rfl ?_
  refine lv_goto (tgt := 48) hx hb dX1_wentOutOfWindow_44 (by decide) ?_
  exact zr_zret hF hr hw h dX1_wentOutOfWindow_48
set_option maxHeartbeats 4000000 in
set_option maxRecDepth 100000 in
theorem czX1_wentOutOfWindow (l : Launch) (X : zC) (N : zN) {i0 : Nat} {g g' : zG} {r : Int} (he0 : zE N 4 i0) (h : sX1_wentOutOfWindow i0 g = some (r, g')) : zM l yX1_wentOutOfWindow cX1_wentOutOfWindow 1 (some .boolean) { frames := 0, cells := 0, slots := 0, locals := 0 } X N g [z_r N 4 i0] (zQi X N r g') := by
  refine z_ofW (own := RX1) (by decide +kernel) rfl (Nat.le_of_ble_eq_true rfl) ?_
  intro p e s m args below meth c ls hF hr hw hl
  have hl : lv_has ls 1 [(0, z_r N 4 i0)] := hl
  have hx := hF.1.1
  have hb := hF.1.2.1
  unfold sX1_wentOutOfWindow at h
  generalize s.heap = H at hw ⊢
  generalize ([] : List Loc) = locs at hw ⊢
  refine lv_aload_n hx hb dX1_wentOutOfWindow_0 rfl (lv_at hl 0 rfl) ?_
  refine zr_get hF hw he0 (by decide) zC_4 2 (by decide) qw_465 rfl dX1_wentOutOfWindow_1 ?_
  refine lv_iconst hx hb dX1_wentOutOfWindow_4 rfl ?_
  refine zr_icmp_ne (tgt := 47) hF h dX1_wentOutOfWindow_5 (by decide) (fun h => ?_) (fun h => ?_)
  · refine lv_iconst hx hb dX1_wentOutOfWindow_47 rfl ?_
    exact zr_zret hF hr hw h dX1_wentOutOfWindow_48
  · refine lv_aload_n hx hb dX1_wentOutOfWindow_8 rfl (lv_at hl 0 rfl) ?_
    refine zr_get hF hw he0 (by decide) zC_4 4 (by decide) qw_469 rfl dX1_wentOutOfWindow_9 ?_
    refine lv_iconst hx hb dX1_wentOutOfWindow_12 rfl ?_
    refine zr_icmp_eq (tgt := 47) hF h dX1_wentOutOfWindow_13 (by decide) (fun h => ?_) (fun h => ?_)
    · refine lv_iconst hx hb dX1_wentOutOfWindow_47 rfl ?_
      exact zr_zret hF hr hw h dX1_wentOutOfWindow_48
    · refine lv_aload_n hx hb dX1_wentOutOfWindow_16 rfl (lv_at hl 0 rfl) ?_
      refine zr_get hF hw he0 (by decide) zC_4 6 (by decide) qw_473 rfl dX1_wentOutOfWindow_17 ?_
      refine lv_aload_n hx hb dX1_wentOutOfWindow_20 rfl (lv_at hl 0 rfl) ?_
      refine zr_get hF hw he0 (by decide) zC_4 4 (by decide) qw_469 rfl dX1_wentOutOfWindow_21 ?_
      refine lv_iconst hx hb dX1_wentOutOfWindow_24 rfl ?_
      refine zr_isub hF dX1_wentOutOfWindow_25 ?_
      refine zr_icmp_lt (tgt := 43) hF h dX1_wentOutOfWindow_26 (by decide) (fun h => ?_) (fun h => ?_)
      · exact wX1_wentOutOfWindow_j43 hF hr  hw (lv_sub hl [] rfl) h
      · refine lv_aload_n hx hb dX1_wentOutOfWindow_29 rfl (lv_at hl 0 rfl) ?_
        refine zr_get hF hw he0 (by decide) zC_4 6 (by decide) qw_473 rfl dX1_wentOutOfWindow_30 ?_
        refine lv_aload_n hx hb dX1_wentOutOfWindow_33 rfl (lv_at hl 0 rfl) ?_
        refine zr_get hF hw he0 (by decide) zC_4 4 (by decide) qw_469 rfl dX1_wentOutOfWindow_34 ?_
        refine lv_bipush (v := Int32.ofInt (10)) hx hb dX1_wentOutOfWindow_37 (by decide) ?_
        refine zr_iadd hF dX1_wentOutOfWindow_39 ?_
        refine zr_icmp_le (tgt := 47) hF h dX1_wentOutOfWindow_40 (by decide) (fun h => ?_) (fun h => ?_)
        · refine lv_iconst hx hb dX1_wentOutOfWindow_47 rfl ?_
          exact zr_zret hF hr hw h dX1_wentOutOfWindow_48
        · exact wX1_wentOutOfWindow_j43 hF hr  hw (lv_sub hl [] rfl) h
set_option maxHeartbeats 4000000 in
set_option maxRecDepth 100000 in
theorem czX1_ledgerLine (l : Launch) (X : zC) (N : zN) {i0 : Nat} {x1 : Int} {g g' : zG} {r : Int} (he0 : zE N 4 i0) (h : sX1_ledgerLine i0 x1 g = some (r, g')) : zM l yX1_ledgerLine cX1_ledgerLine 2 (some .int) { frames := 2, cells := 0, slots := 0, locals := 40 } X N g [z_r N 4 i0, z_v x1] (zQi X N r g') := by
  refine z_ofW (own := RX1) (by decide +kernel) rfl (Nat.le_of_ble_eq_true rfl) ?_
  intro p e s m args below meth c ls hF hr hw hl
  have hl : lv_has ls 2 [(0, z_r N 4 i0), (1, z_v x1)] := hl
  have hx := hF.1.1
  have hb := hF.1.2.1
  unfold sX1_ledgerLine at h
  generalize s.heap = H at hw ⊢
  generalize ([] : List Loc) = locs at hw ⊢
  refine lv_iload_n hx hb dX1_ledgerLine_0 rfl (lv_at hl 1 rfl) ?_
  refine zr_case h (fun c1_0 h => ?_) (fun c1_0 hz h => ?_)
  · rw [c1_0]
    refine lv_lookup (tgt := 28) (off := 27) hx hb dX1_ledgerLine_1 (by decide) (by decide) (by decide) ?_
    refine lv_aload_n hx hb dX1_ledgerLine_28 rfl (lv_at hl 0 rfl) ?_
    obtain ⟨r1, g1, h1, h⟩ := zbd_some h
    refine zr_callVi (n := 0) (As := []) (rest := []) hF hw (czX1_charge l X N he0 h1) he0 (by decide) zC_4 (z_goodV qw_414 qw_415 qw_416 qw_30 qw_417) (by decide +kernel) ⟨Nat.le_of_ble_eq_true rfl, Nat.le_of_ble_eq_true rfl⟩ ⟨rfl, rfl⟩ rfl hl.1 rfl (Nat.le_of_ble_eq_true rfl) dX1_ledgerLine_29 ⟨Nat.le_of_ble_eq_true rfl, Nat.le_of_ble_eq_true rfl⟩ (fun H locs hw => ?_)
    clear h1
    generalize g1 = g at *
    exact zr_iret hF hr hw h dX1_ledgerLine_32
  refine zr_case h (fun c1_1 h => ?_) (fun c1_1 hz h => ?_)
  · rw [c1_1]
    refine lv_lookup (tgt := 33) (off := 32) hx hb dX1_ledgerLine_1 (by decide) (by decide) (by decide) ?_
    refine lv_aload_n hx hb dX1_ledgerLine_33 rfl (lv_at hl 0 rfl) ?_
    obtain ⟨r2, g1, h1, h⟩ := zbd_some h
    refine zr_callVi (n := 0) (As := []) (rest := []) hF hw (czX1_wentOutOfWindow l X N he0 h1) he0 (by decide) zC_4 (z_goodV qw_419 qw_420 qw_421 qw_30 qw_422) (by decide +kernel) ⟨Nat.le_of_ble_eq_true rfl, Nat.le_of_ble_eq_true rfl⟩ ⟨rfl, rfl⟩ rfl hl.1 rfl (Nat.le_of_ble_eq_true rfl) dX1_ledgerLine_34 ⟨Nat.le_of_ble_eq_true rfl, Nat.le_of_ble_eq_true rfl⟩ (fun H locs hw => ?_)
    clear h1
    generalize g1 = g at *
    refine zr_if_eq (tgt := 44) hF h dX1_ledgerLine_37 (by decide) (fun h => ?_) (fun h => ?_)
    · refine lv_iconst hx hb dX1_ledgerLine_44 rfl ?_
      exact zr_iret hF hr hw h dX1_ledgerLine_45
    · refine lv_iconst hx hb dX1_ledgerLine_40 rfl ?_
      refine lv_goto (tgt := 45) hx hb dX1_ledgerLine_41 (by decide) ?_
      exact zr_iret hF hr hw h dX1_ledgerLine_45
  refine lv_lookup (tgt := 46) (off := 45) hx hb dX1_ledgerLine_1 (by decide) (by rw [Int32.toInt_ofInt_of_le (by omega) (by omega)]; simp [Op.lookupswitch.offset, Ne.symm c1_0, Ne.symm c1_1]) (by decide) ?_
  refine lv_aload_n hx hb dX1_ledgerLine_46 rfl (lv_at hl 0 rfl) ?_
  refine zr_get hF hw he0 (by decide) zC_4 2 (by decide) qw_465 rfl dX1_ledgerLine_47 ?_
  refine lv_iconst hx hb dX1_ledgerLine_50 rfl ?_
  refine zr_icmp_ne (tgt := 58) hF h dX1_ledgerLine_51 (by decide) (fun h => ?_) (fun h => ?_)
  · refine lv_iconst hx hb dX1_ledgerLine_58 rfl ?_
    exact zr_iret hF hr hw h dX1_ledgerLine_59
  · refine lv_iconst hx hb dX1_ledgerLine_54 rfl ?_
    refine lv_goto (tgt := 59) hx hb dX1_ledgerLine_55 (by decide) ?_
    exact zr_iret hF hr hw h dX1_ledgerLine_59
set_option maxHeartbeats 4000000 in
set_option maxRecDepth 100000 in
theorem czX1_forgetReckoned (l : Launch) (X : zC) (N : zN) {i0 : Nat} {g g' : zG} {r : Int} (he0 : zE N 4 i0) (h : sX1_forgetReckoned i0 g = some (r, g')) : zM l yX1_forgetReckoned cX1_forgetReckoned 1 none { frames := 0, cells := 0, slots := 0, locals := 0 } X N g [z_r N 4 i0] (zQv X N g') := by
  refine z_ofW (own := RX1) (by decide +kernel) rfl (Nat.le_of_ble_eq_true rfl) ?_
  intro p e s m args below meth c ls hF hr hw hl
  have hl : lv_has ls 1 [(0, z_r N 4 i0)] := hl
  have hx := hF.1.1
  have hb := hF.1.2.1
  unfold sX1_forgetReckoned at h
  generalize s.heap = H at hw ⊢
  generalize ([] : List Loc) = locs at hw ⊢
  refine lv_aload_n hx hb dX1_forgetReckoned_0 rfl (lv_at hl 0 rfl) ?_
  refine lv_iconst hx hb dX1_forgetReckoned_1 rfl ?_
  refine zr_put hF hw he0 (by decide) zC_4 12 (by decide) (by decide) qw_481 rfl (by decide +kernel) h dX1_forgetReckoned_2 (fun g H locs hw h => ?_)
  refine lv_aload_n hx hb dX1_forgetReckoned_5 rfl (lv_at hl 0 rfl) ?_
  refine lv_iconst hx hb dX1_forgetReckoned_6 rfl ?_
  refine zr_put hF hw he0 (by decide) zC_4 13 (by decide) (by decide) qw_483 rfl (by decide +kernel) h dX1_forgetReckoned_7 (fun g H locs hw h => ?_)
  exact zr_vret hF hr hw h dX1_forgetReckoned_10
set_option maxHeartbeats 4000000 in
set_option maxRecDepth 100000 in
theorem czX1_reckon (l : Launch) (X : zC) (N : zN) {i0 : Nat} {x1 : Int} {x2 : Int} {g g' : zG} {r : Int} (he0 : zE N 4 i0) (h : sX1_reckon i0 x1 x2 g = some (r, g')) : zM l yX1_reckon cX1_reckon 3 none { frames := 0, cells := 0, slots := 0, locals := 0 } X N g [z_r N 4 i0, z_v x1, z_v x2] (zQv X N g') := by
  refine z_ofW (own := RX1) (by decide +kernel) rfl (Nat.le_of_ble_eq_true rfl) ?_
  intro p e s m args below meth c ls hF hr hw hl
  have hl : lv_has ls 3 [(0, z_r N 4 i0), (1, z_v x1), (2, z_v x2)] := hl
  have hx := hF.1.1
  have hb := hF.1.2.1
  unfold sX1_reckon at h
  generalize s.heap = H at hw ⊢
  generalize ([] : List Loc) = locs at hw ⊢
  refine lv_iload_n hx hb dX1_reckon_0 rfl (lv_at hl 1 rfl) ?_
  refine lv_aload_n hx hb dX1_reckon_1 rfl (lv_at hl 0 rfl) ?_
  refine zr_get hF hw he0 (by decide) zC_4 12 (by decide) qw_481 rfl dX1_reckon_2 ?_
  refine zr_icmp_le (tgt := 18) hF h dX1_reckon_5 (by decide) (fun h => ?_) (fun h => ?_)
  · exact zr_vret hF hr hw h dX1_reckon_18
  · refine lv_aload_n hx hb dX1_reckon_8 rfl (lv_at hl 0 rfl) ?_
    refine lv_iload_n hx hb dX1_reckon_9 rfl (lv_at hl 1 rfl) ?_
    refine zr_put hF hw he0 (by decide) zC_4 12 (by decide) (by decide) qw_481 rfl (by decide +kernel) h dX1_reckon_10 (fun g H locs hw h => ?_)
    refine lv_aload_n hx hb dX1_reckon_13 rfl (lv_at hl 0 rfl) ?_
    refine lv_iload_n hx hb dX1_reckon_14 rfl (lv_at hl 2 rfl) ?_
    refine zr_put hF hw he0 (by decide) zC_4 13 (by decide) (by decide) qw_483 rfl (by decide +kernel) h dX1_reckon_15 (fun g H locs hw h => ?_)
    exact zr_vret hF hr hw h dX1_reckon_18
set_option maxHeartbeats 4000000 in
set_option maxRecDepth 100000 in
theorem wX1_takeReckoned_j50 {p : Program} {l : Launch} {e : Env} {s : State} {m : MethodId} {args : Array Value} {below : List Frame} {meth : Method} {c : Code} {X : zC} {N : zN} {r : Int} {g' : zG} {H : Heap} {locs : List Loc} {ls : Array Slot} (hF : zF p s m args meth c X cX1_takeReckoned 3 RX1) (hr : meth.sig.returnType = none) {i0 : Nat} {x2 : Int} {g : zG} (he0 : zE N 4 i0) (hw : zH X N g s H locs) (hl : lv_has ls 3 [(0, z_r N 4 i0), (2, z_v x2)]) (h : sX1_takeReckoned_j50 i0 x2 g = some (r, g')) : W p l e { frames := 1, cells := 0, slots := 0, locals := 20 } s m args below meth c H locs 0 0 (MQ below (zQv X N g') args s 0 0 (zA X)) (F0 m 50 ls []) := by
  have hx := hF.1.1
  have hb := hF.1.2.1
  unfold sX1_takeReckoned_j50 at h
  refine lv_aload_n hx hb dX1_takeReckoned_50 rfl (lv_at hl 0 rfl) ?_
  refine lv_iload_n hx hb dX1_takeReckoned_51 rfl (lv_at hl 1 rfl) ?_
  refine zr_put hF hw he0 (by decide) zC_4 4 (by decide) (by decide) qw_469 rfl (by decide +kernel) h dX1_takeReckoned_52 (fun g H locs hw h => ?_)
  refine lv_aload_n hx hb dX1_takeReckoned_55 rfl (lv_at hl 0 rfl) ?_
  refine lv_aload_n hx hb dX1_takeReckoned_56 rfl (lv_at hl 0 rfl) ?_
  refine zr_get hF hw he0 (by decide) zC_4 13 (by decide) qw_483 rfl dX1_takeReckoned_57 ?_
  refine zr_put hF hw he0 (by decide) zC_4 5 (by decide) (by decide) qw_471 rfl (by decide +kernel) h dX1_takeReckoned_60 (fun g H locs hw h => ?_)
  exact zr_vret hF hr hw h dX1_takeReckoned_63
set_option maxHeartbeats 4000000 in
set_option maxRecDepth 100000 in
theorem czX1_takeReckoned (l : Launch) (X : zC) (N : zN) {i0 : Nat} {x1 : Int} {g g' : zG} {r : Int} (he0 : zE N 4 i0) (h : sX1_takeReckoned i0 x1 g = some (r, g')) : zM l yX1_takeReckoned cX1_takeReckoned 3 none { frames := 1, cells := 0, slots := 0, locals := 20 } X N g [z_r N 4 i0, z_v x1] (zQv X N g') := by
  refine z_ofW (own := RX1) (by decide +kernel) rfl (Nat.le_of_ble_eq_true rfl) ?_
  intro p e s m args below meth c ls hF hr hw hl
  have hl : lv_has ls 3 [(0, z_r N 4 i0), (1, z_v x1)] := hl
  have hx := hF.1.1
  have hb := hF.1.2.1
  unfold sX1_takeReckoned at h
  generalize s.heap = H at hw ⊢
  generalize ([] : List Loc) = locs at hw ⊢
  refine lv_aload_n hx hb dX1_takeReckoned_0 rfl (lv_at hl 0 rfl) ?_
  obtain ⟨r1, g1, h1, h⟩ := zbd_some h
  refine zr_callVi (n := 0) (As := []) (rest := []) hF hw (czX1_isListed l X N he0 h1) he0 (by decide) zC_4 (z_goodV qw_393 qw_333 qw_334 qw_30 qw_335) (by decide +kernel) ⟨Nat.le_of_ble_eq_true rfl, Nat.le_of_ble_eq_true rfl⟩ ⟨rfl, rfl⟩ rfl hl.1 rfl (Nat.le_of_ble_eq_true rfl) dX1_takeReckoned_1 ⟨Nat.le_of_ble_eq_true rfl, Nat.le_of_ble_eq_true rfl⟩ (fun H locs hw => ?_)
  clear h1
  generalize g1 = g at *
  refine zr_if_ne (tgt := 8) hF h dX1_takeReckoned_4 (by decide) (fun h => ?_) (fun h => ?_)
  · refine lv_aload_n hx hb dX1_takeReckoned_8 rfl (lv_at hl 0 rfl) ?_
    refine zr_get hF hw he0 (by decide) zC_4 12 (by decide) qw_481 rfl dX1_takeReckoned_9 ?_
    refine zr_if_ne (tgt := 20) hF h dX1_takeReckoned_12 (by decide) (fun h => ?_) (fun h => ?_)
    · refine lv_aload_n hx hb dX1_takeReckoned_20 rfl (lv_at hl 0 rfl) ?_
      refine zr_get hF hw he0 (by decide) zC_4 1 (by decide) qw_463 rfl dX1_takeReckoned_21 ?_
      refine lv_aload_n hx hb dX1_takeReckoned_24 rfl (lv_at hl 0 rfl) ?_
      refine zr_get hF hw he0 (by decide) zC_4 12 (by decide) qw_481 rfl dX1_takeReckoned_25 ?_
      refine zr_iadd hF dX1_takeReckoned_28 ?_
      refine zr_let h (fun v2 h => ?_)
      refine lv_istore_n (lv' := [(2, z_v v2), (0, z_r N 4 i0), (1, z_v x1)]) hx hb dX1_takeReckoned_29 rfl hl (by decide) rfl (fun ls hl => ?_)
      refine lv_iload_n hx hb dX1_takeReckoned_30 rfl (lv_at hl 2 rfl) ?_
      refine zr_if_ne (tgt := 50) hF h dX1_takeReckoned_31 (by decide) (fun h => ?_) (fun h => ?_)
      · exact wX1_takeReckoned_j50 hF hr he0 hw (lv_sub hl [1, 0] rfl) h
      · refine lv_aload_n hx hb dX1_takeReckoned_34 rfl (lv_at hl 1 rfl) ?_
        refine zr_get hF hw he0 (by decide) zC_4 4 (by decide) qw_469 rfl dX1_takeReckoned_35 ?_
        refine lv_iconst hx hb dX1_takeReckoned_38 rfl ?_
        refine zr_icmp_eq (tgt := 50) hF h dX1_takeReckoned_39 (by decide) (fun h => ?_) (fun h => ?_)
        · exact wX1_takeReckoned_j50 hF hr he0 hw (lv_sub hl [1, 0] rfl) h
        · refine lv_iload_n hx hb dX1_takeReckoned_42 rfl (lv_at hl 0 rfl) ?_
          refine lv_aload_n hx hb dX1_takeReckoned_43 rfl (lv_at hl 1 rfl) ?_
          refine zr_get hF hw he0 (by decide) zC_4 4 (by decide) qw_469 rfl dX1_takeReckoned_44 ?_
          refine zr_icmp_gt (tgt := 63) hF h dX1_takeReckoned_47 (by decide) (fun h => ?_) (fun h => ?_)
          · exact zr_vret hF hr hw h dX1_takeReckoned_63
          · exact wX1_takeReckoned_j50 hF hr he0 hw (lv_sub hl [1, 0] rfl) h
    · refine lv_aload_n hx hb dX1_takeReckoned_15 rfl (lv_at hl 0 rfl) ?_
      obtain ⟨r3, g1, h1, h⟩ := zbd_some h
      refine zr_callVv (n := 0) (As := []) (rest := []) hF hw (czX1_loseSlotTime l X N he0 h1) he0 (by decide) zC_4 (z_goodV qw_394 qw_395 qw_396 qw_30 qw_397) (by decide +kernel) ⟨Nat.le_of_ble_eq_true rfl, Nat.le_of_ble_eq_true rfl⟩ ⟨rfl, rfl⟩ rfl hl.1 rfl (Nat.le_of_ble_eq_true rfl) dX1_takeReckoned_16 ⟨Nat.le_of_ble_eq_true rfl, Nat.le_of_ble_eq_true rfl⟩ (fun H locs hw => ?_)
      clear h1
      generalize g1 = g at *
      exact zr_vret hF hr hw h dX1_takeReckoned_19
  · exact zr_vret hF hr hw h dX1_takeReckoned_7
set_option maxHeartbeats 4000000 in
set_option maxRecDepth 100000 in
theorem czX1_sharesRuling (l : Launch) (X : zC) (N : zN) {i0 : Nat} {i1 : Nat} {g g' : zG} {r : Int} (he0 : zE N 4 i0) (he1 : zE N 4 i1) (h : sX1_sharesRuling i0 i1 g = some (r, g')) : zM l yX1_sharesRuling cX1_sharesRuling 2 (some .boolean) { frames := 0, cells := 0, slots := 0, locals := 0 } X N g [z_r N 4 i0, z_r N 4 i1] (zQi X N r g') := by
  refine z_ofW (own := RX1) (by decide +kernel) rfl (Nat.le_of_ble_eq_true rfl) ?_
  intro p e s m args below meth c ls hF hr hw hl
  have hl : lv_has ls 2 [(0, z_r N 4 i0), (1, z_r N 4 i1)] := hl
  have hx := hF.1.1
  have hb := hF.1.2.1
  unfold sX1_sharesRuling at h
  generalize s.heap = H at hw ⊢
  generalize ([] : List Loc) = locs at hw ⊢
  refine lv_aload_n hx hb dX1_sharesRuling_0 rfl (lv_at hl 0 rfl) ?_
  refine zr_get hF hw he0 (by decide) zC_4 2 (by decide) qw_465 rfl dX1_sharesRuling_1 ?_
  refine zr_if_ne (tgt := 56) hF h dX1_sharesRuling_4 (by decide) (fun h => ?_) (fun h => ?_)
  · refine lv_iconst hx hb dX1_sharesRuling_56 rfl ?_
    exact zr_zret hF hr hw h dX1_sharesRuling_57
  · refine lv_aload_n hx hb dX1_sharesRuling_7 rfl (lv_at hl 1 rfl) ?_
    refine zr_get hF hw he1 (by decide) zC_4 2 (by decide) qw_465 rfl dX1_sharesRuling_8 ?_
    refine zr_if_ne (tgt := 56) hF h dX1_sharesRuling_11 (by decide) (fun h => ?_) (fun h => ?_)
    · refine lv_iconst hx hb dX1_sharesRuling_56 rfl ?_
      exact zr_zret hF hr hw h dX1_sharesRuling_57
    · refine lv_aload_n hx hb dX1_sharesRuling_14 rfl (lv_at hl 0 rfl) ?_
      refine zr_get hF hw he0 (by decide) zC_4 0 (by decide) qw_461 rfl dX1_sharesRuling_15 ?_
      refine lv_aload_n hx hb dX1_sharesRuling_18 rfl (lv_at hl 1 rfl) ?_
      refine zr_get hF hw he1 (by decide) zC_4 0 (by decide) qw_461 rfl dX1_sharesRuling_19 ?_
      refine zr_icmp_ne (tgt := 56) hF h dX1_sharesRuling_22 (by decide) (fun h => ?_) (fun h => ?_)
      · refine lv_iconst hx hb dX1_sharesRuling_56 rfl ?_
        exact zr_zret hF hr hw h dX1_sharesRuling_57
      · refine lv_aload_n hx hb dX1_sharesRuling_25 rfl (lv_at hl 0 rfl) ?_
        refine zr_get hF hw he0 (by decide) zC_4 4 (by decide) qw_469 rfl dX1_sharesRuling_26 ?_
        refine lv_iconst hx hb dX1_sharesRuling_29 rfl ?_
        refine zr_icmp_eq (tgt := 56) hF h dX1_sharesRuling_30 (by decide) (fun h => ?_) (fun h => ?_)
        · refine lv_iconst hx hb dX1_sharesRuling_56 rfl ?_
          exact zr_zret hF hr hw h dX1_sharesRuling_57
        · refine lv_aload_n hx hb dX1_sharesRuling_33 rfl (lv_at hl 1 rfl) ?_
          refine zr_get hF hw he1 (by decide) zC_4 4 (by decide) qw_469 rfl dX1_sharesRuling_34 ?_
          refine lv_iconst hx hb dX1_sharesRuling_37 rfl ?_
          refine zr_icmp_eq (tgt := 56) hF h dX1_sharesRuling_38 (by decide) (fun h => ?_) (fun h => ?_)
          · refine lv_iconst hx hb dX1_sharesRuling_56 rfl ?_
            exact zr_zret hF hr hw h dX1_sharesRuling_57
          · refine lv_aload_n hx hb dX1_sharesRuling_41 rfl (lv_at hl 0 rfl) ?_
            refine zr_get hF hw he0 (by decide) zC_4 5 (by decide) qw_471 rfl dX1_sharesRuling_42 ?_
            refine lv_aload_n hx hb dX1_sharesRuling_45 rfl (lv_at hl 1 rfl) ?_
            refine zr_get hF hw he1 (by decide) zC_4 5 (by decide) qw_471 rfl dX1_sharesRuling_46 ?_
            refine zr_icmp_ne (tgt := 56) hF h dX1_sharesRuling_49 (by decide) (fun h => ?_) (fun h => ?_)
            · refine lv_iconst hx hb dX1_sharesRuling_56 rfl ?_
              exact zr_zret hF hr hw h dX1_sharesRuling_57
            · refine lv_iconst hx hb dX1_sharesRuling_52 rfl ?_
              refine lv_goto (tgt := 57) hx hb dX1_sharesRuling_53 (by decide) ?_
              exact zr_zret hF hr hw h dX1_sharesRuling_57
set_option maxHeartbeats 4000000 in
set_option maxRecDepth 100000 in
theorem czX1_follow (l : Launch) (X : zC) (N : zN) {i0 : Nat} {x1 : Int} {x2 : Int} {g g' : zG} {r : Int} (he0 : zE N 4 i0) (h : sX1_follow i0 x1 x2 g = some (r, g')) : zM l yX1_follow cX1_follow 3 none { frames := 1, cells := 0, slots := 0, locals := 20 } X N g [z_r N 4 i0, z_v x1, z_v x2] (zQv X N g') := by
  refine z_ofW (own := RX1) (by decide +kernel) rfl (Nat.le_of_ble_eq_true rfl) ?_
  intro p e s m args below meth c ls hF hr hw hl
  have hl : lv_has ls 3 [(0, z_r N 4 i0), (1, z_v x1), (2, z_v x2)] := hl
  have hx := hF.1.1
  have hb := hF.1.2.1
  unfold sX1_follow at h
  generalize s.heap = H at hw ⊢
  generalize ([] : List Loc) = locs at hw ⊢
  refine lv_iload_n hx hb dX1_follow_0 rfl (lv_at hl 1 rfl) ?_
  refine zr_if_ne (tgt := 24) hF h dX1_follow_1 (by decide) (fun h => ?_) (fun h => ?_)
  · refine lv_iload_n hx hb dX1_follow_24 rfl (lv_at hl 1 rfl) ?_
    refine lv_iconst hx hb dX1_follow_25 rfl ?_
    refine zr_icmp_ne (tgt := 37) hF h dX1_follow_26 (by decide) (fun h => ?_) (fun h => ?_)
    · refine lv_aload_n hx hb dX1_follow_37 rfl (lv_at hl 0 rfl) ?_
      refine lv_iconst hx hb dX1_follow_38 rfl ?_
      refine zr_put hF hw he0 (by decide) zC_4 2 (by decide) (by decide) qw_465 rfl (by decide +kernel) h dX1_follow_39 (fun g H locs hw h => ?_)
      refine lv_aload_n hx hb dX1_follow_42 rfl (lv_at hl 0 rfl) ?_
      refine lv_iload_n hx hb dX1_follow_43 rfl (lv_at hl 2 rfl) ?_
      refine zr_put hF hw he0 (by decide) zC_4 6 (by decide) (by decide) qw_473 rfl (by decide +kernel) h dX1_follow_44 (fun g H locs hw h => ?_)
      exact zr_vret hF hr hw h dX1_follow_47
    · refine lv_aload_n hx hb dX1_follow_29 rfl (lv_at hl 0 rfl) ?_
      refine lv_iconst hx hb dX1_follow_30 rfl ?_
      refine zr_put hF hw he0 (by decide) zC_4 2 (by decide) (by decide) qw_465 rfl (by decide +kernel) h dX1_follow_31 (fun g H locs hw h => ?_)
      refine lv_goto (tgt := 47) hx hb dX1_follow_34 (by decide) ?_
      exact zr_vret hF hr hw h dX1_follow_47
  · refine lv_aload_n hx hb dX1_follow_4 rfl (lv_at hl 0 rfl) ?_
    refine lv_iload_n hx hb dX1_follow_5 rfl (lv_at hl 2 rfl) ?_
    refine zr_put hF hw he0 (by decide) zC_4 1 (by decide) (by decide) qw_463 rfl (by decide +kernel) h dX1_follow_6 (fun g H locs hw h => ?_)
    refine lv_aload_n hx hb dX1_follow_9 rfl (lv_at hl 0 rfl) ?_
    refine zr_get hF hw he0 (by decide) zC_4 4 (by decide) qw_469 rfl dX1_follow_10 ?_
    refine lv_iload_n hx hb dX1_follow_13 rfl (lv_at hl 2 rfl) ?_
    refine zr_icmp_ge (tgt := 47) hF h dX1_follow_14 (by decide) (fun h => ?_) (fun h => ?_)
    · exact zr_vret hF hr hw h dX1_follow_47
    · refine lv_aload_n hx hb dX1_follow_17 rfl (lv_at hl 0 rfl) ?_
      obtain ⟨r1, g1, h1, h⟩ := zbd_some h
      refine zr_callVv (n := 0) (As := []) (rest := []) hF hw (czX1_loseSlotTime l X N he0 h1) he0 (by decide) zC_4 (z_goodV qw_394 qw_395 qw_396 qw_30 qw_397) (by decide +kernel) ⟨Nat.le_of_ble_eq_true rfl, Nat.le_of_ble_eq_true rfl⟩ ⟨rfl, rfl⟩ rfl hl.1 rfl (Nat.le_of_ble_eq_true rfl) dX1_follow_18 ⟨Nat.le_of_ble_eq_true rfl, Nat.le_of_ble_eq_true rfl⟩ (fun H locs hw => ?_)
      clear h1
      generalize g1 = g at *
      refine lv_goto (tgt := 47) hx hb dX1_follow_21 (by decide) ?_
      exact zr_vret hF hr hw h dX1_follow_47

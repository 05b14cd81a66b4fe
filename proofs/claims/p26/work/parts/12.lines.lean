/-! lines and regulations, over the machine -/
def sX2_clear (i0 : Nat) (g : zG) : Option (Int × zG) := zst g 3 i0 4 0 (fun g => some (0, g))
def sX2_add_j65 (n : Nat) (K : Nat → Nat → Int → Int → Int → zG → Option (Int × zG)) (i0 : Nat) (x1 : Int) (x2 : Int) (x3 : Int) (g : zG) : Option (Int × zG) := zix x3 24 (zst g 10 i0 (x3).toNat x1 (fun g => zix x3 24 (zst g 11 i0 (x3).toNat x2 (fun g => zix (g 3 i0 4) 24 (zst g 12 i0 (g 3 i0 4).toNat (-1) (fun g => zix (g 3 i0 4) 24 (zst g 13 i0 (g 3 i0 4).toNat (-1) (fun g => zst g 3 i0 4 ((g 3 i0 4) + 1) (fun g => some (0, g))))))))))
def sX2_add_h15 (n : Nat) (K : Nat → Nat → Int → Int → Int → zG → Option (Int × zG)) (i0 : Nat) (x1 : Int) (x2 : Int) (x3 : Int) (g : zG) : Option (Int × zG) := zle x3 0 ((sX2_add_j65 n K i0 x1 x2 x3 g)) (zix (x3 - 1) 24 (zle (g 11 i0 (x3 - 1).toNat) x2 ((sX2_add_j65 n K i0 x1 x2 x3 g)) (zix (x3 - 1) 24 (zix x3 24 (zst g 10 i0 (x3).toNat (g 10 i0 (x3 - 1).toNat) (fun g => zix (x3 - 1) 24 (zix x3 24 (zst g 11 i0 (x3).toNat (g 11 i0 (x3 - 1).toNat) (fun g => zlet (x3 + (-1)) (fun v1 => (K 0 i0 x1 x2 v1 g)))))))))))
def sX2_add_run (n0 : Nat) : Nat → Nat → Nat → Int → Int → Int → zG → Option (Int × zG)
  | 0, _, _, _, _, _, _ => none
  | n + 1, 0, i0, x1, x2, x3, g => sX2_add_h15 n0 (sX2_add_run n0 n) i0 x1 x2 x3 g
  | _ + 1, _, _, _, _, _, _ => none
def sX2_add (n : Nat) (i0 : Nat) (x1 : Int) (x2 : Int) (g : zG) : Option (Int × zG) := zlt (g 3 i0 4) 24 (zlet (g 3 i0 4) (fun v1 => (sX2_add_run n n 0 i0 x1 x2 v1 g))) (some (0, g))
def sX2_has (i0 : Nat) (x1 : Int) (g : zG) : Option (Int × zG) := zlt x1 0 (zbo 0 (some (0, g))) (zlt x1 (g 3 i0 4) (zlt x1 24 (zbo 1 (some (1, g))) (zbo 0 (some (0, g)))) (zbo 0 (some (0, g))))
def sX2_timeAt (i0 : Nat) (x1 : Int) (g : zG) : Option (Int × zG) := zbd (sX2_has i0 x1 g) (fun r1 g => zeq r1 0 (some ((-1), g)) (zix x1 24 (some (g 11 i0 (x1).toNat, g))))
def sX2_give (i0 : Nat) (x1 : Int) (x2 : Int) (x3 : Int) (g : zG) : Option (Int × zG) := zbd (sX2_has i0 x1 g) (fun r1 g => zeq r1 0 (some (0, g)) (zix x1 24 (zst g 12 i0 (x1).toNat x2 (fun g => zix x1 24 (zst g 13 i0 (x1).toNat x3 (fun g => some (0, g)))))))
def sX2_hasGiven_h2 (n : Nat) (K : Nat → Nat → Int → Int → zG → Option (Int × zG)) (i0 : Nat) (x1 : Int) (x2 : Int) (g : zG) : Option (Int × zG) := zlt x2 (g 3 i0 4) (zlt x2 24 (zix x2 24 (zeq (g 12 i0 (x2).toNat) x1 (zbo 1 (some (1, g))) (zlet (x2 + 1) (fun v1 => (K 0 i0 x1 v1 g))))) (zbo 0 (some (0, g)))) (zbo 0 (some (0, g)))
def sX2_hasGiven_run (n0 : Nat) : Nat → Nat → Nat → Int → Int → zG → Option (Int × zG)
  | 0, _, _, _, _, _ => none
  | n + 1, 0, i0, x1, x2, g => sX2_hasGiven_h2 n0 (sX2_hasGiven_run n0 n) i0 x1 x2 g
  | _ + 1, _, _, _, _, _ => none
def sX2_hasGiven (n : Nat) (i0 : Nat) (x1 : Int) (g : zG) : Option (Int × zG) := (sX2_hasGiven_run n n 0 i0 x1 0 g)
def sX2_placeOf_h2 (n : Nat) (K : Nat → Nat → Int → Int → zG → Option (Int × zG)) (i0 : Nat) (x1 : Int) (x2 : Int) (g : zG) : Option (Int × zG) := zlt x2 (g 3 i0 4) (zlt x2 24 (zix x2 24 (zeq (g 10 i0 (x2).toNat) x1 (some (x2, g)) (zlet (x2 + 1) (fun v1 => (K 0 i0 x1 v1 g))))) (some ((-1), g))) (some ((-1), g))
def sX2_placeOf_run (n0 : Nat) : Nat → Nat → Nat → Int → Int → zG → Option (Int × zG)
  | 0, _, _, _, _, _ => none
  | n + 1, 0, i0, x1, x2, g => sX2_placeOf_h2 n0 (sX2_placeOf_run n0 n) i0 x1 x2 g
  | _ + 1, _, _, _, _, _ => none
def sX2_placeOf (n : Nat) (i0 : Nat) (x1 : Int) (g : zG) : Option (Int × zG) := (sX2_placeOf_run n n 0 i0 x1 0 g)
def sX2_penaltyOf (n : Nat) (i0 : Nat) (x1 : Int) (g : zG) : Option (Int × zG) := zbd (sX2_placeOf n i0 x1 g) (fun r1 g => zbd (sX2_has i0 r1 g) (fun r2 g => zeq r2 0 (some ((-1), g)) (zix r1 24 (zix r1 24 (some ((g 13 i0 (r1).toNat) - (g 11 i0 (r1).toNat), g))))))
def sX2_countAheadOf_h2 (n : Nat) (K : Nat → Nat → Int → Int → zG → Option (Int × zG)) (i0 : Nat) (x1 : Int) (x3 : Int) (g : zG) : Option (Int × zG) := zlt x3 (g 3 i0 4) (zbd (sX2_timeAt i0 x3 g) (fun r1 g => zlt r1 x1 (zlet (x3 + 1) (fun v2 => (K 0 i0 x1 v2 g))) (some (x3, g)))) (some (x3, g))
def sX2_countAheadOf_run (n0 : Nat) : Nat → Nat → Nat → Int → Int → zG → Option (Int × zG)
  | 0, _, _, _, _, _ => none
  | n + 1, 0, i0, x1, x3, g => sX2_countAheadOf_h2 n0 (sX2_countAheadOf_run n0 n) i0 x1 x3 g
  | _ + 1, _, _, _, _, _ => none
def sX2_countAheadOf (n : Nat) (i0 : Nat) (x1 : Int) (x2 : Int) (g : zG) : Option (Int × zG) := (sX2_countAheadOf_run n n 0 i0 x1 x2 g)
def sX2_canTake (i0 : Nat) (x1 : Int) (x2 : Int) (g : zG) : Option (Int × zG) := zbd (sX2_has i0 x1 g) (fun r1 g => zeq r1 0 (zbo 0 (some (0, g))) (zix x1 24 (zlt (g 11 i0 (x1).toNat) x2 (zbo 1 (some (1, g))) (zbo 0 (some (0, g))))))
def sX3_holdsAt (i0 : Nat) (x1 : Int) (g : zG) : Option (Int × zG) := zlt x1 (g 5 i0 1) (zbo 0 (some (0, g))) (zlt x1 (g 5 i0 2) (zbo 1 (some (1, g))) (zbo 0 (some (0, g))))
def sX3_slotCount (i0 : Nat) (g : zG) : Option (Int × zG) := zeq (g 5 i0 4) 0 (zdv (((((g 5 i0 2) - (g 5 i0 1)) * (g 5 i0 3)) + 60) - 1) 60 (some ((((((g 5 i0 2) - (g 5 i0 1)) * (g 5 i0 3)) + 60) - 1).tdiv 60, g))) (some (0, g))
def sX3_slotBegin (i0 : Nat) (x1 : Int) (g : zG) : Option (Int × zG) := zle (g 5 i0 3) 0 (some (g 5 i0 2, g)) (zdv (60 * x1) (g 5 i0 3) (some ((g 5 i0 1) + ((60 * x1).tdiv (g 5 i0 3)), g)))
def sX3_slotEnd (i0 : Nat) (x1 : Int) (g : zG) : Option (Int × zG) := zbd (sX3_slotBegin i0 (x1 + 1) g) (fun r1 g => zri r1 (zri (g 5 i0 2) (some (min r1 (g 5 i0 2), g))))
set_option maxHeartbeats 4000000 in
set_option maxRecDepth 100000 in
theorem czX2_clear (l : Launch) (X : zC) (N : zN) {i0 : Nat} {g g' : zG} {r : Int} (he0 : zE N 3 i0) (h : sX2_clear i0 g = some (r, g')) : zM l yX2_clear cX2_clear 1 none { frames := 0, cells := 0, slots := 0, locals := 0 } X N g [z_r N 3 i0] (zQv X N g') := by
  refine z_ofW (own := RX2) (by decide +kernel) rfl (Nat.le_of_ble_eq_true rfl) ?_
  intro p e s m args below meth c ls hF hr hw hl
  have hl : lv_has ls 1 [(0, z_r N 3 i0)] := hl
  have hx := hF.1.1
  have hb := hF.1.2.1
  unfold sX2_clear at h
  generalize s.heap = H at hw ⊢
  generalize ([] : List Loc) = locs at hw ⊢
  refine lv_aload_n hx hb dX2_clear_0 rfl (lv_at hl 0 rfl) ?_
  refine lv_iconst hx hb dX2_clear_1 rfl ?_
  refine zr_put hF hw he0 (by decide) zC_3 4 (by decide) (by decide) qw_85 rfl (by decide +kernel) h dX2_clear_2 (fun g H locs hw h => ?_)
  exact zr_vret hF hr hw h dX2_clear_5
set_option maxHeartbeats 4000000 in
set_option maxRecDepth 100000 in
theorem wX2_add_j65 {p : Program} {l : Launch} {e : Env} {s : State} {m : MethodId} {args : Array Value} {below : List Frame} {meth : Method} {c : Code} {X : zC} {N : zN} {r : Int} {g' : zG} {H : Heap} {locs : List Loc} {ls : Array Slot} (hF : zF p s m args meth c X cX2_add 4 RX2) (hr : meth.sig.returnType = none) {n : Nat} {K : Nat → Nat → Int → Int → Int → zG → Option (Int × zG)} (hK0 : ∀ (i0 : Nat) (x1 : Int) (x2 : Int) (x3 : Int) (g : zG) (H : Heap) (locs : List Loc) (ls : Array Slot), zE N 3 i0 → zH X N g s H locs → lv_has ls 4 [(0, z_r N 3 i0), (1, z_v x1), (2, z_v x2), (3, z_v x3)] → K 0 i0 x1 x2 x3 g = some (r, g') → W p l e { frames := 0, cells := 0, slots := 0, locals := 0 } s m args below meth c H locs 0 0 (MQ below (zQv X N g') args s 0 0 (zA X)) (F0 m 15 ls [])) {i0 : Nat} {x1 : Int} {x2 : Int} {x3 : Int} {g : zG} (he0 : zE N 3 i0) (hw : zH X N g s H locs) (hl : lv_has ls 4 [(0, z_r N 3 i0), (1, z_v x1), (2, z_v x2), (3, z_v x3)]) (h : sX2_add_j65 n K i0 x1 x2 x3 g = some (r, g')) : W p l e { frames := 0, cells := 0, slots := 0, locals := 0 } s m args below meth c H locs 0 0 (MQ below (zQv X N g') args s 0 0 (zA X)) (F0 m 65 ls []) := by
  have hx := hF.1.1
  have hb := hF.1.2.1
  unfold sX2_add_j65 at h
  refine lv_aload_n hx hb dX2_add_65 rfl (lv_at hl 0 rfl) ?_
  refine zr_get hF hw he0 (by decide) zC_3 0 (by decide) qw_81 rfl dX2_add_66 ?_
  refine lv_iload_n hx hb dX2_add_69 rfl (lv_at hl 3 rfl) ?_
  refine lv_iload_n hx hb dX2_add_70 rfl (lv_at hl 1 rfl) ?_
  refine zr_iast hF hw (zE_ln he0).1 (by decide) h dX2_add_71 (fun g H locs hw h => ?_)
  refine lv_aload_n hx hb dX2_add_72 rfl (lv_at hl 0 rfl) ?_
  refine zr_get hF hw he0 (by decide) zC_3 1 (by decide) qw_82 rfl dX2_add_73 ?_
  refine lv_iload_n hx hb dX2_add_76 rfl (lv_at hl 3 rfl) ?_
  refine lv_iload_n hx hb dX2_add_77 rfl (lv_at hl 2 rfl) ?_
  refine zr_iast hF hw (zE_ln he0).2.1 (by decide) h dX2_add_78 (fun g H locs hw h => ?_)
  refine lv_aload_n hx hb dX2_add_79 rfl (lv_at hl 0 rfl) ?_
  refine zr_get hF hw he0 (by decide) zC_3 2 (by decide) qw_83 rfl dX2_add_80 ?_
  refine lv_aload_n hx hb dX2_add_83 rfl (lv_at hl 0 rfl) ?_
  refine zr_get hF hw he0 (by decide) zC_3 4 (by decide) qw_85 rfl dX2_add_84 ?_
  refine lv_iconst hx hb dX2_add_87 rfl ?_
  refine zr_iast hF hw (zE_ln he0).2.2.1 (by decide) h dX2_add_88 (fun g H locs hw h => ?_)
  refine lv_aload_n hx hb dX2_add_89 rfl (lv_at hl 0 rfl) ?_
  refine zr_get hF hw he0 (by decide) zC_3 3 (by decide) qw_84 rfl dX2_add_90 ?_
  refine lv_aload_n hx hb dX2_add_93 rfl (lv_at hl 0 rfl) ?_
  refine zr_get hF hw he0 (by decide) zC_3 4 (by decide) qw_85 rfl dX2_add_94 ?_
  refine lv_iconst hx hb dX2_add_97 rfl ?_
  refine zr_iast hF hw (zE_ln he0).2.2.2 (by decide) h dX2_add_98 (fun g H locs hw h => ?_)
  refine lv_aload_n hx hb dX2_add_99 rfl (lv_at hl 0 rfl) ?_
  refine lv_dup hx hb dX2_add_100 rfl ?_
  refine zr_get hF hw he0 (by decide) zC_3 4 (by decide) qw_85 rfl dX2_add_101 ?_
  refine lv_iconst hx hb dX2_add_104 rfl ?_
  refine zr_iadd hF dX2_add_105 ?_
  refine zr_put hF hw he0 (by decide) zC_3 4 (by decide) (by decide) qw_85 rfl (by decide +kernel) h dX2_add_106 (fun g H locs hw h => ?_)
  exact zr_vret hF hr hw h dX2_add_109
set_option maxHeartbeats 4000000 in
set_option maxRecDepth 100000 in
theorem wX2_add_h15 {p : Program} {l : Launch} {e : Env} {s : State} {m : MethodId} {args : Array Value} {below : List Frame} {meth : Method} {c : Code} {X : zC} {N : zN} {r : Int} {g' : zG} {H : Heap} {locs : List Loc} {ls : Array Slot} (hF : zF p s m args meth c X cX2_add 4 RX2) (hr : meth.sig.returnType = none) {n : Nat} {K : Nat → Nat → Int → Int → Int → zG → Option (Int × zG)} (hK0 : ∀ (i0 : Nat) (x1 : Int) (x2 : Int) (x3 : Int) (g : zG) (H : Heap) (locs : List Loc) (ls : Array Slot), zE N 3 i0 → zH X N g s H locs → lv_has ls 4 [(0, z_r N 3 i0), (1, z_v x1), (2, z_v x2), (3, z_v x3)] → K 0 i0 x1 x2 x3 g = some (r, g') → W p l e { frames := 0, cells := 0, slots := 0, locals := 0 } s m args below meth c H locs 0 0 (MQ below (zQv X N g') args s 0 0 (zA X)) (F0 m 15 ls [])) {i0 : Nat} {x1 : Int} {x2 : Int} {x3 : Int} {g : zG} (he0 : zE N 3 i0) (hw : zH X N g s H locs) (hl : lv_has ls 4 [(0, z_r N 3 i0), (1, z_v x1), (2, z_v x2), (3, z_v x3)]) (h : sX2_add_h15 n K i0 x1 x2 x3 g = some (r, g')) : W p l e { frames := 0, cells := 0, slots := 0, locals := 0 } s m args below meth c H locs 0 0 (MQ below (zQv X N g') args s 0 0 (zA X)) (F0 m 15 ls []) := by
  have hx := hF.1.1
  have hb := hF.1.2.1
  unfold sX2_add_h15 at h
  refine lv_iload_n hx hb dX2_add_15 rfl (lv_at hl 3 rfl) ?_
  refine zr_if_le (tgt := 65) hF h dX2_add_16 (by decide) (fun h => ?_) (fun h => ?_)
  · exact wX2_add_j65 hF hr hK0 he0 hw (lv_sub hl [0, 1, 2, 3] rfl) h
  · refine lv_aload_n hx hb dX2_add_19 rfl (lv_at hl 0 rfl) ?_
    refine zr_get hF hw he0 (by decide) zC_3 1 (by decide) qw_82 rfl dX2_add_20 ?_
    refine lv_iload_n hx hb dX2_add_23 rfl (lv_at hl 3 rfl) ?_
    refine lv_iconst hx hb dX2_add_24 rfl ?_
    refine zr_isub hF dX2_add_25 ?_
    refine zr_iald hF hw (zE_ln he0).2.1 (by decide) h dX2_add_26 (fun h => ?_)
    refine lv_iload_n hx hb dX2_add_27 rfl (lv_at hl 2 rfl) ?_
    refine zr_icmp_le (tgt := 65) hF h dX2_add_28 (by decide) (fun h => ?_) (fun h => ?_)
    · exact wX2_add_j65 hF hr hK0 he0 hw (lv_sub hl [0, 1, 2, 3] rfl) h
    · refine lv_aload_n hx hb dX2_add_31 rfl (lv_at hl 0 rfl) ?_
      refine zr_get hF hw he0 (by decide) zC_3 0 (by decide) qw_81 rfl dX2_add_32 ?_
      refine lv_iload_n hx hb dX2_add_35 rfl (lv_at hl 3 rfl) ?_
      refine lv_aload_n hx hb dX2_add_36 rfl (lv_at hl 0 rfl) ?_
      refine zr_get hF hw he0 (by decide) zC_3 0 (by decide) qw_81 rfl dX2_add_37 ?_
      refine lv_iload_n hx hb dX2_add_40 rfl (lv_at hl 3 rfl) ?_
      refine lv_iconst hx hb dX2_add_41 rfl ?_
      refine zr_isub hF dX2_add_42 ?_
      refine zr_iald hF hw (zE_ln he0).1 (by decide) h dX2_add_43 (fun h => ?_)
      refine zr_iast hF hw (zE_ln he0).1 (by decide) h dX2_add_44 (fun g H locs hw h => ?_)
      refine lv_aload_n hx hb dX2_add_45 rfl (lv_at hl 0 rfl) ?_
      refine zr_get hF hw he0 (by decide) zC_3 1 (by decide) qw_82 rfl dX2_add_46 ?_
      refine lv_iload_n hx hb dX2_add_49 rfl (lv_at hl 3 rfl) ?_
      refine lv_aload_n hx hb dX2_add_50 rfl (lv_at hl 0 rfl) ?_
      refine zr_get hF hw he0 (by decide) zC_3 1 (by decide) qw_82 rfl dX2_add_51 ?_
      refine lv_iload_n hx hb dX2_add_54 rfl (lv_at hl 3 rfl) ?_
      refine lv_iconst hx hb dX2_add_55 rfl ?_
      refine zr_isub hF dX2_add_56 ?_
      refine zr_iald hF hw (zE_ln he0).2.1 (by decide) h dX2_add_57 (fun h => ?_)
      refine zr_iast hF hw (zE_ln he0).2.1 (by decide) h dX2_add_58 (fun g H locs hw h => ?_)
      refine zr_iinc hF (lv' := fun v1 => [(3, z_v v1), (0, z_r N 3 i0), (1, z_v x1), (2, z_v x2)]) h dX2_add_59 hl (k := 3) rfl (by decide) (fun _ => rfl) (fun v1 ls hl h => ?_)
      refine lv_goto (tgt := 15) hx hb dX2_add_62 (by decide) ?_
      exact hK0 i0 x1 x2 v1 _ _ _ _ he0 hw (lv_sub hl [1, 2, 3, 0] rfl) h
set_option maxHeartbeats 4000000 in
set_option maxRecDepth 100000 in
theorem wX2_add_run {p : Program} {l : Launch} {e : Env} {s : State} {m : MethodId} {args : Array Value} {below : List Frame} {meth : Method} {c : Code} {X : zC} {N : zN} {r : Int} {g' : zG} (hF : zF p s m args meth c X cX2_add 4 RX2) (hr : meth.sig.returnType = none) {n0 : Nat} : ∀ n : Nat, (∀ (i0 : Nat) (x1 : Int) (x2 : Int) (x3 : Int) (g : zG) (H : Heap) (locs : List Loc) (ls : Array Slot), zE N 3 i0 → zH X N g s H locs → lv_has ls 4 [(0, z_r N 3 i0), (1, z_v x1), (2, z_v x2), (3, z_v x3)] → sX2_add_run n0 n 0 i0 x1 x2 x3 g = some (r, g') → W p l e { frames := 0, cells := 0, slots := 0, locals := 0 } s m args below meth c H locs 0 0 (MQ below (zQv X N g') args s 0 0 (zA X)) (F0 m 15 ls [])) := by
  intro n
  induction n with
  | zero => exact fun _ _ _ _ _ _ _ _ _ _ _  h => (by cases h)
  | succ n ih => exact fun i0 x1 x2 x3 g H locs ls he0 hw hl h => wX2_add_h15 hF hr ih he0 hw hl h
set_option maxHeartbeats 4000000 in
set_option maxRecDepth 100000 in
theorem czX2_add (l : Launch) (X : zC) (N : zN) {n : Nat} {i0 : Nat} {x1 : Int} {x2 : Int} {g g' : zG} {r : Int} (he0 : zE N 3 i0) (h : sX2_add n i0 x1 x2 g = some (r, g')) : zM l yX2_add cX2_add 4 none { frames := 0, cells := 0, slots := 0, locals := 0 } X N g [z_r N 3 i0, z_v x1, z_v x2] (zQv X N g') := by
  refine z_ofW (own := RX2) (by decide +kernel) rfl (Nat.le_of_ble_eq_true rfl) ?_
  intro p e s m args below meth c ls hF hr hw hl
  have hl : lv_has ls 4 [(0, z_r N 3 i0), (1, z_v x1), (2, z_v x2)] := hl
  have hx := hF.1.1
  have hb := hF.1.2.1
  have hKK := wX2_add_run hF hr (r := r) (g' := g') (X := X) (N := N) (n0 := n) (l := l) (e := e) (below := below) n
  have hK0 := hKK
  unfold sX2_add at h
  generalize s.heap = H at hw ⊢
  generalize ([] : List Loc) = locs at hw ⊢
  refine lv_aload_n hx hb dX2_add_0 rfl (lv_at hl 0 rfl) ?_
  refine zr_get hF hw he0 (by decide) zC_3 4 (by decide) qw_85 rfl dX2_add_1 ?_
  refine lv_bipush (v := Int32.ofInt (24)) hx hb dX2_add_4 (by decide) ?_
  refine zr_icmp_lt (tgt := 10) hF h dX2_add_6 (by decide) (fun h => ?_) (fun h => ?_)
  · refine lv_aload_n hx hb dX2_add_10 rfl (lv_at hl 0 rfl) ?_
    refine zr_get hF hw he0 (by decide) zC_3 4 (by decide) qw_85 rfl dX2_add_11 ?_
    refine zr_let h (fun v1 h => ?_)
    refine lv_istore_n (lv' := [(3, z_v v1), (0, z_r N 3 i0), (1, z_v x1), (2, z_v x2)]) hx hb dX2_add_14 rfl hl (by decide) rfl (fun ls hl => ?_)
    exact hK0 i0 x1 x2 v1 _ _ _ _ he0 hw (lv_sub hl [1, 2, 3, 0] rfl) h
  · exact zr_vret hF hr hw h dX2_add_9
set_option maxHeartbeats 4000000 in
set_option maxRecDepth 100000 in
theorem czX2_has (l : Launch) (X : zC) (N : zN) {i0 : Nat} {x1 : Int} {g g' : zG} {r : Int} (he0 : zE N 3 i0) (h : sX2_has i0 x1 g = some (r, g')) : zM l yX2_has cX2_has 2 (some .boolean) { frames := 0, cells := 0, slots := 0, locals := 0 } X N g [z_r N 3 i0, z_v x1] (zQi X N r g') := by
  refine z_ofW (own := RX2) (by decide +kernel) rfl (Nat.le_of_ble_eq_true rfl) ?_
  intro p e s m args below meth c ls hF hr hw hl
  have hl : lv_has ls 2 [(0, z_r N 3 i0), (1, z_v x1)] := hl
  have hx := hF.1.1
  have hb := hF.1.2.1
  unfold sX2_has at h
  generalize s.heap = H at hw ⊢
  generalize ([] : List Loc) = locs at hw ⊢
  refine lv_iload_n hx hb dX2_has_0 rfl (lv_at hl 1 rfl) ?_
  refine zr_if_lt (tgt := 22) hF h dX2_has_1 (by decide) (fun h => ?_) (fun h => ?_)
  · refine lv_iconst hx hb dX2_has_22 rfl ?_
    exact zr_zret hF hr hw h dX2_has_23
  · refine lv_iload_n hx hb dX2_has_4 rfl (lv_at hl 1 rfl) ?_
    refine lv_aload_n hx hb dX2_has_5 rfl (lv_at hl 0 rfl) ?_
    refine zr_get hF hw he0 (by decide) zC_3 4 (by decide) qw_85 rfl dX2_has_6 ?_
    refine zr_icmp_ge (tgt := 22) hF h dX2_has_9 (by decide) (fun h => ?_) (fun h => ?_)
    · refine lv_iconst hx hb dX2_has_22 rfl ?_
      exact zr_zret hF hr hw h dX2_has_23
    · refine lv_iload_n hx hb dX2_has_12 rfl (lv_at hl 1 rfl) ?_
      refine lv_bipush (v := Int32.ofInt (24)) hx hb dX2_has_13 (by decide) ?_
      refine zr_icmp_ge (tgt := 22) hF h dX2_has_15 (by decide) (fun h => ?_) (fun h => ?_)
      · refine lv_iconst hx hb dX2_has_22 rfl ?_
        exact zr_zret hF hr hw h dX2_has_23
      · refine lv_iconst hx hb dX2_has_18 rfl ?_
        refine lv_goto (tgt := 23) hx hb dX2_has_19 (by decide) ?_
        exact zr_zret hF hr hw h dX2_has_23
set_option maxHeartbeats 4000000 in
set_option maxRecDepth 100000 in
theorem czX2_timeAt (l : Launch) (X : zC) (N : zN) {i0 : Nat} {x1 : Int} {g g' : zG} {r : Int} (he0 : zE N 3 i0) (h : sX2_timeAt i0 x1 g = some (r, g')) : zM l yX2_timeAt cX2_timeAt 2 (some .int) { frames := 1, cells := 0, slots := 0, locals := 21 } X N g [z_r N 3 i0, z_v x1] (zQi X N r g') := by
  refine z_ofW (own := RX2) (by decide +kernel) rfl (Nat.le_of_ble_eq_true rfl) ?_
  intro p e s m args below meth c ls hF hr hw hl
  have hl : lv_has ls 2 [(0, z_r N 3 i0), (1, z_v x1)] := hl
  have hx := hF.1.1
  have hb := hF.1.2.1
  unfold sX2_timeAt at h
  generalize s.heap = H at hw ⊢
  generalize ([] : List Loc) = locs at hw ⊢
  refine lv_aload_n hx hb dX2_timeAt_0 rfl (lv_at hl 0 rfl) ?_
  refine lv_iload_n hx hb dX2_timeAt_1 rfl (lv_at hl 1 rfl) ?_
  obtain ⟨r1, g1, h1, h⟩ := zbd_some h
  refine zr_callVi (n := 1) (As := [z_v x1]) (rest := []) hF hw (czX2_has l X N he0 h1) he0 (by decide) zC_3 (z_goodV qw_344 qw_345 qw_346 qw_20 qw_347) (by decide +kernel) ⟨Nat.le_of_ble_eq_true rfl, Nat.le_of_ble_eq_true rfl⟩ ⟨rfl, rfl⟩ rfl hl.1 rfl (Nat.le_of_ble_eq_true rfl) dX2_timeAt_2 ⟨Nat.le_of_ble_eq_true rfl, Nat.le_of_ble_eq_true rfl⟩ (fun H locs hw => ?_)
  clear h1
  generalize g1 = g at *
  refine zr_if_eq (tgt := 17) hF h dX2_timeAt_5 (by decide) (fun h => ?_) (fun h => ?_)
  · refine lv_iconst hx hb dX2_timeAt_17 rfl ?_
    exact zr_iret hF hr hw h dX2_timeAt_18
  · refine lv_aload_n hx hb dX2_timeAt_8 rfl (lv_at hl 0 rfl) ?_
    refine zr_get hF hw he0 (by decide) zC_3 1 (by decide) qw_82 rfl dX2_timeAt_9 ?_
    refine lv_iload_n hx hb dX2_timeAt_12 rfl (lv_at hl 1 rfl) ?_
    refine zr_iald hF hw (zE_ln he0).2.1 (by decide) h dX2_timeAt_13 (fun h => ?_)
    refine lv_goto (tgt := 18) hx hb dX2_timeAt_14 (by decide) ?_
    exact zr_iret hF hr hw h dX2_timeAt_18
set_option maxHeartbeats 4000000 in
set_option maxRecDepth 100000 in
theorem czX2_give (l : Launch) (X : zC) (N : zN) {i0 : Nat} {x1 : Int} {x2 : Int} {x3 : Int} {g g' : zG} {r : Int} (he0 : zE N 3 i0) (h : sX2_give i0 x1 x2 x3 g = some (r, g')) : zM l yX2_give cX2_give 4 none { frames := 1, cells := 0, slots := 0, locals := 21 } X N g [z_r N 3 i0, z_v x1, z_v x2, z_v x3] (zQv X N g') := by
  refine z_ofW (own := RX2) (by decide +kernel) rfl (Nat.le_of_ble_eq_true rfl) ?_
  intro p e s m args below meth c ls hF hr hw hl
  have hl : lv_has ls 4 [(0, z_r N 3 i0), (1, z_v x1), (2, z_v x2), (3, z_v x3)] := hl
  have hx := hF.1.1
  have hb := hF.1.2.1
  unfold sX2_give at h
  generalize s.heap = H at hw ⊢
  generalize ([] : List Loc) = locs at hw ⊢
  refine lv_aload_n hx hb dX2_give_0 rfl (lv_at hl 0 rfl) ?_
  refine lv_iload_n hx hb dX2_give_1 rfl (lv_at hl 1 rfl) ?_
  obtain ⟨r1, g1, h1, h⟩ := zbd_some h
  refine zr_callVi (n := 1) (As := [z_v x1]) (rest := []) hF hw (czX2_has l X N he0 h1) he0 (by decide) zC_3 (z_goodV qw_344 qw_345 qw_346 qw_20 qw_347) (by decide +kernel) ⟨Nat.le_of_ble_eq_true rfl, Nat.le_of_ble_eq_true rfl⟩ ⟨rfl, rfl⟩ rfl hl.1 rfl (Nat.le_of_ble_eq_true rfl) dX2_give_2 ⟨Nat.le_of_ble_eq_true rfl, Nat.le_of_ble_eq_true rfl⟩ (fun H locs hw => ?_)
  clear h1
  generalize g1 = g at *
  refine zr_if_eq (tgt := 22) hF h dX2_give_5 (by decide) (fun h => ?_) (fun h => ?_)
  · exact zr_vret hF hr hw h dX2_give_22
  · refine lv_aload_n hx hb dX2_give_8 rfl (lv_at hl 0 rfl) ?_
    refine zr_get hF hw he0 (by decide) zC_3 2 (by decide) qw_83 rfl dX2_give_9 ?_
    refine lv_iload_n hx hb dX2_give_12 rfl (lv_at hl 1 rfl) ?_
    refine lv_iload_n hx hb dX2_give_13 rfl (lv_at hl 2 rfl) ?_
    refine zr_iast hF hw (zE_ln he0).2.2.1 (by decide) h dX2_give_14 (fun g H locs hw h => ?_)
    refine lv_aload_n hx hb dX2_give_15 rfl (lv_at hl 0 rfl) ?_
    refine zr_get hF hw he0 (by decide) zC_3 3 (by decide) qw_84 rfl dX2_give_16 ?_
    refine lv_iload_n hx hb dX2_give_19 rfl (lv_at hl 1 rfl) ?_
    refine lv_iload_n hx hb dX2_give_20 rfl (lv_at hl 3 rfl) ?_
    refine zr_iast hF hw (zE_ln he0).2.2.2 (by decide) h dX2_give_21 (fun g H locs hw h => ?_)
    exact zr_vret hF hr hw h dX2_give_22
set_option maxHeartbeats 4000000 in
set_option maxRecDepth 100000 in
theorem wX2_hasGiven_h2 {p : Program} {l : Launch} {e : Env} {s : State} {m : MethodId} {args : Array Value} {below : List Frame} {meth : Method} {c : Code} {X : zC} {N : zN} {r : Int} {g' : zG} {H : Heap} {locs : List Loc} {ls : Array Slot} (hF : zF p s m args meth c X cX2_hasGiven 3 RX2) (hr : meth.sig.returnType = (some .boolean)) {n : Nat} {K : Nat → Nat → Int → Int → zG → Option (Int × zG)} (hK0 : ∀ (i0 : Nat) (x1 : Int) (x2 : Int) (g : zG) (H : Heap) (locs : List Loc) (ls : Array Slot), zE N 3 i0 → zH X N g s H locs → lv_has ls 3 [(0, z_r N 3 i0), (1, z_v x1), (2, z_v x2)] → K 0 i0 x1 x2 g = some (r, g') → W p l e { frames := 0, cells := 0, slots := 0, locals := 0 } s m args below meth c H locs 0 0 (MQ below (zQi X N r g') args s 0 0 (zA X)) (F0 m 2 ls [])) {i0 : Nat} {x1 : Int} {x2 : Int} {g : zG} (he0 : zE N 3 i0) (hw : zH X N g s H locs) (hl : lv_has ls 3 [(0, z_r N 3 i0), (1, z_v x1), (2, z_v x2)]) (h : sX2_hasGiven_h2 n K i0 x1 x2 g = some (r, g')) : W p l e { frames := 0, cells := 0, slots := 0, locals := 0 } s m args below meth c H locs 0 0 (MQ below (zQi X N r g') args s 0 0 (zA X)) (F0 m 2 ls []) := by
  have hx := hF.1.1
  have hb := hF.1.2.1
  unfold sX2_hasGiven_h2 at h
  refine lv_iload_n hx hb dX2_hasGiven_2 rfl (lv_at hl 2 rfl) ?_
  refine lv_aload_n hx hb dX2_hasGiven_3 rfl (lv_at hl 0 rfl) ?_
  refine zr_get hF hw he0 (by decide) zC_3 4 (by decide) qw_85 rfl dX2_hasGiven_4 ?_
  refine zr_icmp_ge (tgt := 37) hF h dX2_hasGiven_7 (by decide) (fun h => ?_) (fun h => ?_)
  · refine lv_iconst hx hb dX2_hasGiven_37 rfl ?_
    exact zr_zret hF hr hw h dX2_hasGiven_38
  · refine lv_iload_n hx hb dX2_hasGiven_10 rfl (lv_at hl 2 rfl) ?_
    refine lv_aload_n hx hb dX2_hasGiven_11 rfl (lv_at hl 0 rfl) ?_
    refine zr_get hF hw he0 (by decide) zC_3 2 (by decide) qw_83 rfl dX2_hasGiven_12 ?_
    refine zr_alen hF hw (zE_ln he0).2.2.1 (by decide) (v := 24) (by decide) dX2_hasGiven_15 ?_
    refine zr_icmp_ge (tgt := 37) hF h dX2_hasGiven_16 (by decide) (fun h => ?_) (fun h => ?_)
    · refine lv_iconst hx hb dX2_hasGiven_37 rfl ?_
      exact zr_zret hF hr hw h dX2_hasGiven_38
    · refine lv_aload_n hx hb dX2_hasGiven_19 rfl (lv_at hl 0 rfl) ?_
      refine zr_get hF hw he0 (by decide) zC_3 2 (by decide) qw_83 rfl dX2_hasGiven_20 ?_
      refine lv_iload_n hx hb dX2_hasGiven_23 rfl (lv_at hl 2 rfl) ?_
      refine zr_iald hF hw (zE_ln he0).2.2.1 (by decide) h dX2_hasGiven_24 (fun h => ?_)
      refine lv_iload_n hx hb dX2_hasGiven_25 rfl (lv_at hl 1 rfl) ?_
      refine zr_icmp_ne (tgt := 31) hF h dX2_hasGiven_26 (by decide) (fun h => ?_) (fun h => ?_)
      · refine zr_iinc hF (lv' := fun v1 => [(2, z_v v1), (0, z_r N 3 i0), (1, z_v x1)]) h dX2_hasGiven_31 hl (k := 2) rfl (by decide) (fun _ => rfl) (fun v1 ls hl h => ?_)
        refine lv_goto (tgt := 2) hx hb dX2_hasGiven_34 (by decide) ?_
        exact hK0 i0 x1 v1 _ _ _ _ he0 hw (lv_sub hl [1, 2, 0] rfl) h
      · refine lv_iconst hx hb dX2_hasGiven_29 rfl ?_
        exact zr_zret hF hr hw h dX2_hasGiven_30
set_option maxHeartbeats 4000000 in
set_option maxRecDepth 100000 in
theorem wX2_hasGiven_run {p : Program} {l : Launch} {e : Env} {s : State} {m : MethodId} {args : Array Value} {below : List Frame} {meth : Method} {c : Code} {X : zC} {N : zN} {r : Int} {g' : zG} (hF : zF p s m args meth c X cX2_hasGiven 3 RX2) (hr : meth.sig.returnType = (some .boolean)) {n0 : Nat} : ∀ n : Nat, (∀ (i0 : Nat) (x1 : Int) (x2 : Int) (g : zG) (H : Heap) (locs : List Loc) (ls : Array Slot), zE N 3 i0 → zH X N g s H locs → lv_has ls 3 [(0, z_r N 3 i0), (1, z_v x1), (2, z_v x2)] → sX2_hasGiven_run n0 n 0 i0 x1 x2 g = some (r, g') → W p l e { frames := 0, cells := 0, slots := 0, locals := 0 } s m args below meth c H locs 0 0 (MQ below (zQi X N r g') args s 0 0 (zA X)) (F0 m 2 ls [])) := by
  intro n
  induction n with
  | zero => exact fun _ _ _ _ _ _ _ _ _ _  h => (by cases h)
  | succ n ih => exact fun i0 x1 x2 g H locs ls he0 hw hl h => wX2_hasGiven_h2 hF hr ih he0 hw hl h
set_option maxHeartbeats 4000000 in
set_option maxRecDepth 100000 in
theorem czX2_hasGiven (l : Launch) (X : zC) (N : zN) {n : Nat} {i0 : Nat} {x1 : Int} {g g' : zG} {r : Int} (he0 : zE N 3 i0) (h : sX2_hasGiven n i0 x1 g = some (r, g')) : zM l yX2_hasGiven cX2_hasGiven 3 (some .boolean) { frames := 0, cells := 0, slots := 0, locals := 0 } X N g [z_r N 3 i0, z_v x1] (zQi X N r g') := by
  refine z_ofW (own := RX2) (by decide +kernel) rfl (Nat.le_of_ble_eq_true rfl) ?_
  intro p e s m args below meth c ls hF hr hw hl
  have hl : lv_has ls 3 [(0, z_r N 3 i0), (1, z_v x1)] := hl
  have hx := hF.1.1
  have hb := hF.1.2.1
  have hKK := wX2_hasGiven_run hF hr (r := r) (g' := g') (X := X) (N := N) (n0 := n) (l := l) (e := e) (below := below) n
  have hK0 := hKK
  unfold sX2_hasGiven at h
  generalize s.heap = H at hw ⊢
  generalize ([] : List Loc) = locs at hw ⊢
  refine lv_iconst hx hb dX2_hasGiven_0 rfl ?_
  refine lv_istore_n (lv' := [(2, z_v 0), (0, z_r N 3 i0), (1, z_v x1)]) hx hb dX2_hasGiven_1 rfl hl (by decide) rfl (fun ls hl => ?_)
  exact hK0 i0 x1 0 _ _ _ _ he0 hw (lv_sub hl [1, 2, 0] rfl) h
set_option maxHeartbeats 4000000 in
set_option maxRecDepth 100000 in
theorem wX2_placeOf_h2 {p : Program} {l : Launch} {e : Env} {s : State} {m : MethodId} {args : Array Value} {below : List Frame} {meth : Method} {c : Code} {X : zC} {N : zN} {r : Int} {g' : zG} {H : Heap} {locs : List Loc} {ls : Array Slot} (hF : zF p s m args meth c X cX2_placeOf 3 RX2) (hr : meth.sig.returnType = (some .int)) {n : Nat} {K : Nat → Nat → Int → Int → zG → Option (Int × zG)} (hK0 : ∀ (i0 : Nat) (x1 : Int) (x2 : Int) (g : zG) (H : Heap) (locs : List Loc) (ls : Array Slot), zE N 3 i0 → zH X N g s H locs → lv_has ls 3 [(0, z_r N 3 i0), (1, z_v x1), (2, z_v x2)] → K 0 i0 x1 x2 g = some (r, g') → W p l e { frames := 0, cells := 0, slots := 0, locals := 0 } s m args below meth c H locs 0 0 (MQ below (zQi X N r g') args s 0 0 (zA X)) (F0 m 2 ls [])) {i0 : Nat} {x1 : Int} {x2 : Int} {g : zG} (he0 : zE N 3 i0) (hw : zH X N g s H locs) (hl : lv_has ls 3 [(0, z_r N 3 i0), (1, z_v x1), (2, z_v x2)]) (h : sX2_placeOf_h2 n K i0 x1 x2 g = some (r, g')) : W p l e { frames := 0, cells := 0, slots := 0, locals := 0 } s m args below meth c H locs 0 0 (MQ below (zQi X N r g') args s 0 0 (zA X)) (F0 m 2 ls []) := by
  have hx := hF.1.1
  have hb := hF.1.2.1
  unfold sX2_placeOf_h2 at h
  refine lv_iload_n hx hb dX2_placeOf_2 rfl (lv_at hl 2 rfl) ?_
  refine lv_aload_n hx hb dX2_placeOf_3 rfl (lv_at hl 0 rfl) ?_
  refine zr_get hF hw he0 (by decide) zC_3 4 (by decide) qw_85 rfl dX2_placeOf_4 ?_
  refine zr_icmp_ge (tgt := 37) hF h dX2_placeOf_7 (by decide) (fun h => ?_) (fun h => ?_)
  · refine lv_iconst hx hb dX2_placeOf_37 rfl ?_
    exact zr_iret hF hr hw h dX2_placeOf_38
  · refine lv_iload_n hx hb dX2_placeOf_10 rfl (lv_at hl 2 rfl) ?_
    refine lv_aload_n hx hb dX2_placeOf_11 rfl (lv_at hl 0 rfl) ?_
    refine zr_get hF hw he0 (by decide) zC_3 0 (by decide) qw_81 rfl dX2_placeOf_12 ?_
    refine zr_alen hF hw (zE_ln he0).1 (by decide) (v := 24) (by decide) dX2_placeOf_15 ?_
    refine zr_icmp_ge (tgt := 37) hF h dX2_placeOf_16 (by decide) (fun h => ?_) (fun h => ?_)
    · refine lv_iconst hx hb dX2_placeOf_37 rfl ?_
      exact zr_iret hF hr hw h dX2_placeOf_38
    · refine lv_aload_n hx hb dX2_placeOf_19 rfl (lv_at hl 0 rfl) ?_
      refine zr_get hF hw he0 (by decide) zC_3 0 (by decide) qw_81 rfl dX2_placeOf_20 ?_
      refine lv_iload_n hx hb dX2_placeOf_23 rfl (lv_at hl 2 rfl) ?_
      refine zr_iald hF hw (zE_ln he0).1 (by decide) h dX2_placeOf_24 (fun h => ?_)
      refine lv_iload_n hx hb dX2_placeOf_25 rfl (lv_at hl 1 rfl) ?_
      refine zr_icmp_ne (tgt := 31) hF h dX2_placeOf_26 (by decide) (fun h => ?_) (fun h => ?_)
      · refine zr_iinc hF (lv' := fun v1 => [(2, z_v v1), (0, z_r N 3 i0), (1, z_v x1)]) h dX2_placeOf_31 hl (k := 2) rfl (by decide) (fun _ => rfl) (fun v1 ls hl h => ?_)
        refine lv_goto (tgt := 2) hx hb dX2_placeOf_34 (by decide) ?_
        exact hK0 i0 x1 v1 _ _ _ _ he0 hw (lv_sub hl [1, 2, 0] rfl) h
      · refine lv_iload_n hx hb dX2_placeOf_29 rfl (lv_at hl 2 rfl) ?_
        exact zr_iret hF hr hw h dX2_placeOf_30
set_option maxHeartbeats 4000000 in
set_option maxRecDepth 100000 in
theorem wX2_placeOf_run {p : Program} {l : Launch} {e : Env} {s : State} {m : MethodId} {args : Array Value} {below : List Frame} {meth : Method} {c : Code} {X : zC} {N : zN} {r : Int} {g' : zG} (hF : zF p s m args meth c X cX2_placeOf 3 RX2) (hr : meth.sig.returnType = (some .int)) {n0 : Nat} : ∀ n : Nat, (∀ (i0 : Nat) (x1 : Int) (x2 : Int) (g : zG) (H : Heap) (locs : List Loc) (ls : Array Slot), zE N 3 i0 → zH X N g s H locs → lv_has ls 3 [(0, z_r N 3 i0), (1, z_v x1), (2, z_v x2)] → sX2_placeOf_run n0 n 0 i0 x1 x2 g = some (r, g') → W p l e { frames := 0, cells := 0, slots := 0, locals := 0 } s m args below meth c H locs 0 0 (MQ below (zQi X N r g') args s 0 0 (zA X)) (F0 m 2 ls [])) := by
  intro n
  induction n with
  | zero => exact fun _ _ _ _ _ _ _ _ _ _  h => (by cases h)
  | succ n ih => exact fun i0 x1 x2 g H locs ls he0 hw hl h => wX2_placeOf_h2 hF hr ih he0 hw hl h
set_option maxHeartbeats 4000000 in
set_option maxRecDepth 100000 in
theorem czX2_placeOf (l : Launch) (X : zC) (N : zN) {n : Nat} {i0 : Nat} {x1 : Int} {g g' : zG} {r : Int} (he0 : zE N 3 i0) (h : sX2_placeOf n i0 x1 g = some (r, g')) : zM l yX2_placeOf cX2_placeOf 3 (some .int) { frames := 0, cells := 0, slots := 0, locals := 0 } X N g [z_r N 3 i0, z_v x1] (zQi X N r g') := by
  refine z_ofW (own := RX2) (by decide +kernel) rfl (Nat.le_of_ble_eq_true rfl) ?_
  intro p e s m args below meth c ls hF hr hw hl
  have hl : lv_has ls 3 [(0, z_r N 3 i0), (1, z_v x1)] := hl
  have hx := hF.1.1
  have hb := hF.1.2.1
  have hKK := wX2_placeOf_run hF hr (r := r) (g' := g') (X := X) (N := N) (n0 := n) (l := l) (e := e) (below := below) n
  have hK0 := hKK
  unfold sX2_placeOf at h
  generalize s.heap = H at hw ⊢
  generalize ([] : List Loc) = locs at hw ⊢
  refine lv_iconst hx hb dX2_placeOf_0 rfl ?_
  refine lv_istore_n (lv' := [(2, z_v 0), (0, z_r N 3 i0), (1, z_v x1)]) hx hb dX2_placeOf_1 rfl hl (by decide) rfl (fun ls hl => ?_)
  exact hK0 i0 x1 0 _ _ _ _ he0 hw (lv_sub hl [1, 2, 0] rfl) h
set_option maxHeartbeats 4000000 in
set_option maxRecDepth 100000 in
theorem czX2_penaltyOf (l : Launch) (X : zC) (N : zN) {n : Nat} {i0 : Nat} {x1 : Int} {g g' : zG} {r : Int} (he0 : zE N 3 i0) (h : sX2_penaltyOf n i0 x1 g = some (r, g')) : zM l yX2_penaltyOf cX2_penaltyOf 3 (some .int) { frames := 1, cells := 0, slots := 0, locals := 22 } X N g [z_r N 3 i0, z_v x1] (zQi X N r g') := by
  refine z_ofW (own := RX2) (by decide +kernel) rfl (Nat.le_of_ble_eq_true rfl) ?_
  intro p e s m args below meth c ls hF hr hw hl
  have hl : lv_has ls 3 [(0, z_r N 3 i0), (1, z_v x1)] := hl
  have hx := hF.1.1
  have hb := hF.1.2.1
  unfold sX2_penaltyOf at h
  generalize s.heap = H at hw ⊢
  generalize ([] : List Loc) = locs at hw ⊢
  refine lv_aload_n hx hb dX2_penaltyOf_0 rfl (lv_at hl 0 rfl) ?_
  refine lv_iload_n hx hb dX2_penaltyOf_1 rfl (lv_at hl 1 rfl) ?_
  obtain ⟨r1, g1, h1, h⟩ := zbd_some h
  refine zr_callVi (n := 1) (As := [z_v x1]) (rest := []) hF hw (czX2_placeOf l X N he0 h1) he0 (by decide) zC_3 (z_goodV qw_373 qw_374 qw_375 qw_20 qw_376) (by decide +kernel) ⟨Nat.le_of_ble_eq_true rfl, Nat.le_of_ble_eq_true rfl⟩ ⟨rfl, rfl⟩ rfl hl.1 rfl (Nat.le_of_ble_eq_true rfl) dX2_penaltyOf_2 ⟨Nat.le_of_ble_eq_true rfl, Nat.le_of_ble_eq_true rfl⟩ (fun H locs hw => ?_)
  clear h1
  generalize g1 = g at *
  refine lv_istore_n (lv' := [(2, z_v r1), (0, z_r N 3 i0), (1, z_v x1)]) hx hb dX2_penaltyOf_5 rfl hl (by decide) rfl (fun ls hl => ?_)
  refine lv_aload_n hx hb dX2_penaltyOf_6 rfl (lv_at hl 1 rfl) ?_
  refine lv_iload_n hx hb dX2_penaltyOf_7 rfl (lv_at hl 0 rfl) ?_
  obtain ⟨r2, g1, h1, h⟩ := zbd_some h
  refine zr_callVi (n := 1) (As := [z_v r1]) (rest := []) hF hw (czX2_has l X N he0 h1) he0 (by decide) zC_3 (z_goodV qw_344 qw_345 qw_346 qw_20 qw_347) (by decide +kernel) ⟨Nat.le_of_ble_eq_true rfl, Nat.le_of_ble_eq_true rfl⟩ ⟨rfl, rfl⟩ rfl hl.1 rfl (Nat.le_of_ble_eq_true rfl) dX2_penaltyOf_8 ⟨Nat.le_of_ble_eq_true rfl, Nat.le_of_ble_eq_true rfl⟩ (fun H locs hw => ?_)
  clear h1
  generalize g1 = g at *
  refine zr_if_eq (tgt := 30) hF h dX2_penaltyOf_11 (by decide) (fun h => ?_) (fun h => ?_)
  · refine lv_iconst hx hb dX2_penaltyOf_30 rfl ?_
    exact zr_iret hF hr hw h dX2_penaltyOf_31
  · refine lv_aload_n hx hb dX2_penaltyOf_14 rfl (lv_at hl 1 rfl) ?_
    refine zr_get hF hw he0 (by decide) zC_3 3 (by decide) qw_84 rfl dX2_penaltyOf_15 ?_
    refine lv_iload_n hx hb dX2_penaltyOf_18 rfl (lv_at hl 0 rfl) ?_
    refine zr_iald hF hw (zE_ln he0).2.2.2 (by decide) h dX2_penaltyOf_19 (fun h => ?_)
    refine lv_aload_n hx hb dX2_penaltyOf_20 rfl (lv_at hl 1 rfl) ?_
    refine zr_get hF hw he0 (by decide) zC_3 1 (by decide) qw_82 rfl dX2_penaltyOf_21 ?_
    refine lv_iload_n hx hb dX2_penaltyOf_24 rfl (lv_at hl 0 rfl) ?_
    refine zr_iald hF hw (zE_ln he0).2.1 (by decide) h dX2_penaltyOf_25 (fun h => ?_)
    refine zr_isub hF dX2_penaltyOf_26 ?_
    refine lv_goto (tgt := 31) hx hb dX2_penaltyOf_27 (by decide) ?_
    exact zr_iret hF hr hw h dX2_penaltyOf_31
set_option maxHeartbeats 4000000 in
set_option maxRecDepth 100000 in
theorem wX2_countAheadOf_h2 {p : Program} {l : Launch} {e : Env} {s : State} {m : MethodId} {args : Array Value} {below : List Frame} {meth : Method} {c : Code} {X : zC} {N : zN} {r : Int} {g' : zG} {H : Heap} {locs : List Loc} {ls : Array Slot} (hF : zF p s m args meth c X cX2_countAheadOf 4 RX2) (hr : meth.sig.returnType = (some .int)) {n : Nat} {K : Nat → Nat → Int → Int → zG → Option (Int × zG)} (hK0 : ∀ (i0 : Nat) (x1 : Int) (x3 : Int) (g : zG) (H : Heap) (locs : List Loc) (ls : Array Slot), zE N 3 i0 → zH X N g s H locs → lv_has ls 4 [(0, z_r N 3 i0), (1, z_v x1), (3, z_v x3)] → K 0 i0 x1 x3 g = some (r, g') → W p l e { frames := 2, cells := 0, slots := 0, locals := 42 } s m args below meth c H locs 0 0 (MQ below (zQi X N r g') args s 0 0 (zA X)) (F0 m 2 ls [])) {i0 : Nat} {x1 : Int} {x3 : Int} {g : zG} (he0 : zE N 3 i0) (hw : zH X N g s H locs) (hl : lv_has ls 4 [(0, z_r N 3 i0), (1, z_v x1), (3, z_v x3)]) (h : sX2_countAheadOf_h2 n K i0 x1 x3 g = some (r, g')) : W p l e { frames := 2, cells := 0, slots := 0, locals := 42 } s m args below meth c H locs 0 0 (MQ below (zQi X N r g') args s 0 0 (zA X)) (F0 m 2 ls []) := by
  have hx := hF.1.1
  have hb := hF.1.2.1
  unfold sX2_countAheadOf_h2 at h
  refine lv_iload_n hx hb dX2_countAheadOf_2 rfl (lv_at hl 2 rfl) ?_
  refine lv_aload_n hx hb dX2_countAheadOf_3 rfl (lv_at hl 0 rfl) ?_
  refine zr_get hF hw he0 (by decide) zC_3 4 (by decide) qw_85 rfl dX2_countAheadOf_4 ?_
  refine zr_icmp_ge (tgt := 25) hF h dX2_countAheadOf_7 (by decide) (fun h => ?_) (fun h => ?_)
  · refine lv_iload_n hx hb dX2_countAheadOf_25 rfl (lv_at hl 2 rfl) ?_
    exact zr_iret hF hr hw h dX2_countAheadOf_26
  · refine lv_aload_n hx hb dX2_countAheadOf_10 rfl (lv_at hl 0 rfl) ?_
    refine lv_iload_n hx hb dX2_countAheadOf_11 rfl (lv_at hl 2 rfl) ?_
    obtain ⟨r1, g1, h1, h⟩ := zbd_some h
    refine zr_callVi (n := 1) (As := [z_v x3]) (rest := []) hF hw (czX2_timeAt l X N he0 h1) he0 (by decide) zC_3 (z_goodV qw_746 qw_341 qw_342 qw_20 qw_343) (by decide +kernel) ⟨Nat.le_of_ble_eq_true rfl, Nat.le_of_ble_eq_true rfl⟩ ⟨rfl, rfl⟩ rfl hl.1 rfl (Nat.le_of_ble_eq_true rfl) dX2_countAheadOf_12 ⟨Nat.le_of_ble_eq_true rfl, Nat.le_of_ble_eq_true rfl⟩ (fun H locs hw => ?_)
    clear h1
    generalize g1 = g at *
    refine lv_iload_n hx hb dX2_countAheadOf_15 rfl (lv_at hl 1 rfl) ?_
    refine zr_icmp_ge (tgt := 25) hF h dX2_countAheadOf_16 (by decide) (fun h => ?_) (fun h => ?_)
    · refine lv_iload_n hx hb dX2_countAheadOf_25 rfl (lv_at hl 2 rfl) ?_
      exact zr_iret hF hr hw h dX2_countAheadOf_26
    · refine zr_iinc hF (lv' := fun v2 => [(3, z_v v2), (0, z_r N 3 i0), (1, z_v x1)]) h dX2_countAheadOf_19 hl (k := 2) rfl (by decide) (fun _ => rfl) (fun v2 ls hl h => ?_)
      refine lv_goto (tgt := 2) hx hb dX2_countAheadOf_22 (by decide) ?_
      exact hK0 i0 x1 v2 _ _ _ _ he0 hw (lv_sub hl [1, 2, 0] rfl) h
set_option maxHeartbeats 4000000 in
set_option maxRecDepth 100000 in
theorem wX2_countAheadOf_run {p : Program} {l : Launch} {e : Env} {s : State} {m : MethodId} {args : Array Value} {below : List Frame} {meth : Method} {c : Code} {X : zC} {N : zN} {r : Int} {g' : zG} (hF : zF p s m args meth c X cX2_countAheadOf 4 RX2) (hr : meth.sig.returnType = (some .int)) {n0 : Nat} : ∀ n : Nat, (∀ (i0 : Nat) (x1 : Int) (x3 : Int) (g : zG) (H : Heap) (locs : List Loc) (ls : Array Slot), zE N 3 i0 → zH X N g s H locs → lv_has ls 4 [(0, z_r N 3 i0), (1, z_v x1), (3, z_v x3)] → sX2_countAheadOf_run n0 n 0 i0 x1 x3 g = some (r, g') → W p l e { frames := 2, cells := 0, slots := 0, locals := 42 } s m args below meth c H locs 0 0 (MQ below (zQi X N r g') args s 0 0 (zA X)) (F0 m 2 ls [])) := by
  intro n
  induction n with
  | zero => exact fun _ _ _ _ _ _ _ _ _ _  h => (by cases h)
  | succ n ih => exact fun i0 x1 x3 g H locs ls he0 hw hl h => wX2_countAheadOf_h2 hF hr ih he0 hw hl h
set_option maxHeartbeats 4000000 in
set_option maxRecDepth 100000 in
theorem czX2_countAheadOf (l : Launch) (X : zC) (N : zN) {n : Nat} {i0 : Nat} {x1 : Int} {x2 : Int} {g g' : zG} {r : Int} (he0 : zE N 3 i0) (h : sX2_countAheadOf n i0 x1 x2 g = some (r, g')) : zM l yX2_countAheadOf cX2_countAheadOf 4 (some .int) { frames := 2, cells := 0, slots := 0, locals := 42 } X N g [z_r N 3 i0, z_v x1, z_v x2] (zQi X N r g') := by
  refine z_ofW (own := RX2) (by decide +kernel) rfl (Nat.le_of_ble_eq_true rfl) ?_
  intro p e s m args below meth c ls hF hr hw hl
  have hl : lv_has ls 4 [(0, z_r N 3 i0), (1, z_v x1), (2, z_v x2)] := hl
  have hx := hF.1.1
  have hb := hF.1.2.1
  have hKK := wX2_countAheadOf_run hF hr (r := r) (g' := g') (X := X) (N := N) (n0 := n) (l := l) (e := e) (below := below) n
  have hK0 := hKK
  unfold sX2_countAheadOf at h
  generalize s.heap = H at hw ⊢
  generalize ([] : List Loc) = locs at hw ⊢
  refine lv_iload_n hx hb dX2_countAheadOf_0 rfl (lv_at hl 2 rfl) ?_
  refine lv_istore_n (lv' := [(3, z_v x2), (0, z_r N 3 i0), (1, z_v x1), (2, z_v x2)]) hx hb dX2_countAheadOf_1 rfl hl (by decide) rfl (fun ls hl => ?_)
  exact hK0 i0 x1 x2 _ _ _ _ he0 hw (lv_sub hl [1, 2, 0] rfl) h
set_option maxHeartbeats 4000000 in
set_option maxRecDepth 100000 in
theorem czX2_canTake (l : Launch) (X : zC) (N : zN) {i0 : Nat} {x1 : Int} {x2 : Int} {g g' : zG} {r : Int} (he0 : zE N 3 i0) (h : sX2_canTake i0 x1 x2 g = some (r, g')) : zM l yX2_canTake cX2_canTake 3 (some .boolean) { frames := 1, cells := 0, slots := 0, locals := 21 } X N g [z_r N 3 i0, z_v x1, z_v x2] (zQi X N r g') := by
  refine z_ofW (own := RX2) (by decide +kernel) rfl (Nat.le_of_ble_eq_true rfl) ?_
  intro p e s m args below meth c ls hF hr hw hl
  have hl : lv_has ls 3 [(0, z_r N 3 i0), (1, z_v x1), (2, z_v x2)] := hl
  have hx := hF.1.1
  have hb := hF.1.2.1
  unfold sX2_canTake at h
  generalize s.heap = H at hw ⊢
  generalize ([] : List Loc) = locs at hw ⊢
  refine lv_aload_n hx hb dX2_canTake_0 rfl (lv_at hl 0 rfl) ?_
  refine lv_iload_n hx hb dX2_canTake_1 rfl (lv_at hl 1 rfl) ?_
  obtain ⟨r1, g1, h1, h⟩ := zbd_some h
  refine zr_callVi (n := 1) (As := [z_v x1]) (rest := []) hF hw (czX2_has l X N he0 h1) he0 (by decide) zC_3 (z_goodV qw_344 qw_345 qw_346 qw_20 qw_347) (by decide +kernel) ⟨Nat.le_of_ble_eq_true rfl, Nat.le_of_ble_eq_true rfl⟩ ⟨rfl, rfl⟩ rfl hl.1 rfl (Nat.le_of_ble_eq_true rfl) dX2_canTake_2 ⟨Nat.le_of_ble_eq_true rfl, Nat.le_of_ble_eq_true rfl⟩ (fun H locs hw => ?_)
  clear h1
  generalize g1 = g at *
  refine zr_if_eq (tgt := 22) hF h dX2_canTake_5 (by decide) (fun h => ?_) (fun h => ?_)
  · refine lv_iconst hx hb dX2_canTake_22 rfl ?_
    exact zr_zret hF hr hw h dX2_canTake_23
  · refine lv_aload_n hx hb dX2_canTake_8 rfl (lv_at hl 0 rfl) ?_
    refine zr_get hF hw he0 (by decide) zC_3 1 (by decide) qw_82 rfl dX2_canTake_9 ?_
    refine lv_iload_n hx hb dX2_canTake_12 rfl (lv_at hl 1 rfl) ?_
    refine zr_iald hF hw (zE_ln he0).2.1 (by decide) h dX2_canTake_13 (fun h => ?_)
    refine lv_iload_n hx hb dX2_canTake_14 rfl (lv_at hl 2 rfl) ?_
    refine zr_icmp_ge (tgt := 22) hF h dX2_canTake_15 (by decide) (fun h => ?_) (fun h => ?_)
    · refine lv_iconst hx hb dX2_canTake_22 rfl ?_
      exact zr_zret hF hr hw h dX2_canTake_23
    · refine lv_iconst hx hb dX2_canTake_18 rfl ?_
      refine lv_goto (tgt := 23) hx hb dX2_canTake_19 (by decide) ?_
      exact zr_zret hF hr hw h dX2_canTake_23
set_option maxHeartbeats 4000000 in
set_option maxRecDepth 100000 in
theorem czX3_holdsAt (l : Launch) (X : zC) (N : zN) {i0 : Nat} {x1 : Int} {g g' : zG} {r : Int} (he0 : zE N 5 i0) (h : sX3_holdsAt i0 x1 g = some (r, g')) : zM l yX3_holdsAt cX3_holdsAt 2 (some .boolean) { frames := 0, cells := 0, slots := 0, locals := 0 } X N g [z_r N 5 i0, z_v x1] (zQi X N r g') := by
  refine z_ofW (own := RX3) (by decide +kernel) rfl (Nat.le_of_ble_eq_true rfl) ?_
  intro p e s m args below meth c ls hF hr hw hl
  have hl : lv_has ls 2 [(0, z_r N 5 i0), (1, z_v x1)] := hl
  have hx := hF.1.1
  have hb := hF.1.2.1
  unfold sX3_holdsAt at h
  generalize s.heap = H at hw ⊢
  generalize ([] : List Loc) = locs at hw ⊢
  refine lv_iload_n hx hb dX3_holdsAt_0 rfl (lv_at hl 1 rfl) ?_
  refine lv_aload_n hx hb dX3_holdsAt_1 rfl (lv_at hl 0 rfl) ?_
  refine zr_get hF hw he0 (by decide) zC_5 1 (by decide) qw_599 rfl dX3_holdsAt_2 ?_
  refine zr_icmp_lt (tgt := 20) hF h dX3_holdsAt_5 (by decide) (fun h => ?_) (fun h => ?_)
  · refine lv_iconst hx hb dX3_holdsAt_20 rfl ?_
    exact zr_zret hF hr hw h dX3_holdsAt_21
  · refine lv_iload_n hx hb dX3_holdsAt_8 rfl (lv_at hl 1 rfl) ?_
    refine lv_aload_n hx hb dX3_holdsAt_9 rfl (lv_at hl 0 rfl) ?_
    refine zr_get hF hw he0 (by decide) zC_5 2 (by decide) qw_600 rfl dX3_holdsAt_10 ?_
    refine zr_icmp_ge (tgt := 20) hF h dX3_holdsAt_13 (by decide) (fun h => ?_) (fun h => ?_)
    · refine lv_iconst hx hb dX3_holdsAt_20 rfl ?_
      exact zr_zret hF hr hw h dX3_holdsAt_21
    · refine lv_iconst hx hb dX3_holdsAt_16 rfl ?_
      refine lv_goto (tgt := 21) hx hb dX3_holdsAt_17 (by decide) ?_
      exact zr_zret hF hr hw h dX3_holdsAt_21
set_option maxHeartbeats 4000000 in
set_option maxRecDepth 100000 in
theorem czX3_slotCount (l : Launch) (X : zC) (N : zN) {i0 : Nat} {g g' : zG} {r : Int} (he0 : zE N 5 i0) (h : sX3_slotCount i0 g = some (r, g')) : zM l yX3_slotCount cX3_slotCount 1 (some .int) { frames := 0, cells := 0, slots := 0, locals := 0 } X N g [z_r N 5 i0] (zQi X N r g') := by
  refine z_ofW (own := RX3) (by decide +kernel) rfl (Nat.le_of_ble_eq_true rfl) ?_
  intro p e s m args below meth c ls hF hr hw hl
  have hl : lv_has ls 1 [(0, z_r N 5 i0)] := hl
  have hx := hF.1.1
  have hb := hF.1.2.1
  unfold sX3_slotCount at h
  generalize s.heap = H at hw ⊢
  generalize ([] : List Loc) = locs at hw ⊢
  refine lv_aload_n hx hb dX3_slotCount_0 rfl (lv_at hl 0 rfl) ?_
  refine zr_get hF hw he0 (by decide) zC_5 4 (by decide) qw_604 rfl dX3_slotCount_1 ?_
  refine zr_if_eq (tgt := 11) hF h dX3_slotCount_4 (by decide) (fun h => ?_) (fun h => ?_)
  · refine lv_aload_n hx hb dX3_slotCount_11 rfl (lv_at hl 0 rfl) ?_
    refine zr_get hF hw he0 (by decide) zC_5 2 (by decide) qw_600 rfl dX3_slotCount_12 ?_
    refine lv_aload_n hx hb dX3_slotCount_15 rfl (lv_at hl 0 rfl) ?_
    refine zr_get hF hw he0 (by decide) zC_5 1 (by decide) qw_599 rfl dX3_slotCount_16 ?_
    refine zr_isub hF dX3_slotCount_19 ?_
    refine lv_aload_n hx hb dX3_slotCount_20 rfl (lv_at hl 0 rfl) ?_
    refine zr_get hF hw he0 (by decide) zC_5 3 (by decide) qw_602 rfl dX3_slotCount_21 ?_
    refine zr_imul hF dX3_slotCount_24 ?_
    refine lv_bipush (v := Int32.ofInt (60)) hx hb dX3_slotCount_25 (by decide) ?_
    refine zr_iadd hF dX3_slotCount_27 ?_
    refine lv_iconst hx hb dX3_slotCount_28 rfl ?_
    refine zr_isub hF dX3_slotCount_29 ?_
    refine lv_bipush (v := Int32.ofInt (60)) hx hb dX3_slotCount_30 (by decide) ?_
    refine zr_idiv hF h dX3_slotCount_32 (fun h => ?_)
    exact zr_iret hF hr hw h dX3_slotCount_33
  · refine lv_iconst hx hb dX3_slotCount_7 rfl ?_
    refine lv_goto (tgt := 33) hx hb dX3_slotCount_8 (by decide) ?_
    exact zr_iret hF hr hw h dX3_slotCount_33
set_option maxHeartbeats 4000000 in
set_option maxRecDepth 100000 in
theorem czX3_slotBegin (l : Launch) (X : zC) (N : zN) {i0 : Nat} {x1 : Int} {g g' : zG} {r : Int} (he0 : zE N 5 i0) (h : sX3_slotBegin i0 x1 g = some (r, g')) : zM l yX3_slotBegin cX3_slotBegin 2 (some .int) { frames := 0, cells := 0, slots := 0, locals := 0 } X N g [z_r N 5 i0, z_v x1] (zQi X N r g') := by
  refine z_ofW (own := RX3) (by decide +kernel) rfl (Nat.le_of_ble_eq_true rfl) ?_
  intro p e s m args below meth c ls hF hr hw hl
  have hl : lv_has ls 2 [(0, z_r N 5 i0), (1, z_v x1)] := hl
  have hx := hF.1.1
  have hb := hF.1.2.1
  unfold sX3_slotBegin at h
  generalize s.heap = H at hw ⊢
  generalize ([] : List Loc) = locs at hw ⊢
  refine lv_aload_n hx hb dX3_slotBegin_0 rfl (lv_at hl 0 rfl) ?_
  refine zr_get hF hw he0 (by decide) zC_5 3 (by decide) qw_602 rfl dX3_slotBegin_1 ?_
  refine zr_if_le (tgt := 24) hF h dX3_slotBegin_4 (by decide) (fun h => ?_) (fun h => ?_)
  · refine lv_aload_n hx hb dX3_slotBegin_24 rfl (lv_at hl 0 rfl) ?_
    refine zr_get hF hw he0 (by decide) zC_5 2 (by decide) qw_600 rfl dX3_slotBegin_25 ?_
    exact zr_iret hF hr hw h dX3_slotBegin_28
  · refine lv_aload_n hx hb dX3_slotBegin_7 rfl (lv_at hl 0 rfl) ?_
    refine zr_get hF hw he0 (by decide) zC_5 1 (by decide) qw_599 rfl dX3_slotBegin_8 ?_
    refine lv_bipush (v := Int32.ofInt (60)) hx hb dX3_slotBegin_11 (by decide) ?_
    refine lv_iload_n hx hb dX3_slotBegin_13 rfl (lv_at hl 1 rfl) ?_
    refine zr_imul hF dX3_slotBegin_14 ?_
    refine lv_aload_n hx hb dX3_slotBegin_15 rfl (lv_at hl 0 rfl) ?_
    refine zr_get hF hw he0 (by decide) zC_5 3 (by decide) qw_602 rfl dX3_slotBegin_16 ?_
    refine zr_idiv hF h dX3_slotBegin_19 (fun h => ?_)
    refine zr_iadd hF dX3_slotBegin_20 ?_
    refine lv_goto (tgt := 28) hx hb dX3_slotBegin_21 (by decide) ?_
    exact zr_iret hF hr hw h dX3_slotBegin_28
set_option maxHeartbeats 4000000 in
set_option maxRecDepth 100000 in
theorem czX3_slotEnd (l : Launch) (X : zC) (N : zN) {i0 : Nat} {x1 : Int} {g g' : zG} {r : Int} (he0 : zE N 5 i0) (h : sX3_slotEnd i0 x1 g = some (r, g')) : zM l yX3_slotEnd cX3_slotEnd 2 (some .int) { frames := 1, cells := 0, slots := 0, locals := 21 } X N g [z_r N 5 i0, z_v x1] (zQi X N r g') := by
  refine z_ofW (own := RX3) (by decide +kernel) rfl (Nat.le_of_ble_eq_true rfl) ?_
  intro p e s m args below meth c ls hF hr hw hl
  have hl : lv_has ls 2 [(0, z_r N 5 i0), (1, z_v x1)] := hl
  have hx := hF.1.1
  have hb := hF.1.2.1
  unfold sX3_slotEnd at h
  generalize s.heap = H at hw ⊢
  generalize ([] : List Loc) = locs at hw ⊢
  refine lv_aload_n hx hb dX3_slotEnd_0 rfl (lv_at hl 0 rfl) ?_
  refine lv_iload_n hx hb dX3_slotEnd_1 rfl (lv_at hl 1 rfl) ?_
  refine lv_iconst hx hb dX3_slotEnd_2 rfl ?_
  refine zr_iadd hF dX3_slotEnd_3 ?_
  obtain ⟨r1, g1, h1, h⟩ := zbd_some h
  refine zr_callVi (n := 1) (As := [z_v (x1 + 1)]) (rest := []) hF hw (czX3_slotBegin l X N he0 h1) he0 (by decide) zC_5 (z_goodV qw_352 qw_353 qw_354 qw_34 qw_355) (by decide +kernel) ⟨Nat.le_of_ble_eq_true rfl, Nat.le_of_ble_eq_true rfl⟩ ⟨rfl, rfl⟩ rfl hl.1 rfl (Nat.le_of_ble_eq_true rfl) dX3_slotEnd_4 ⟨Nat.le_of_ble_eq_true rfl, Nat.le_of_ble_eq_true rfl⟩ (fun H locs hw => ?_)
  clear h1
  generalize g1 = g at *
  refine lv_aload_n hx hb dX3_slotEnd_7 rfl (lv_at hl 0 rfl) ?_
  refine zr_get hF hw he0 (by decide) zC_5 2 (by decide) qw_600 rfl dX3_slotEnd_8 ?_
  refine zr_min hF hl.1 qw_356 h dX3_slotEnd_11 ⟨Nat.le_of_ble_eq_true rfl, Nat.le_of_ble_eq_true rfl⟩ (Nat.le_of_ble_eq_true rfl) ⟨Nat.le_of_ble_eq_true rfl, Nat.le_of_ble_eq_true rfl⟩ (fun h => ?_)
  exact zr_iret hF hr hw h dX3_slotEnd_14

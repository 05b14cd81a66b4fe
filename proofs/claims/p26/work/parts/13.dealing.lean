/-! dealing, over the machine -/
def sX0_lineUp_j91 (n : Nat) (K : Nat → Nat → Int → zG → Option (Int × zG)) (i1 : Nat) (x3 : Int) (i4 : Nat) (x5 : Int) (g : zG) : Option (Int × zG) := zbd (sX3_holdsAt i1 x5 g) (fun r1 g => zeq r1 0 (zlet (x3 + 1) (fun v2 => (K 0 i1 v2 g))) (zbd (sX1_isListed i4 g) (fun r3 g => zeq r3 0 (zlet (x3 + 1) (fun v4 => (K 0 i1 v4 g))) (zbd (sX2_add n 1 x3 x5 g) (fun _ g => zlet (x3 + 1) (fun v6 => (K 0 i1 v6 g)))))))
def sX0_lineUp_h32 (n : Nat) (K : Nat → Nat → Int → zG → Option (Int × zG)) (i1 : Nat) (x3 : Int) (g : zG) : Option (Int × zG) := zlt x3 (g 1 0 2) (zli x3 (g 1 0 2) (zbd (sX1_lineTime ((x3).toNat) (g 5 i1 0) g) (fun r2 g => zbd (sX3_holdsAt i1 r2 g) (fun r3 g => zeq r3 0 ((sX0_lineUp_j91 n K i1 x3 ((x3).toNat) r2 g)) (zbd (sX1_isFixed ((x3).toNat) g) (fun r4 g => zeq r4 0 ((sX0_lineUp_j91 n K i1 x3 ((x3).toNat) r2 g)) (zbd (sX2_add n 0 x3 r2 g) (fun _ g => zlet (x3 + 1) (fun v6 => (K 0 i1 v6 g)))))))))) (some (0, g))
def sX0_lineUp_run (n0 : Nat) : Nat → Nat → Nat → Int → zG → Option (Int × zG)
  | 0, _, _, _, _ => none
  | n + 1, 0, i1, x3, g => sX0_lineUp_h32 n0 (sX0_lineUp_run n0 n) i1 x3 g
  | _ + 1, _, _, _, _ => none
def sX0_lineUp (n : Nat) (i1 : Nat) (g : zG) : Option (Int × zG) := zbd (sX2_clear 0 g) (fun _ g => zbd (sX2_clear 1 g) (fun _ g => zbd (sX3_slotCount i1 g) (fun r3 g => zst g 2 0 2 r3 (fun g => zeq (g 5 i1 4) 0 ((sX0_lineUp_run n n 0 i1 0 g)) (some (0, g))))))
def sX0_serve_j63 (n : Nat) (K : Nat → Nat → Nat → Int → Int → Int → Int → zG → Option (Int × zG)) (i1 : Nat) (i2 : Nat) (x3 : Int) (x4 : Int) (x5 : Int) (x6 : Int) (g : zG) : Option (Int × zG) := zlt x4 (g 2 0 2) (zbd (sX3_slotBegin i2 x4 g) (fun r4 g => zri x6 (zri r4 (zbd (sX2_give i1 x5 x4 (max x6 r4) g) (fun _ g => zlet (x4 + 1) (fun v6 => zlet (x5 + 1) (fun v7 => (K 0 i1 i2 x3 v6 v7 0 g)))))))) (zbd (sX2_give i1 x5 (-1) (g 5 i2 2) g) (fun _ g => zlet (x3 + 1) (fun v2 => zlet (x5 + 1) (fun v3 => (K 0 i1 i2 v2 x4 v3 0 g)))))
def sX0_serve_h8 (n : Nat) (K : Nat → Nat → Nat → Int → Int → Int → Int → zG → Option (Int × zG)) (i1 : Nat) (i2 : Nat) (x3 : Int) (x4 : Int) (x5 : Int) (x6 : Int) (g : zG) : Option (Int × zG) := zlt x5 (g 3 i1 4) (zbd (sX2_timeAt i1 x5 g) (fun r1 g => (K 1 i1 i2 x3 x4 x5 r1 g))) (some (x3, g))
def sX0_serve_h25 (n : Nat) (K : Nat → Nat → Nat → Int → Int → Int → Int → zG → Option (Int × zG)) (i1 : Nat) (i2 : Nat) (x3 : Int) (x4 : Int) (x5 : Int) (x6 : Int) (g : zG) : Option (Int × zG) := zlt x4 (g 2 0 2) (zbd (sX3_slotEnd i2 x4 g) (fun r1 g => zle r1 x6 (zlet (x4 + 1) (fun v2 => (K 1 i1 i2 x3 v2 x5 x6 g))) (zbd (sX2_hasGiven n 0 x4 g) (fun r3 g => zeq r3 0 ((sX0_serve_j63 n K i1 i2 x3 x4 x5 x6 g)) (zlet (x4 + 1) (fun v4 => (K 1 i1 i2 x3 v4 x5 x6 g))))))) ((sX0_serve_j63 n K i1 i2 x3 x4 x5 x6 g))
def sX0_serve_run (n0 : Nat) : Nat → Nat → Nat → Nat → Int → Int → Int → Int → zG → Option (Int × zG)
  | 0, _, _, _, _, _, _, _, _ => none
  | n + 1, 0, i1, i2, x3, x4, x5, x6, g => sX0_serve_h8 n0 (sX0_serve_run n0 n) i1 i2 x3 x4 x5 x6 g
  | n + 1, 1, i1, i2, x3, x4, x5, x6, g => sX0_serve_h25 n0 (sX0_serve_run n0 n) i1 i2 x3 x4 x5 x6 g
  | _ + 1, _, _, _, _, _, _, _, _ => none
def sX0_serve (n : Nat) (i1 : Nat) (i2 : Nat) (g : zG) : Option (Int × zG) := (sX0_serve_run n n 0 i1 i2 0 0 0 0 g)
def sX0_dealOut (n : Nat) (i1 : Nat) (g : zG) : Option (Int × zG) := zbd (sX0_lineUp n i1 g) (fun _ g => zbd (sX0_serve n 0 i1 g) (fun r2 g => zbd (sX0_serve n 1 i1 g) (fun r3 g => zst g 2 0 4 r3 (fun g => zst g 2 0 3 (((g 2 0 2) - ((g 3 0 4) - r2)) - ((g 3 1 4) - (g 2 0 4))) (fun g => some (0, g))))))
def sX0_penaltyBySlots_h44 (n : Nat) (K : Nat → Nat → Int → Int → Int → Int → Int → zG → Option (Int × zG)) (i1 : Nat) (x4 : Int) (x5 : Int) (x6 : Int) (x7 : Int) (x8 : Int) (g : zG) : Option (Int × zG) := zlt x8 (g 2 0 2) (zbd (sX3_slotEnd i1 x8 g) (fun r1 g => zbd (sX2_canTake 0 x6 r1 g) (fun r2 g => zeq r2 0 (zbd (sX2_canTake 1 x7 r1 g) (fun r3 g => zeq r3 0 (zlet (x8 + 1) (fun v4 => (K 0 i1 x4 x5 x6 x7 v4 g))) (zeq x7 x4 (zbd (sX3_slotBegin i1 x8 g) (fun r7 g => zri 0 (zri (r7 - x5) (some (max 0 (r7 - x5), g))))) (zlet (x7 + 1) (fun v5 => zlet (x8 + 1) (fun v6 => (K 0 i1 x4 x5 x6 v5 v6 g))))))) (zlet (x6 + 1) (fun v8 => zlet (x8 + 1) (fun v9 => (K 0 i1 x4 x5 v8 x7 v9 g))))))) (some ((g 5 i1 2) - x5, g))
def sX0_penaltyBySlots_run (n0 : Nat) : Nat → Nat → Nat → Int → Int → Int → Int → Int → zG → Option (Int × zG)
  | 0, _, _, _, _, _, _, _, _ => none
  | n + 1, 0, i1, x4, x5, x6, x7, x8, g => sX0_penaltyBySlots_h44 n0 (sX0_penaltyBySlots_run n0 n) i1 x4 x5 x6 x7 x8 g
  | _ + 1, _, _, _, _, _, _, _, _ => none
def sX0_penaltyBySlots (n : Nat) (i1 : Nat) (x3 : Int) (g : zG) : Option (Int × zG) := zbd (sX0_lineUp n i1 g) (fun _ g => zbd (sX2_placeOf n 1 x3 g) (fun r2 g => zeq r2 (-1) (some ((-1), g)) (zbd (sX2_timeAt 1 r2 g) (fun r3 g => (sX0_penaltyBySlots_run n n 0 i1 r2 r3 0 0 0 g)))))
set_option maxHeartbeats 4000000 in
set_option maxRecDepth 100000 in
theorem wX0_lineUp_j91 {p : Program} {l : Launch} {e : Env} {s : State} {m : MethodId} {args : Array Value} {below : List Frame} {meth : Method} {c : Code} {X : zC} {N : zN} {r : Int} {g' : zG} {H : Heap} {locs : List Loc} {ls : Array Slot} (hF : zF p s m args meth c X cX0_lineUp 6 RX0) (hr : meth.sig.returnType = none) {n : Nat} {K : Nat → Nat → Int → zG → Option (Int × zG)} (hK0 : ∀ (i1 : Nat) (x3 : Int) (g : zG) (H : Heap) (locs : List Loc) (ls : Array Slot), zE N 5 i1 → zH X N g s H locs → lv_has ls 6 [(0, z_r N 2 0), (1, z_r N 5 i1), (2, z_r N 1 0), (3, z_v x3)] → K 0 i1 x3 g = some (r, g') → W p l e { frames := 3, cells := 0, slots := 0, locals := 81 } s m args below meth c H locs 0 0 (MQ below (zQv X N g') args s 0 0 (zA X)) (F0 m 32 ls [])) {i1 : Nat} {x3 : Int} {i4 : Nat} {x5 : Int} {g : zG} (he1 : zE N 5 i1) (he4 : zE N 4 i4) (hw : zH X N g s H locs) (hl : lv_has ls 6 [(0, z_r N 2 0), (1, z_r N 5 i1), (2, z_r N 1 0), (3, z_v x3), (4, z_r N 4 i4), (5, z_v x5)]) (h : sX0_lineUp_j91 n K i1 x3 i4 x5 g = some (r, g')) : W p l e { frames := 3, cells := 0, slots := 0, locals := 81 } s m args below meth c H locs 0 0 (MQ below (zQv X N g') args s 0 0 (zA X)) (F0 m 91 ls []) := by
  have hx := hF.1.1
  have hb := hF.1.2.1
  unfold sX0_lineUp_j91 at h
  refine lv_aload_n hx hb dX0_lineUp_91 rfl (lv_at hl 1 rfl) ?_
  refine lv_iload hx hb dX0_lineUp_92 (lv_at hl 5 rfl) ?_
  obtain ⟨r1, g1, h1, h⟩ := zbd_some h
  refine zr_callVi (n := 1) (As := [z_v x5]) (rest := []) hF hw (czX3_holdsAt l X N he1 h1) he1 (by decide) zC_5 (z_goodV qw_320 qw_321 qw_322 qw_34 qw_323) (by decide +kernel) ⟨Nat.le_of_ble_eq_true rfl, Nat.le_of_ble_eq_true rfl⟩ ⟨rfl, rfl⟩ rfl hl.1 rfl (Nat.le_of_ble_eq_true rfl) dX0_lineUp_94 ⟨Nat.le_of_ble_eq_true rfl, Nat.le_of_ble_eq_true rfl⟩ (fun H locs hw => ?_)
  clear h1
  generalize g1 = g at *
  refine zr_if_eq (tgt := 118) hF h dX0_lineUp_97 (by decide) (fun h => ?_) (fun h => ?_)
  · refine zr_iinc hF (lv' := fun v2 => [(3, z_v v2), (0, z_r N 2 0), (1, z_r N 5 i1), (2, z_r N 1 0), (4, z_r N 4 i4), (5, z_v x5)]) h dX0_lineUp_118 hl (k := 3) rfl (by decide) (fun _ => rfl) (fun v2 ls hl h => ?_)
    refine lv_goto (tgt := 32) hx hb dX0_lineUp_121 (by decide) ?_
    exact hK0 i1 v2 _ _ _ _ he1 hw (lv_sub hl [1, 2, 3, 0] rfl) h
  · refine lv_aload hx hb dX0_lineUp_100 (lv_at hl 4 rfl) ?_
    obtain ⟨r3, g1, h1, h⟩ := zbd_some h
    refine zr_callVi (n := 0) (As := []) (rest := []) hF hw (czX1_isListed l X N he4 h1) he4 (by decide) zC_4 (z_goodV qw_332 qw_333 qw_334 qw_30 qw_335) (by decide +kernel) ⟨Nat.le_of_ble_eq_true rfl, Nat.le_of_ble_eq_true rfl⟩ ⟨rfl, rfl⟩ rfl hl.1 rfl (Nat.le_of_ble_eq_true rfl) dX0_lineUp_102 ⟨Nat.le_of_ble_eq_true rfl, Nat.le_of_ble_eq_true rfl⟩ (fun H locs hw => ?_)
    clear h1
    generalize g1 = g at *
    refine zr_if_eq (tgt := 118) hF h dX0_lineUp_105 (by decide) (fun h => ?_) (fun h => ?_)
    · refine zr_iinc hF (lv' := fun v4 => [(3, z_v v4), (0, z_r N 2 0), (1, z_r N 5 i1), (2, z_r N 1 0), (4, z_r N 4 i4), (5, z_v x5)]) h dX0_lineUp_118 hl (k := 3) rfl (by decide) (fun _ => rfl) (fun v4 ls hl h => ?_)
      refine lv_goto (tgt := 32) hx hb dX0_lineUp_121 (by decide) ?_
      exact hK0 i1 v4 _ _ _ _ he1 hw (lv_sub hl [1, 2, 3, 0] rfl) h
    · refine lv_aload_n hx hb dX0_lineUp_108 rfl (lv_at hl 0 rfl) ?_
      refine zr_get hF hw zEf_2_0 (by decide) zC_2 1 (by decide) qw_102 rfl dX0_lineUp_109 ?_
      refine lv_iload_n hx hb dX0_lineUp_112 rfl (lv_at hl 3 rfl) ?_
      refine lv_iload hx hb dX0_lineUp_113 (lv_at hl 5 rfl) ?_
      obtain ⟨r5, g1, h1, h⟩ := zbd_some h
      refine zr_callVv (n := 2) (As := [z_v x3, z_v x5]) (rest := []) hF hw (czX2_add l X N zEf_3_1 h1) zEf_3_1 (by decide) zC_3 (z_goodV qw_328 qw_329 qw_330 qw_20 qw_331) (by decide +kernel) ⟨Nat.le_of_ble_eq_true rfl, Nat.le_of_ble_eq_true rfl⟩ ⟨rfl, rfl⟩ rfl hl.1 rfl (Nat.le_of_ble_eq_true rfl) dX0_lineUp_115 ⟨Nat.le_of_ble_eq_true rfl, Nat.le_of_ble_eq_true rfl⟩ (fun H locs hw => ?_)
      clear h1
      generalize g1 = g at *
      refine zr_iinc hF (lv' := fun v6 => [(3, z_v v6), (0, z_r N 2 0), (1, z_r N 5 i1), (2, z_r N 1 0), (4, z_r N 4 i4), (5, z_v x5)]) h dX0_lineUp_118 hl (k := 3) rfl (by decide) (fun _ => rfl) (fun v6 ls hl h => ?_)
      refine lv_goto (tgt := 32) hx hb dX0_lineUp_121 (by decide) ?_
      exact hK0 i1 v6 _ _ _ _ he1 hw (lv_sub hl [1, 2, 3, 0] rfl) h
set_option maxHeartbeats 4000000 in
set_option maxRecDepth 100000 in
theorem wX0_lineUp_h32 {p : Program} {l : Launch} {e : Env} {s : State} {m : MethodId} {args : Array Value} {below : List Frame} {meth : Method} {c : Code} {X : zC} {N : zN} {r : Int} {g' : zG} {H : Heap} {locs : List Loc} {ls : Array Slot} (hF : zF p s m args meth c X cX0_lineUp 6 RX0) (hr : meth.sig.returnType = none) {n : Nat} {K : Nat → Nat → Int → zG → Option (Int × zG)} (hK0 : ∀ (i1 : Nat) (x3 : Int) (g : zG) (H : Heap) (locs : List Loc) (ls : Array Slot), zE N 5 i1 → zH X N g s H locs → lv_has ls 6 [(0, z_r N 2 0), (1, z_r N 5 i1), (2, z_r N 1 0), (3, z_v x3)] → K 0 i1 x3 g = some (r, g') → W p l e { frames := 3, cells := 0, slots := 0, locals := 81 } s m args below meth c H locs 0 0 (MQ below (zQv X N g') args s 0 0 (zA X)) (F0 m 32 ls [])) {i1 : Nat} {x3 : Int} {g : zG} (he1 : zE N 5 i1) (hw : zH X N g s H locs) (hl : lv_has ls 6 [(0, z_r N 2 0), (1, z_r N 5 i1), (2, z_r N 1 0), (3, z_v x3)]) (h : sX0_lineUp_h32 n K i1 x3 g = some (r, g')) : W p l e { frames := 3, cells := 0, slots := 0, locals := 81 } s m args below meth c H locs 0 0 (MQ below (zQv X N g') args s 0 0 (zA X)) (F0 m 32 ls []) := by
  have hx := hF.1.1
  have hb := hF.1.2.1
  unfold sX0_lineUp_h32 at h
  refine lv_iload_n hx hb dX0_lineUp_32 rfl (lv_at hl 3 rfl) ?_
  refine lv_aload_n hx hb dX0_lineUp_33 rfl (lv_at hl 2 rfl) ?_
  refine zr_size hF hw hl.1 (i := 0) zEf_1_0 qw_313 (Nat.le_of_ble_eq_true rfl) dX0_lineUp_34 ⟨Nat.le_of_ble_eq_true rfl, Nat.le_of_ble_eq_true rfl⟩ ⟨Nat.le_of_ble_eq_true rfl, Nat.le_of_ble_eq_true rfl⟩ (fun H locs hw => ?_)
  refine zr_icmp_ge (tgt := 124) hF h dX0_lineUp_37 (by decide) (fun h => ?_) (fun h => ?_)
  · exact zr_vret hF hr hw h dX0_lineUp_124
  · refine lv_aload_n hx hb dX0_lineUp_40 rfl (lv_at hl 2 rfl) ?_
    refine lv_iload_n hx hb dX0_lineUp_41 rfl (lv_at hl 3 rfl) ?_
    refine zr_lget0 hF hw hl.1 qw_314 h (Nat.le_of_ble_eq_true rfl) dX0_lineUp_42 ⟨Nat.le_of_ble_eq_true rfl, Nat.le_of_ble_eq_true rfl⟩ ⟨Nat.le_of_ble_eq_true rfl, Nat.le_of_ble_eq_true rfl⟩ (fun H locs hw hf1 h => ?_)
    refine zr_cast hF hw hf1 (by decide) zC_4 qw_315 dX0_lineUp_45 ?_
    refine lv_astore (lv' := [(4, z_r N 4 ((x3).toNat)), (0, z_r N 2 0), (1, z_r N 5 i1), (2, z_r N 1 0), (3, z_v x3)]) hx hb dX0_lineUp_48 hl (by decide) rfl (fun ls hl => ?_)
    refine lv_aload hx hb dX0_lineUp_50 (lv_at hl 0 rfl) ?_
    refine lv_aload_n hx hb dX0_lineUp_52 rfl (lv_at hl 2 rfl) ?_
    refine zr_get hF hw he1 (by decide) zC_5 0 (by decide) qw_597 rfl dX0_lineUp_53 ?_
    obtain ⟨r2, g1, h1, h⟩ := zbd_some h
    refine zr_callVi (n := 1) (As := [z_v (g 5 i1 0)]) (rest := []) hF hw (czX1_lineTime l X N hf1 h1) hf1 (by decide) zC_4 (z_goodV qw_316 qw_317 qw_318 qw_30 qw_319) (by decide +kernel) ⟨Nat.le_of_ble_eq_true rfl, Nat.le_of_ble_eq_true rfl⟩ ⟨rfl, rfl⟩ rfl hl.1 rfl (Nat.le_of_ble_eq_true rfl) dX0_lineUp_56 ⟨Nat.le_of_ble_eq_true rfl, Nat.le_of_ble_eq_true rfl⟩ (fun H locs hw => ?_)
    clear h1
    generalize g1 = g at *
    refine lv_istore (lv' := [(5, z_v r2), (4, z_r N 4 ((x3).toNat)), (0, z_r N 2 0), (1, z_r N 5 i1), (2, z_r N 1 0), (3, z_v x3)]) hx hb dX0_lineUp_59 hl (by decide) rfl (fun ls hl => ?_)
    refine lv_aload_n hx hb dX0_lineUp_61 rfl (lv_at hl 3 rfl) ?_
    refine lv_iload hx hb dX0_lineUp_62 (lv_at hl 0 rfl) ?_
    obtain ⟨r3, g1, h1, h⟩ := zbd_some h
    refine zr_callVi (n := 1) (As := [z_v r2]) (rest := []) hF hw (czX3_holdsAt l X N he1 h1) he1 (by decide) zC_5 (z_goodV qw_320 qw_321 qw_322 qw_34 qw_323) (by decide +kernel) ⟨Nat.le_of_ble_eq_true rfl, Nat.le_of_ble_eq_true rfl⟩ ⟨rfl, rfl⟩ rfl hl.1 rfl (Nat.le_of_ble_eq_true rfl) dX0_lineUp_64 ⟨Nat.le_of_ble_eq_true rfl, Nat.le_of_ble_eq_true rfl⟩ (fun H locs hw => ?_)
    clear h1
    generalize g1 = g at *
    refine zr_if_eq (tgt := 91) hF h dX0_lineUp_67 (by decide) (fun h => ?_) (fun h => ?_)
    · exact wX0_lineUp_j91 hF hr hK0 he1 hf1 hw (lv_sub hl [2, 3, 4, 5, 1, 0] rfl) h
    · refine lv_aload hx hb dX0_lineUp_70 (lv_at hl 1 rfl) ?_
      obtain ⟨r4, g1, h1, h⟩ := zbd_some h
      refine zr_callVi (n := 0) (As := []) (rest := []) hF hw (czX1_isFixed l X N hf1 h1) hf1 (by decide) zC_4 (z_goodV qw_324 qw_325 qw_326 qw_30 qw_327) (by decide +kernel) ⟨Nat.le_of_ble_eq_true rfl, Nat.le_of_ble_eq_true rfl⟩ ⟨rfl, rfl⟩ rfl hl.1 rfl (Nat.le_of_ble_eq_true rfl) dX0_lineUp_72 ⟨Nat.le_of_ble_eq_true rfl, Nat.le_of_ble_eq_true rfl⟩ (fun H locs hw => ?_)
      clear h1
      generalize g1 = g at *
      refine zr_if_eq (tgt := 91) hF h dX0_lineUp_75 (by decide) (fun h => ?_) (fun h => ?_)
      · exact wX0_lineUp_j91 hF hr hK0 he1 hf1 hw (lv_sub hl [2, 3, 4, 5, 1, 0] rfl) h
      · refine lv_aload_n hx hb dX0_lineUp_78 rfl (lv_at hl 2 rfl) ?_
        refine zr_get hF hw zEf_2_0 (by decide) zC_2 0 (by decide) qw_100 rfl dX0_lineUp_79 ?_
        refine lv_iload_n hx hb dX0_lineUp_82 rfl (lv_at hl 5 rfl) ?_
        refine lv_iload hx hb dX0_lineUp_83 (lv_at hl 0 rfl) ?_
        obtain ⟨r5, g1, h1, h⟩ := zbd_some h
        refine zr_callVv (n := 2) (As := [z_v x3, z_v r2]) (rest := []) hF hw (czX2_add l X N zEf_3_0 h1) zEf_3_0 (by decide) zC_3 (z_goodV qw_328 qw_329 qw_330 qw_20 qw_331) (by decide +kernel) ⟨Nat.le_of_ble_eq_true rfl, Nat.le_of_ble_eq_true rfl⟩ ⟨rfl, rfl⟩ rfl hl.1 rfl (Nat.le_of_ble_eq_true rfl) dX0_lineUp_85 ⟨Nat.le_of_ble_eq_true rfl, Nat.le_of_ble_eq_true rfl⟩ (fun H locs hw => ?_)
        clear h1
        generalize g1 = g at *
        refine lv_goto (tgt := 118) hx hb dX0_lineUp_88 (by decide) ?_
        refine zr_iinc hF (lv' := fun v6 => [(3, z_v v6), (5, z_v r2), (4, z_r N 4 ((x3).toNat)), (0, z_r N 2 0), (1, z_r N 5 i1), (2, z_r N 1 0)]) h dX0_lineUp_118 hl (k := 5) rfl (by decide) (fun _ => rfl) (fun v6 ls hl h => ?_)
        refine lv_goto (tgt := 32) hx hb dX0_lineUp_121 (by decide) ?_
        exact hK0 i1 v6 _ _ _ _ he1 hw (lv_sub hl [3, 4, 5, 0] rfl) h
set_option maxHeartbeats 4000000 in
set_option maxRecDepth 100000 in
theorem wX0_lineUp_run {p : Program} {l : Launch} {e : Env} {s : State} {m : MethodId} {args : Array Value} {below : List Frame} {meth : Method} {c : Code} {X : zC} {N : zN} {r : Int} {g' : zG} (hF : zF p s m args meth c X cX0_lineUp 6 RX0) (hr : meth.sig.returnType = none) {n0 : Nat} : ∀ n : Nat, (∀ (i1 : Nat) (x3 : Int) (g : zG) (H : Heap) (locs : List Loc) (ls : Array Slot), zE N 5 i1 → zH X N g s H locs → lv_has ls 6 [(0, z_r N 2 0), (1, z_r N 5 i1), (2, z_r N 1 0), (3, z_v x3)] → sX0_lineUp_run n0 n 0 i1 x3 g = some (r, g') → W p l e { frames := 3, cells := 0, slots := 0, locals := 81 } s m args below meth c H locs 0 0 (MQ below (zQv X N g') args s 0 0 (zA X)) (F0 m 32 ls [])) := by
  intro n
  induction n with
  | zero => exact fun _ _ _ _ _ _ _ _ _  h => (by cases h)
  | succ n ih => exact fun i1 x3 g H locs ls he1 hw hl h => wX0_lineUp_h32 hF hr ih he1 hw hl h
set_option maxHeartbeats 4000000 in
set_option maxRecDepth 100000 in
theorem czX0_lineUp (l : Launch) (X : zC) (N : zN) {n : Nat} {i1 : Nat} {g g' : zG} {r : Int} (he1 : zE N 5 i1) (h : sX0_lineUp n i1 g = some (r, g')) : zM l yX0_lineUp cX0_lineUp 6 none { frames := 3, cells := 0, slots := 0, locals := 81 } X N g [z_r N 2 0, z_r N 5 i1, z_r N 1 0] (zQv X N g') := by
  refine z_ofW (own := RX0) (by decide +kernel) rfl (Nat.le_of_ble_eq_true rfl) ?_
  intro p e s m args below meth c ls hF hr hw hl
  have hl : lv_has ls 6 [(0, z_r N 2 0), (1, z_r N 5 i1), (2, z_r N 1 0)] := hl
  have hx := hF.1.1
  have hb := hF.1.2.1
  have hKK := wX0_lineUp_run hF hr (r := r) (g' := g') (X := X) (N := N) (n0 := n) (l := l) (e := e) (below := below) n
  have hK0 := hKK
  unfold sX0_lineUp at h
  generalize s.heap = H at hw ⊢
  generalize ([] : List Loc) = locs at hw ⊢
  refine lv_aload_n hx hb dX0_lineUp_0 rfl (lv_at hl 0 rfl) ?_
  refine zr_get hF hw zEf_2_0 (by decide) zC_2 0 (by decide) qw_100 rfl dX0_lineUp_1 ?_
  obtain ⟨r1, g1, h1, h⟩ := zbd_some h
  refine zr_callVv (n := 0) (As := []) (rest := []) hF hw (czX2_clear l X N zEf_3_0 h1) zEf_3_0 (by decide) zC_3 (z_goodV qw_305 qw_306 qw_307 qw_20 qw_308) (by decide +kernel) ⟨Nat.le_of_ble_eq_true rfl, Nat.le_of_ble_eq_true rfl⟩ ⟨rfl, rfl⟩ rfl hl.1 rfl (Nat.le_of_ble_eq_true rfl) dX0_lineUp_4 ⟨Nat.le_of_ble_eq_true rfl, Nat.le_of_ble_eq_true rfl⟩ (fun H locs hw => ?_)
  clear h1
  generalize g1 = g at *
  refine lv_aload_n hx hb dX0_lineUp_7 rfl (lv_at hl 0 rfl) ?_
  refine zr_get hF hw zEf_2_0 (by decide) zC_2 1 (by decide) qw_102 rfl dX0_lineUp_8 ?_
  obtain ⟨r2, g1, h1, h⟩ := zbd_some h
  refine zr_callVv (n := 0) (As := []) (rest := []) hF hw (czX2_clear l X N zEf_3_1 h1) zEf_3_1 (by decide) zC_3 (z_goodV qw_305 qw_306 qw_307 qw_20 qw_308) (by decide +kernel) ⟨Nat.le_of_ble_eq_true rfl, Nat.le_of_ble_eq_true rfl⟩ ⟨rfl, rfl⟩ rfl hl.1 rfl (Nat.le_of_ble_eq_true rfl) dX0_lineUp_11 ⟨Nat.le_of_ble_eq_true rfl, Nat.le_of_ble_eq_true rfl⟩ (fun H locs hw => ?_)
  clear h1
  generalize g1 = g at *
  refine lv_aload_n hx hb dX0_lineUp_14 rfl (lv_at hl 0 rfl) ?_
  refine lv_aload_n hx hb dX0_lineUp_15 rfl (lv_at hl 1 rfl) ?_
  obtain ⟨r3, g1, h1, h⟩ := zbd_some h
  refine zr_callVi (n := 0) (As := []) (rest := [z_r N 2 0]) hF hw (czX3_slotCount l X N he1 h1) he1 (by decide) zC_5 (z_goodV qw_309 qw_310 qw_311 qw_34 qw_312) (by decide +kernel) ⟨Nat.le_of_ble_eq_true rfl, Nat.le_of_ble_eq_true rfl⟩ ⟨rfl, rfl⟩ rfl hl.1 rfl (Nat.le_of_ble_eq_true rfl) dX0_lineUp_16 ⟨Nat.le_of_ble_eq_true rfl, Nat.le_of_ble_eq_true rfl⟩ (fun H locs hw => ?_)
  clear h1
  generalize g1 = g at *
  refine zr_put hF hw zEf_2_0 (by decide) zC_2 2 (by decide) (by decide) qw_104 rfl (by decide +kernel) h dX0_lineUp_19 (fun g H locs hw h => ?_)
  refine lv_aload_n hx hb dX0_lineUp_22 rfl (lv_at hl 1 rfl) ?_
  refine zr_get hF hw he1 (by decide) zC_5 4 (by decide) qw_605 rfl dX0_lineUp_23 ?_
  refine zr_if_eq (tgt := 30) hF h dX0_lineUp_26 (by decide) (fun h => ?_) (fun h => ?_)
  · refine lv_iconst hx hb dX0_lineUp_30 rfl ?_
    refine lv_istore_n (lv' := [(3, z_v 0), (0, z_r N 2 0), (1, z_r N 5 i1), (2, z_r N 1 0)]) hx hb dX0_lineUp_31 rfl hl (by decide) rfl (fun ls hl => ?_)
    exact hK0 i1 0 _ _ _ _ he1 hw (lv_sub hl [1, 2, 3, 0] rfl) h
  · exact zr_vret hF hr hw h dX0_lineUp_29
set_option maxHeartbeats 4000000 in
set_option maxRecDepth 100000 in
theorem wX0_serve_j63 {p : Program} {l : Launch} {e : Env} {s : State} {m : MethodId} {args : Array Value} {below : List Frame} {meth : Method} {c : Code} {X : zC} {N : zN} {r : Int} {g' : zG} {H : Heap} {locs : List Loc} {ls : Array Slot} (hF : zF p s m args meth c X cX0_serve 7 RX0) (hr : meth.sig.returnType = (some .int)) {n : Nat} {K : Nat → Nat → Nat → Int → Int → Int → Int → zG → Option (Int × zG)} (hK0 : ∀ (i1 : Nat) (i2 : Nat) (x3 : Int) (x4 : Int) (x5 : Int) (x6 : Int) (g : zG) (H : Heap) (locs : List Loc) (ls : Array Slot), zE N 3 i1 → zE N 5 i2 → zH X N g s H locs → lv_has ls 7 [(0, z_r N 2 0), (1, z_r N 3 i1), (2, z_r N 5 i2), (3, z_v x3), (4, z_v x4), (5, z_v x5)] → K 0 i1 i2 x3 x4 x5 x6 g = some (r, g') → W p l e { frames := 2, cells := 0, slots := 0, locals := 44 } s m args below meth c H locs 0 0 (MQ below (zQi X N r g') args s 0 0 (zA X)) (F0 m 8 ls [])) (hK1 : ∀ (i1 : Nat) (i2 : Nat) (x3 : Int) (x4 : Int) (x5 : Int) (x6 : Int) (g : zG) (H : Heap) (locs : List Loc) (ls : Array Slot), zE N 3 i1 → zE N 5 i2 → zH X N g s H locs → lv_has ls 7 [(0, z_r N 2 0), (1, z_r N 3 i1), (2, z_r N 5 i2), (3, z_v x3), (4, z_v x4), (5, z_v x5), (6, z_v x6)] → K 1 i1 i2 x3 x4 x5 x6 g = some (r, g') → W p l e { frames := 2, cells := 0, slots := 0, locals := 44 } s m args below meth c H locs 0 0 (MQ below (zQi X N r g') args s 0 0 (zA X)) (F0 m 25 ls [])) {i1 : Nat} {i2 : Nat} {x3 : Int} {x4 : Int} {x5 : Int} {x6 : Int} {g : zG} (he1 : zE N 3 i1) (he2 : zE N 5 i2) (hw : zH X N g s H locs) (hl : lv_has ls 7 [(0, z_r N 2 0), (1, z_r N 3 i1), (2, z_r N 5 i2), (3, z_v x3), (4, z_v x4), (5, z_v x5), (6, z_v x6)]) (h : sX0_serve_j63 n K i1 i2 x3 x4 x5 x6 g = some (r, g')) : W p l e { frames := 2, cells := 0, slots := 0, locals := 44 } s m args below meth c H locs 0 0 (MQ below (zQi X N r g') args s 0 0 (zA X)) (F0 m 63 ls []) := by
  have hx := hF.1.1
  have hb := hF.1.2.1
  unfold sX0_serve_j63 at h
  refine lv_iload hx hb dX0_serve_63 (lv_at hl 4 rfl) ?_
  refine lv_aload_n hx hb dX0_serve_65 rfl (lv_at hl 0 rfl) ?_
  refine zr_get hF hw zEf_2_0 (by decide) zC_2 2 (by decide) qw_104 rfl dX0_serve_66 ?_
  refine zr_icmp_ge (tgt := 97) hF h dX0_serve_69 (by decide) (fun h => ?_) (fun h => ?_)
  · refine lv_aload_n hx hb dX0_serve_97 rfl (lv_at hl 1 rfl) ?_
    refine lv_iload hx hb dX0_serve_98 (lv_at hl 5 rfl) ?_
    refine lv_iconst hx hb dX0_serve_100 rfl ?_
    refine lv_aload_n hx hb dX0_serve_101 rfl (lv_at hl 2 rfl) ?_
    refine zr_get hF hw he2 (by decide) zC_5 2 (by decide) qw_601 rfl dX0_serve_102 ?_
    obtain ⟨r1, g1, h1, h⟩ := zbd_some h
    refine zr_callVv (n := 3) (As := [z_v x5, z_v ((-1)), z_v (g 5 i2 2)]) (rest := []) hF hw (czX2_give l X N he1 h1) he1 (by decide) zC_3 (z_goodV qw_365 qw_366 qw_367 qw_20 qw_368) (by decide +kernel) ⟨Nat.le_of_ble_eq_true rfl, Nat.le_of_ble_eq_true rfl⟩ ⟨rfl, rfl⟩ rfl hl.1 rfl (Nat.le_of_ble_eq_true rfl) dX0_serve_105 ⟨Nat.le_of_ble_eq_true rfl, Nat.le_of_ble_eq_true rfl⟩ (fun H locs hw => ?_)
    clear h1
    generalize g1 = g at *
    refine zr_iinc hF (lv' := fun v2 => [(3, z_v v2), (0, z_r N 2 0), (1, z_r N 3 i1), (2, z_r N 5 i2), (4, z_v x4), (5, z_v x5), (6, z_v x6)]) h dX0_serve_108 hl (k := 3) rfl (by decide) (fun _ => rfl) (fun v2 ls hl h => ?_)
    refine zr_iinc hF (lv' := fun v3 => [(5, z_v v3), (3, z_v v2), (0, z_r N 2 0), (1, z_r N 3 i1), (2, z_r N 5 i2), (4, z_v x4), (6, z_v x6)]) h dX0_serve_111 hl (k := 5) rfl (by decide) (fun _ => rfl) (fun v3 ls hl h => ?_)
    refine lv_goto (tgt := 8) hx hb dX0_serve_114 (by decide) ?_
    exact hK0 i1 i2 v2 x4 v3 0 _ _ _ _ he1 he2 hw (lv_sub hl [2, 3, 4, 1, 5, 0] rfl) h
  · refine lv_aload_n hx hb dX0_serve_72 rfl (lv_at hl 1 rfl) ?_
    refine lv_iload hx hb dX0_serve_73 (lv_at hl 5 rfl) ?_
    refine lv_iload hx hb dX0_serve_75 (lv_at hl 4 rfl) ?_
    refine lv_iload hx hb dX0_serve_77 (lv_at hl 6 rfl) ?_
    refine lv_aload_n hx hb dX0_serve_79 rfl (lv_at hl 2 rfl) ?_
    refine lv_iload hx hb dX0_serve_80 (lv_at hl 4 rfl) ?_
    obtain ⟨r4, g1, h1, h⟩ := zbd_some h
    refine zr_callVi (n := 1) (As := [z_v x4]) (rest := [z_v x6, z_v x4, z_v x5, z_r N 3 i1]) hF hw (czX3_slotBegin l X N he2 h1) he2 (by decide) zC_5 (z_goodV qw_363 qw_353 qw_354 qw_34 qw_355) (by decide +kernel) ⟨Nat.le_of_ble_eq_true rfl, Nat.le_of_ble_eq_true rfl⟩ ⟨rfl, rfl⟩ rfl hl.1 rfl (Nat.le_of_ble_eq_true rfl) dX0_serve_82 ⟨Nat.le_of_ble_eq_true rfl, Nat.le_of_ble_eq_true rfl⟩ (fun H locs hw => ?_)
    clear h1
    generalize g1 = g at *
    refine zr_max hF hl.1 qw_364 h dX0_serve_85 ⟨Nat.le_of_ble_eq_true rfl, Nat.le_of_ble_eq_true rfl⟩ (Nat.le_of_ble_eq_true rfl) ⟨Nat.le_of_ble_eq_true rfl, Nat.le_of_ble_eq_true rfl⟩ (fun h => ?_)
    obtain ⟨r5, g1, h1, h⟩ := zbd_some h
    refine zr_callVv (n := 3) (As := [z_v x5, z_v x4, z_v (max x6 r4)]) (rest := []) hF hw (czX2_give l X N he1 h1) he1 (by decide) zC_3 (z_goodV qw_365 qw_366 qw_367 qw_20 qw_368) (by decide +kernel) ⟨Nat.le_of_ble_eq_true rfl, Nat.le_of_ble_eq_true rfl⟩ ⟨rfl, rfl⟩ rfl hl.1 rfl (Nat.le_of_ble_eq_true rfl) dX0_serve_88 ⟨Nat.le_of_ble_eq_true rfl, Nat.le_of_ble_eq_true rfl⟩ (fun H locs hw => ?_)
    clear h1
    generalize g1 = g at *
    refine zr_iinc hF (lv' := fun v6 => [(4, z_v v6), (0, z_r N 2 0), (1, z_r N 3 i1), (2, z_r N 5 i2), (3, z_v x3), (5, z_v x5), (6, z_v x6)]) h dX0_serve_91 hl (k := 4) rfl (by decide) (fun _ => rfl) (fun v6 ls hl h => ?_)
    refine lv_goto (tgt := 111) hx hb dX0_serve_94 (by decide) ?_
    refine zr_iinc hF (lv' := fun v7 => [(5, z_v v7), (4, z_v v6), (0, z_r N 2 0), (1, z_r N 3 i1), (2, z_r N 5 i2), (3, z_v x3), (6, z_v x6)]) h dX0_serve_111 hl (k := 5) rfl (by decide) (fun _ => rfl) (fun v7 ls hl h => ?_)
    refine lv_goto (tgt := 8) hx hb dX0_serve_114 (by decide) ?_
    exact hK0 i1 i2 x3 v6 v7 0 _ _ _ _ he1 he2 hw (lv_sub hl [2, 3, 4, 5, 1, 0] rfl) h
set_option maxHeartbeats 4000000 in
set_option maxRecDepth 100000 in
theorem wX0_serve_h8 {p : Program} {l : Launch} {e : Env} {s : State} {m : MethodId} {args : Array Value} {below : List Frame} {meth : Method} {c : Code} {X : zC} {N : zN} {r : Int} {g' : zG} {H : Heap} {locs : List Loc} {ls : Array Slot} (hF : zF p s m args meth c X cX0_serve 7 RX0) (hr : meth.sig.returnType = (some .int)) {n : Nat} {K : Nat → Nat → Nat → Int → Int → Int → Int → zG → Option (Int × zG)} (hK0 : ∀ (i1 : Nat) (i2 : Nat) (x3 : Int) (x4 : Int) (x5 : Int) (x6 : Int) (g : zG) (H : Heap) (locs : List Loc) (ls : Array Slot), zE N 3 i1 → zE N 5 i2 → zH X N g s H locs → lv_has ls 7 [(0, z_r N 2 0), (1, z_r N 3 i1), (2, z_r N 5 i2), (3, z_v x3), (4, z_v x4), (5, z_v x5)] → K 0 i1 i2 x3 x4 x5 x6 g = some (r, g') → W p l e { frames := 2, cells := 0, slots := 0, locals := 44 } s m args below meth c H locs 0 0 (MQ below (zQi X N r g') args s 0 0 (zA X)) (F0 m 8 ls [])) (hK1 : ∀ (i1 : Nat) (i2 : Nat) (x3 : Int) (x4 : Int) (x5 : Int) (x6 : Int) (g : zG) (H : Heap) (locs : List Loc) (ls : Array Slot), zE N 3 i1 → zE N 5 i2 → zH X N g s H locs → lv_has ls 7 [(0, z_r N 2 0), (1, z_r N 3 i1), (2, z_r N 5 i2), (3, z_v x3), (4, z_v x4), (5, z_v x5), (6, z_v x6)] → K 1 i1 i2 x3 x4 x5 x6 g = some (r, g') → W p l e { frames := 2, cells := 0, slots := 0, locals := 44 } s m args below meth c H locs 0 0 (MQ below (zQi X N r g') args s 0 0 (zA X)) (F0 m 25 ls [])) {i1 : Nat} {i2 : Nat} {x3 : Int} {x4 : Int} {x5 : Int} {x6 : Int} {g : zG} (he1 : zE N 3 i1) (he2 : zE N 5 i2) (hw : zH X N g s H locs) (hl : lv_has ls 7 [(0, z_r N 2 0), (1, z_r N 3 i1), (2, z_r N 5 i2), (3, z_v x3), (4, z_v x4), (5, z_v x5)]) (h : sX0_serve_h8 n K i1 i2 x3 x4 x5 x6 g = some (r, g')) : W p l e { frames := 2, cells := 0, slots := 0, locals := 44 } s m args below meth c H locs 0 0 (MQ below (zQi X N r g') args s 0 0 (zA X)) (F0 m 8 ls []) := by
  have hx := hF.1.1
  have hb := hF.1.2.1
  unfold sX0_serve_h8 at h
  refine lv_iload hx hb dX0_serve_8 (lv_at hl 5 rfl) ?_
  refine lv_aload_n hx hb dX0_serve_10 rfl (lv_at hl 1 rfl) ?_
  refine zr_get hF hw he1 (by decide) zC_3 4 (by decide) qw_86 rfl dX0_serve_11 ?_
  refine zr_icmp_ge (tgt := 117) hF h dX0_serve_14 (by decide) (fun h => ?_) (fun h => ?_)
  · refine lv_iload_n hx hb dX0_serve_117 rfl (lv_at hl 3 rfl) ?_
    exact zr_iret hF hr hw h dX0_serve_118
  · refine lv_aload_n hx hb dX0_serve_17 rfl (lv_at hl 1 rfl) ?_
    refine lv_iload hx hb dX0_serve_18 (lv_at hl 5 rfl) ?_
    obtain ⟨r1, g1, h1, h⟩ := zbd_some h
    refine zr_callVi (n := 1) (As := [z_v x5]) (rest := []) hF hw (czX2_timeAt l X N he1 h1) he1 (by decide) zC_3 (z_goodV qw_340 qw_341 qw_342 qw_20 qw_343) (by decide +kernel) ⟨Nat.le_of_ble_eq_true rfl, Nat.le_of_ble_eq_true rfl⟩ ⟨rfl, rfl⟩ rfl hl.1 rfl (Nat.le_of_ble_eq_true rfl) dX0_serve_20 ⟨Nat.le_of_ble_eq_true rfl, Nat.le_of_ble_eq_true rfl⟩ (fun H locs hw => ?_)
    clear h1
    generalize g1 = g at *
    refine lv_istore (lv' := [(6, z_v r1), (0, z_r N 2 0), (1, z_r N 3 i1), (2, z_r N 5 i2), (3, z_v x3), (4, z_v x4), (5, z_v x5)]) hx hb dX0_serve_23 hl (by decide) rfl (fun ls hl => ?_)
    exact hK1 i1 i2 x3 x4 x5 r1 _ _ _ _ he1 he2 hw (lv_sub hl [1, 2, 3, 4, 5, 6, 0] rfl) h
set_option maxHeartbeats 4000000 in
set_option maxRecDepth 100000 in
theorem wX0_serve_h25 {p : Program} {l : Launch} {e : Env} {s : State} {m : MethodId} {args : Array Value} {below : List Frame} {meth : Method} {c : Code} {X : zC} {N : zN} {r : Int} {g' : zG} {H : Heap} {locs : List Loc} {ls : Array Slot} (hF : zF p s m args meth c X cX0_serve 7 RX0) (hr : meth.sig.returnType = (some .int)) {n : Nat} {K : Nat → Nat → Nat → Int → Int → Int → Int → zG → Option (Int × zG)} (hK0 : ∀ (i1 : Nat) (i2 : Nat) (x3 : Int) (x4 : Int) (x5 : Int) (x6 : Int) (g : zG) (H : Heap) (locs : List Loc) (ls : Array Slot), zE N 3 i1 → zE N 5 i2 → zH X N g s H locs → lv_has ls 7 [(0, z_r N 2 0), (1, z_r N 3 i1), (2, z_r N 5 i2), (3, z_v x3), (4, z_v x4), (5, z_v x5)] → K 0 i1 i2 x3 x4 x5 x6 g = some (r, g') → W p l e { frames := 2, cells := 0, slots := 0, locals := 44 } s m args below meth c H locs 0 0 (MQ below (zQi X N r g') args s 0 0 (zA X)) (F0 m 8 ls [])) (hK1 : ∀ (i1 : Nat) (i2 : Nat) (x3 : Int) (x4 : Int) (x5 : Int) (x6 : Int) (g : zG) (H : Heap) (locs : List Loc) (ls : Array Slot), zE N 3 i1 → zE N 5 i2 → zH X N g s H locs → lv_has ls 7 [(0, z_r N 2 0), (1, z_r N 3 i1), (2, z_r N 5 i2), (3, z_v x3), (4, z_v x4), (5, z_v x5), (6, z_v x6)] → K 1 i1 i2 x3 x4 x5 x6 g = some (r, g') → W p l e { frames := 2, cells := 0, slots := 0, locals := 44 } s m args below meth c H locs 0 0 (MQ below (zQi X N r g') args s 0 0 (zA X)) (F0 m 25 ls [])) {i1 : Nat} {i2 : Nat} {x3 : Int} {x4 : Int} {x5 : Int} {x6 : Int} {g : zG} (he1 : zE N 3 i1) (he2 : zE N 5 i2) (hw : zH X N g s H locs) (hl : lv_has ls 7 [(0, z_r N 2 0), (1, z_r N 3 i1), (2, z_r N 5 i2), (3, z_v x3), (4, z_v x4), (5, z_v x5), (6, z_v x6)]) (h : sX0_serve_h25 n K i1 i2 x3 x4 x5 x6 g = some (r, g')) : W p l e { frames := 2, cells := 0, slots := 0, locals := 44 } s m args below meth c H locs 0 0 (MQ below (zQi X N r g') args s 0 0 (zA X)) (F0 m 25 ls []) := by
  have hx := hF.1.1
  have hb := hF.1.2.1
  unfold sX0_serve_h25 at h
  refine lv_iload hx hb dX0_serve_25 (lv_at hl 4 rfl) ?_
  refine lv_aload_n hx hb dX0_serve_27 rfl (lv_at hl 0 rfl) ?_
  refine zr_get hF hw zEf_2_0 (by decide) zC_2 2 (by decide) qw_104 rfl dX0_serve_28 ?_
  refine zr_icmp_ge (tgt := 63) hF h dX0_serve_31 (by decide) (fun h => ?_) (fun h => ?_)
  · exact wX0_serve_j63 hF hr hK0 hK1 he1 he2 hw (lv_sub hl [0, 1, 2, 3, 4, 5, 6] rfl) h
  · refine lv_aload_n hx hb dX0_serve_34 rfl (lv_at hl 2 rfl) ?_
    refine lv_iload hx hb dX0_serve_35 (lv_at hl 4 rfl) ?_
    obtain ⟨r1, g1, h1, h⟩ := zbd_some h
    refine zr_callVi (n := 1) (As := [z_v x4]) (rest := []) hF hw (czX3_slotEnd l X N he2 h1) he2 (by decide) zC_5 (z_goodV qw_348 qw_349 qw_350 qw_34 qw_351) (by decide +kernel) ⟨Nat.le_of_ble_eq_true rfl, Nat.le_of_ble_eq_true rfl⟩ ⟨rfl, rfl⟩ rfl hl.1 rfl (Nat.le_of_ble_eq_true rfl) dX0_serve_37 ⟨Nat.le_of_ble_eq_true rfl, Nat.le_of_ble_eq_true rfl⟩ (fun H locs hw => ?_)
    clear h1
    generalize g1 = g at *
    refine lv_iload hx hb dX0_serve_40 (lv_at hl 6 rfl) ?_
    refine zr_icmp_le (tgt := 57) hF h dX0_serve_42 (by decide) (fun h => ?_) (fun h => ?_)
    · refine zr_iinc hF (lv' := fun v2 => [(4, z_v v2), (0, z_r N 2 0), (1, z_r N 3 i1), (2, z_r N 5 i2), (3, z_v x3), (5, z_v x5), (6, z_v x6)]) h dX0_serve_57 hl (k := 4) rfl (by decide) (fun _ => rfl) (fun v2 ls hl h => ?_)
      refine lv_goto (tgt := 25) hx hb dX0_serve_60 (by decide) ?_
      exact hK1 i1 i2 x3 v2 x5 x6 _ _ _ _ he1 he2 hw (lv_sub hl [1, 2, 3, 4, 0, 5, 6] rfl) h
    · refine lv_aload_n hx hb dX0_serve_45 rfl (lv_at hl 0 rfl) ?_
      refine zr_get hF hw zEf_2_0 (by decide) zC_2 0 (by decide) qw_100 rfl dX0_serve_46 ?_
      refine lv_iload hx hb dX0_serve_49 (lv_at hl 4 rfl) ?_
      obtain ⟨r3, g1, h1, h⟩ := zbd_some h
      refine zr_callVi (n := 1) (As := [z_v x4]) (rest := []) hF hw (czX2_hasGiven l X N zEf_3_0 h1) zEf_3_0 (by decide) zC_3 (z_goodV qw_359 qw_360 qw_361 qw_20 qw_362) (by decide +kernel) ⟨Nat.le_of_ble_eq_true rfl, Nat.le_of_ble_eq_true rfl⟩ ⟨rfl, rfl⟩ rfl hl.1 rfl (Nat.le_of_ble_eq_true rfl) dX0_serve_51 ⟨Nat.le_of_ble_eq_true rfl, Nat.le_of_ble_eq_true rfl⟩ (fun H locs hw => ?_)
      clear h1
      generalize g1 = g at *
      refine zr_if_eq (tgt := 63) hF h dX0_serve_54 (by decide) (fun h => ?_) (fun h => ?_)
      · exact wX0_serve_j63 hF hr hK0 hK1 he1 he2 hw (lv_sub hl [0, 1, 2, 3, 4, 5, 6] rfl) h
      · refine zr_iinc hF (lv' := fun v4 => [(4, z_v v4), (0, z_r N 2 0), (1, z_r N 3 i1), (2, z_r N 5 i2), (3, z_v x3), (5, z_v x5), (6, z_v x6)]) h dX0_serve_57 hl (k := 4) rfl (by decide) (fun _ => rfl) (fun v4 ls hl h => ?_)
        refine lv_goto (tgt := 25) hx hb dX0_serve_60 (by decide) ?_
        exact hK1 i1 i2 x3 v4 x5 x6 _ _ _ _ he1 he2 hw (lv_sub hl [1, 2, 3, 4, 0, 5, 6] rfl) h
set_option maxHeartbeats 4000000 in
set_option maxRecDepth 100000 in
theorem wX0_serve_run {p : Program} {l : Launch} {e : Env} {s : State} {m : MethodId} {args : Array Value} {below : List Frame} {meth : Method} {c : Code} {X : zC} {N : zN} {r : Int} {g' : zG} (hF : zF p s m args meth c X cX0_serve 7 RX0) (hr : meth.sig.returnType = (some .int)) {n0 : Nat} : ∀ n : Nat, (∀ (i1 : Nat) (i2 : Nat) (x3 : Int) (x4 : Int) (x5 : Int) (x6 : Int) (g : zG) (H : Heap) (locs : List Loc) (ls : Array Slot), zE N 3 i1 → zE N 5 i2 → zH X N g s H locs → lv_has ls 7 [(0, z_r N 2 0), (1, z_r N 3 i1), (2, z_r N 5 i2), (3, z_v x3), (4, z_v x4), (5, z_v x5)] → sX0_serve_run n0 n 0 i1 i2 x3 x4 x5 x6 g = some (r, g') → W p l e { frames := 2, cells := 0, slots := 0, locals := 44 } s m args below meth c H locs 0 0 (MQ below (zQi X N r g') args s 0 0 (zA X)) (F0 m 8 ls [])) ∧ (∀ (i1 : Nat) (i2 : Nat) (x3 : Int) (x4 : Int) (x5 : Int) (x6 : Int) (g : zG) (H : Heap) (locs : List Loc) (ls : Array Slot), zE N 3 i1 → zE N 5 i2 → zH X N g s H locs → lv_has ls 7 [(0, z_r N 2 0), (1, z_r N 3 i1), (2, z_r N 5 i2), (3, z_v x3), (4, z_v x4), (5, z_v x5), (6, z_v x6)] → sX0_serve_run n0 n 1 i1 i2 x3 x4 x5 x6 g = some (r, g') → W p l e { frames := 2, cells := 0, slots := 0, locals := 44 } s m args below meth c H locs 0 0 (MQ below (zQi X N r g') args s 0 0 (zA X)) (F0 m 25 ls [])) := by
  intro n
  induction n with
  | zero => exact ⟨fun _ _ _ _ _ _ _ _ _ _ _ _ _ _  h => (by cases h), fun _ _ _ _ _ _ _ _ _ _ _ _ _ _  h => (by cases h)⟩
  | succ n ih => exact ⟨fun i1 i2 x3 x4 x5 x6 g H locs ls he1 he2 hw hl h => wX0_serve_h8 hF hr ih.1 ih.2 he1 he2 hw hl h, fun i1 i2 x3 x4 x5 x6 g H locs ls he1 he2 hw hl h => wX0_serve_h25 hF hr ih.1 ih.2 he1 he2 hw hl h⟩
set_option maxHeartbeats 4000000 in
set_option maxRecDepth 100000 in
theorem czX0_serve (l : Launch) (X : zC) (N : zN) {n : Nat} {i1 : Nat} {i2 : Nat} {g g' : zG} {r : Int} (he1 : zE N 3 i1) (he2 : zE N 5 i2) (h : sX0_serve n i1 i2 g = some (r, g')) : zM l yX0_serve cX0_serve 7 (some .int) { frames := 2, cells := 0, slots := 0, locals := 44 } X N g [z_r N 2 0, z_r N 3 i1, z_r N 5 i2] (zQi X N r g') := by
  refine z_ofW (own := RX0) (by decide +kernel) rfl (Nat.le_of_ble_eq_true rfl) ?_
  intro p e s m args below meth c ls hF hr hw hl
  have hl : lv_has ls 7 [(0, z_r N 2 0), (1, z_r N 3 i1), (2, z_r N 5 i2)] := hl
  have hx := hF.1.1
  have hb := hF.1.2.1
  have hKK := wX0_serve_run hF hr (r := r) (g' := g') (X := X) (N := N) (n0 := n) (l := l) (e := e) (below := below) n
  have hK0 := hKK.1
  have hK1 := hKK.2
  unfold sX0_serve at h
  generalize s.heap = H at hw ⊢
  generalize ([] : List Loc) = locs at hw ⊢
  refine lv_iconst hx hb dX0_serve_0 rfl ?_
  refine lv_istore_n (lv' := [(3, z_v 0), (0, z_r N 2 0), (1, z_r N 3 i1), (2, z_r N 5 i2)]) hx hb dX0_serve_1 rfl hl (by decide) rfl (fun ls hl => ?_)
  refine lv_iconst hx hb dX0_serve_2 rfl ?_
  refine lv_istore (lv' := [(4, z_v 0), (3, z_v 0), (0, z_r N 2 0), (1, z_r N 3 i1), (2, z_r N 5 i2)]) hx hb dX0_serve_3 hl (by decide) rfl (fun ls hl => ?_)
  refine lv_iconst hx hb dX0_serve_5 rfl ?_
  refine lv_istore (lv' := [(5, z_v 0), (4, z_v 0), (3, z_v 0), (0, z_r N 2 0), (1, z_r N 3 i1), (2, z_r N 5 i2)]) hx hb dX0_serve_6 hl (by decide) rfl (fun ls hl => ?_)
  exact hK0 i1 i2 0 0 0 0 _ _ _ _ he1 he2 hw (lv_sub hl [3, 4, 5, 2, 1, 0] rfl) h
set_option maxHeartbeats 4000000 in
set_option maxRecDepth 100000 in
theorem czX0_dealOut (l : Launch) (X : zC) (N : zN) {n : Nat} {i1 : Nat} {g g' : zG} {r : Int} (he1 : zE N 5 i1) (h : sX0_dealOut n i1 g = some (r, g')) : zM l yX0_dealOut cX0_dealOut 4 none { frames := 4, cells := 0, slots := 0, locals := 106 } X N g [z_r N 2 0, z_r N 5 i1, z_r N 1 0] (zQv X N g') := by
  refine z_ofW (own := RX0) (by decide +kernel) rfl (Nat.le_of_ble_eq_true rfl) ?_
  intro p e s m args below meth c ls hF hr hw hl
  have hl : lv_has ls 4 [(0, z_r N 2 0), (1, z_r N 5 i1), (2, z_r N 1 0)] := hl
  have hx := hF.1.1
  have hb := hF.1.2.1
  unfold sX0_dealOut at h
  generalize s.heap = H at hw ⊢
  generalize ([] : List Loc) = locs at hw ⊢
  refine lv_aload_n hx hb dX0_dealOut_0 rfl (lv_at hl 0 rfl) ?_
  refine lv_aload_n hx hb dX0_dealOut_1 rfl (lv_at hl 1 rfl) ?_
  refine lv_aload_n hx hb dX0_dealOut_2 rfl (lv_at hl 2 rfl) ?_
  obtain ⟨r1, g1, h1, h⟩ := zbd_some h
  refine zr_callVv (n := 2) (As := [z_r N 5 i1, z_r N 1 0]) (rest := []) hF hw (czX0_lineUp l X N he1 h1) zEf_2_0 (by decide) zC_2 (z_goodV qw_301 qw_303 qw_4 qw_19 qw_304) (by decide +kernel) ⟨Nat.le_of_ble_eq_true rfl, Nat.le_of_ble_eq_true rfl⟩ ⟨rfl, rfl⟩ rfl hl.1 rfl (Nat.le_of_ble_eq_true rfl) dX0_dealOut_3 ⟨Nat.le_of_ble_eq_true rfl, Nat.le_of_ble_eq_true rfl⟩ (fun H locs hw => ?_)
  clear h1
  generalize g1 = g at *
  refine lv_aload_n hx hb dX0_dealOut_6 rfl (lv_at hl 0 rfl) ?_
  refine lv_aload_n hx hb dX0_dealOut_7 rfl (lv_at hl 0 rfl) ?_
  refine zr_get hF hw zEf_2_0 (by decide) zC_2 0 (by decide) qw_100 rfl dX0_dealOut_8 ?_
  refine lv_aload_n hx hb dX0_dealOut_11 rfl (lv_at hl 1 rfl) ?_
  obtain ⟨r2, g1, h1, h⟩ := zbd_some h
  refine zr_callVi (n := 2) (As := [z_r N 3 0, z_r N 5 i1]) (rest := []) hF hw (czX0_serve l X N zEf_3_0 he1 h1) zEf_2_0 (by decide) zC_2 (z_goodV qw_336 qw_338 qw_5 qw_19 qw_339) (by decide +kernel) ⟨Nat.le_of_ble_eq_true rfl, Nat.le_of_ble_eq_true rfl⟩ ⟨rfl, rfl⟩ rfl hl.1 rfl (Nat.le_of_ble_eq_true rfl) dX0_dealOut_12 ⟨Nat.le_of_ble_eq_true rfl, Nat.le_of_ble_eq_true rfl⟩ (fun H locs hw => ?_)
  clear h1
  generalize g1 = g at *
  refine lv_istore_n (lv' := [(3, z_v r2), (0, z_r N 2 0), (1, z_r N 5 i1), (2, z_r N 1 0)]) hx hb dX0_dealOut_15 rfl hl (by decide) rfl (fun ls hl => ?_)
  refine lv_aload_n hx hb dX0_dealOut_16 rfl (lv_at hl 1 rfl) ?_
  refine lv_aload_n hx hb dX0_dealOut_17 rfl (lv_at hl 1 rfl) ?_
  refine lv_aload_n hx hb dX0_dealOut_18 rfl (lv_at hl 1 rfl) ?_
  refine zr_get hF hw zEf_2_0 (by decide) zC_2 1 (by decide) qw_102 rfl dX0_dealOut_19 ?_
  refine lv_aload_n hx hb dX0_dealOut_22 rfl (lv_at hl 2 rfl) ?_
  obtain ⟨r3, g1, h1, h⟩ := zbd_some h
  refine zr_callVi (n := 2) (As := [z_r N 3 1, z_r N 5 i1]) (rest := [z_r N 2 0]) hF hw (czX0_serve l X N zEf_3_1 he1 h1) zEf_2_0 (by decide) zC_2 (z_goodV qw_336 qw_338 qw_5 qw_19 qw_339) (by decide +kernel) ⟨Nat.le_of_ble_eq_true rfl, Nat.le_of_ble_eq_true rfl⟩ ⟨rfl, rfl⟩ rfl hl.1 rfl (Nat.le_of_ble_eq_true rfl) dX0_dealOut_23 ⟨Nat.le_of_ble_eq_true rfl, Nat.le_of_ble_eq_true rfl⟩ (fun H locs hw => ?_)
  clear h1
  generalize g1 = g at *
  refine zr_put hF hw zEf_2_0 (by decide) zC_2 4 (by decide) (by decide) qw_108 rfl (by decide +kernel) h dX0_dealOut_26 (fun g H locs hw h => ?_)
  refine lv_aload_n hx hb dX0_dealOut_29 rfl (lv_at hl 1 rfl) ?_
  refine lv_aload_n hx hb dX0_dealOut_30 rfl (lv_at hl 1 rfl) ?_
  refine zr_get hF hw zEf_2_0 (by decide) zC_2 2 (by decide) qw_104 rfl dX0_dealOut_31 ?_
  refine lv_aload_n hx hb dX0_dealOut_34 rfl (lv_at hl 1 rfl) ?_
  refine zr_get hF hw zEf_2_0 (by decide) zC_2 0 (by decide) qw_100 rfl dX0_dealOut_35 ?_
  refine zr_get hF hw zEf_3_0 (by decide) zC_3 4 (by decide) qw_86 rfl dX0_dealOut_38 ?_
  refine lv_iload_n hx hb dX0_dealOut_41 rfl (lv_at hl 0 rfl) ?_
  refine zr_isub hF dX0_dealOut_42 ?_
  refine zr_isub hF dX0_dealOut_43 ?_
  refine lv_aload_n hx hb dX0_dealOut_44 rfl (lv_at hl 1 rfl) ?_
  refine zr_get hF hw zEf_2_0 (by decide) zC_2 1 (by decide) qw_102 rfl dX0_dealOut_45 ?_
  refine zr_get hF hw zEf_3_1 (by decide) zC_3 4 (by decide) qw_86 rfl dX0_dealOut_48 ?_
  refine lv_aload_n hx hb dX0_dealOut_51 rfl (lv_at hl 1 rfl) ?_
  refine zr_get hF hw zEf_2_0 (by decide) zC_2 4 (by decide) qw_108 rfl dX0_dealOut_52 ?_
  refine zr_isub hF dX0_dealOut_55 ?_
  refine zr_isub hF dX0_dealOut_56 ?_
  refine zr_put hF hw zEf_2_0 (by decide) zC_2 3 (by decide) (by decide) qw_106 rfl (by decide +kernel) h dX0_dealOut_57 (fun g H locs hw h => ?_)
  exact zr_vret hF hr hw h dX0_dealOut_60
set_option maxHeartbeats 4000000 in
set_option maxRecDepth 100000 in
theorem wX0_penaltyBySlots_h44 {p : Program} {l : Launch} {e : Env} {s : State} {m : MethodId} {args : Array Value} {below : List Frame} {meth : Method} {c : Code} {X : zC} {N : zN} {r : Int} {g' : zG} {H : Heap} {locs : List Loc} {ls : Array Slot} (hF : zF p s m args meth c X cX0_penaltyBySlots 10 RX0) (hr : meth.sig.returnType = (some .int)) {n : Nat} {K : Nat → Nat → Int → Int → Int → Int → Int → zG → Option (Int × zG)} (hK0 : ∀ (i1 : Nat) (x4 : Int) (x5 : Int) (x6 : Int) (x7 : Int) (x8 : Int) (g : zG) (H : Heap) (locs : List Loc) (ls : Array Slot), zE N 5 i1 → zH X N g s H locs → lv_has ls 10 [(0, z_r N 2 0), (1, z_r N 5 i1), (4, z_v x4), (5, z_v x5), (6, z_v x6), (7, z_v x7), (8, z_v x8)] → K 0 i1 x4 x5 x6 x7 x8 g = some (r, g') → W p l e { frames := 4, cells := 0, slots := 0, locals := 106 } s m args below meth c H locs 0 0 (MQ below (zQi X N r g') args s 0 0 (zA X)) (F0 m 44 ls [])) {i1 : Nat} {x4 : Int} {x5 : Int} {x6 : Int} {x7 : Int} {x8 : Int} {g : zG} (he1 : zE N 5 i1) (hw : zH X N g s H locs) (hl : lv_has ls 10 [(0, z_r N 2 0), (1, z_r N 5 i1), (4, z_v x4), (5, z_v x5), (6, z_v x6), (7, z_v x7), (8, z_v x8)]) (h : sX0_penaltyBySlots_h44 n K i1 x4 x5 x6 x7 x8 g = some (r, g')) : W p l e { frames := 4, cells := 0, slots := 0, locals := 106 } s m args below meth c H locs 0 0 (MQ below (zQi X N r g') args s 0 0 (zA X)) (F0 m 44 ls []) := by
  have hx := hF.1.1
  have hb := hF.1.2.1
  unfold sX0_penaltyBySlots_h44 at h
  refine lv_iload hx hb dX0_penaltyBySlots_44 (lv_at hl 6 rfl) ?_
  refine lv_aload_n hx hb dX0_penaltyBySlots_46 rfl (lv_at hl 0 rfl) ?_
  refine zr_get hF hw zEf_2_0 (by decide) zC_2 2 (by decide) qw_104 rfl dX0_penaltyBySlots_47 ?_
  refine zr_icmp_ge (tgt := 125) hF h dX0_penaltyBySlots_50 (by decide) (fun h => ?_) (fun h => ?_)
  · refine lv_aload_n hx hb dX0_penaltyBySlots_125 rfl (lv_at hl 1 rfl) ?_
    refine zr_get hF hw he1 (by decide) zC_5 2 (by decide) qw_601 rfl dX0_penaltyBySlots_126 ?_
    refine lv_iload hx hb dX0_penaltyBySlots_129 (lv_at hl 3 rfl) ?_
    refine zr_isub hF dX0_penaltyBySlots_131 ?_
    exact zr_iret hF hr hw h dX0_penaltyBySlots_132
  · refine lv_aload_n hx hb dX0_penaltyBySlots_53 rfl (lv_at hl 1 rfl) ?_
    refine lv_iload hx hb dX0_penaltyBySlots_54 (lv_at hl 6 rfl) ?_
    obtain ⟨r1, g1, h1, h⟩ := zbd_some h
    refine zr_callVi (n := 1) (As := [z_v x8]) (rest := []) hF hw (czX3_slotEnd l X N he1 h1) he1 (by decide) zC_5 (z_goodV qw_348 qw_349 qw_350 qw_34 qw_351) (by decide +kernel) ⟨Nat.le_of_ble_eq_true rfl, Nat.le_of_ble_eq_true rfl⟩ ⟨rfl, rfl⟩ rfl hl.1 rfl (Nat.le_of_ble_eq_true rfl) dX0_penaltyBySlots_56 ⟨Nat.le_of_ble_eq_true rfl, Nat.le_of_ble_eq_true rfl⟩ (fun H locs hw => ?_)
    clear h1
    generalize g1 = g at *
    refine lv_istore (lv' := [(9, z_v r1), (0, z_r N 2 0), (1, z_r N 5 i1), (4, z_v x4), (5, z_v x5), (6, z_v x6), (7, z_v x7), (8, z_v x8)]) hx hb dX0_penaltyBySlots_59 hl (by decide) rfl (fun ls hl => ?_)
    refine lv_aload_n hx hb dX0_penaltyBySlots_61 rfl (lv_at hl 1 rfl) ?_
    refine zr_get hF hw zEf_2_0 (by decide) zC_2 0 (by decide) qw_100 rfl dX0_penaltyBySlots_62 ?_
    refine lv_iload hx hb dX0_penaltyBySlots_65 (lv_at hl 5 rfl) ?_
    refine lv_iload hx hb dX0_penaltyBySlots_67 (lv_at hl 0 rfl) ?_
    obtain ⟨r2, g1, h1, h⟩ := zbd_some h
    refine zr_callVi (n := 2) (As := [z_v x6, z_v r1]) (rest := []) hF hw (czX2_canTake l X N zEf_3_0 h1) zEf_3_0 (by decide) zC_3 (z_goodV qw_709 qw_710 qw_711 qw_20 qw_712) (by decide +kernel) ⟨Nat.le_of_ble_eq_true rfl, Nat.le_of_ble_eq_true rfl⟩ ⟨rfl, rfl⟩ rfl hl.1 rfl (Nat.le_of_ble_eq_true rfl) dX0_penaltyBySlots_69 ⟨Nat.le_of_ble_eq_true rfl, Nat.le_of_ble_eq_true rfl⟩ (fun H locs hw => ?_)
    clear h1
    generalize g1 = g at *
    refine zr_if_eq (tgt := 81) hF h dX0_penaltyBySlots_72 (by decide) (fun h => ?_) (fun h => ?_)
    · refine lv_aload_n hx hb dX0_penaltyBySlots_81 rfl (lv_at hl 1 rfl) ?_
      refine zr_get hF hw zEf_2_0 (by decide) zC_2 1 (by decide) qw_102 rfl dX0_penaltyBySlots_82 ?_
      refine lv_iload hx hb dX0_penaltyBySlots_85 (lv_at hl 6 rfl) ?_
      refine lv_iload hx hb dX0_penaltyBySlots_87 (lv_at hl 0 rfl) ?_
      obtain ⟨r3, g1, h1, h⟩ := zbd_some h
      refine zr_callVi (n := 2) (As := [z_v x7, z_v r1]) (rest := []) hF hw (czX2_canTake l X N zEf_3_1 h1) zEf_3_1 (by decide) zC_3 (z_goodV qw_709 qw_710 qw_711 qw_20 qw_712) (by decide +kernel) ⟨Nat.le_of_ble_eq_true rfl, Nat.le_of_ble_eq_true rfl⟩ ⟨rfl, rfl⟩ rfl hl.1 rfl (Nat.le_of_ble_eq_true rfl) dX0_penaltyBySlots_89 ⟨Nat.le_of_ble_eq_true rfl, Nat.le_of_ble_eq_true rfl⟩ (fun H locs hw => ?_)
      clear h1
      generalize g1 = g at *
      refine zr_if_eq (tgt := 119) hF h dX0_penaltyBySlots_92 (by decide) (fun h => ?_) (fun h => ?_)
      · refine zr_iinc hF (lv' := fun v4 => [(8, z_v v4), (9, z_v r1), (0, z_r N 2 0), (1, z_r N 5 i1), (4, z_v x4), (5, z_v x5), (6, z_v x6), (7, z_v x7)]) h dX0_penaltyBySlots_119 hl (k := 7) rfl (by decide) (fun _ => rfl) (fun v4 ls hl h => ?_)
        refine lv_goto (tgt := 44) hx hb dX0_penaltyBySlots_122 (by decide) ?_
        exact hK0 i1 x4 x5 x6 x7 v4 _ _ _ _ he1 hw (lv_sub hl [2, 3, 4, 5, 6, 7, 0] rfl) h
      · refine lv_iload hx hb dX0_penaltyBySlots_95 (lv_at hl 6 rfl) ?_
        refine lv_iload hx hb dX0_penaltyBySlots_97 (lv_at hl 3 rfl) ?_
        refine zr_icmp_ne (tgt := 116) hF h dX0_penaltyBySlots_99 (by decide) (fun h => ?_) (fun h => ?_)
        · refine zr_iinc hF (lv' := fun v5 => [(7, z_v v5), (9, z_v r1), (0, z_r N 2 0), (1, z_r N 5 i1), (4, z_v x4), (5, z_v x5), (6, z_v x6), (8, z_v x8)]) h dX0_penaltyBySlots_116 hl (k := 6) rfl (by decide) (fun _ => rfl) (fun v5 ls hl h => ?_)
          refine zr_iinc hF (lv' := fun v6 => [(8, z_v v6), (7, z_v v5), (9, z_v r1), (0, z_r N 2 0), (1, z_r N 5 i1), (4, z_v x4), (5, z_v x5), (6, z_v x6)]) h dX0_penaltyBySlots_119 hl (k := 7) rfl (by decide) (fun _ => rfl) (fun v6 ls hl h => ?_)
          refine lv_goto (tgt := 44) hx hb dX0_penaltyBySlots_122 (by decide) ?_
          exact hK0 i1 x4 x5 x6 v5 v6 _ _ _ _ he1 hw (lv_sub hl [3, 4, 5, 6, 7, 1, 0] rfl) h
        · refine lv_iconst hx hb dX0_penaltyBySlots_102 rfl ?_
          refine lv_aload_n hx hb dX0_penaltyBySlots_103 rfl (lv_at hl 2 rfl) ?_
          refine lv_iload hx hb dX0_penaltyBySlots_104 (lv_at hl 7 rfl) ?_
          obtain ⟨r7, g1, h1, h⟩ := zbd_some h
          refine zr_callVi (n := 1) (As := [z_v x8]) (rest := [z_v 0]) hF hw (czX3_slotBegin l X N he1 h1) he1 (by decide) zC_5 (z_goodV qw_363 qw_353 qw_354 qw_34 qw_355) (by decide +kernel) ⟨Nat.le_of_ble_eq_true rfl, Nat.le_of_ble_eq_true rfl⟩ ⟨rfl, rfl⟩ rfl hl.1 rfl (Nat.le_of_ble_eq_true rfl) dX0_penaltyBySlots_106 ⟨Nat.le_of_ble_eq_true rfl, Nat.le_of_ble_eq_true rfl⟩ (fun H locs hw => ?_)
          clear h1
          generalize g1 = g at *
          refine lv_iload hx hb dX0_penaltyBySlots_109 (lv_at hl 4 rfl) ?_
          refine zr_isub hF dX0_penaltyBySlots_111 ?_
          refine zr_max hF hl.1 qw_364 h dX0_penaltyBySlots_112 ⟨Nat.le_of_ble_eq_true rfl, Nat.le_of_ble_eq_true rfl⟩ (Nat.le_of_ble_eq_true rfl) ⟨Nat.le_of_ble_eq_true rfl, Nat.le_of_ble_eq_true rfl⟩ (fun h => ?_)
          exact zr_iret hF hr hw h dX0_penaltyBySlots_115
    · refine zr_iinc hF (lv' := fun v8 => [(6, z_v v8), (9, z_v r1), (0, z_r N 2 0), (1, z_r N 5 i1), (4, z_v x4), (5, z_v x5), (7, z_v x7), (8, z_v x8)]) h dX0_penaltyBySlots_75 hl (k := 5) rfl (by decide) (fun _ => rfl) (fun v8 ls hl h => ?_)
      refine lv_goto (tgt := 119) hx hb dX0_penaltyBySlots_78 (by decide) ?_
      refine zr_iinc hF (lv' := fun v9 => [(8, z_v v9), (6, z_v v8), (9, z_v r1), (0, z_r N 2 0), (1, z_r N 5 i1), (4, z_v x4), (5, z_v x5), (7, z_v x7)]) h dX0_penaltyBySlots_119 hl (k := 7) rfl (by decide) (fun _ => rfl) (fun v9 ls hl h => ?_)
      refine lv_goto (tgt := 44) hx hb dX0_penaltyBySlots_122 (by decide) ?_
      exact hK0 i1 x4 x5 v8 x7 v9 _ _ _ _ he1 hw (lv_sub hl [3, 4, 5, 6, 1, 7, 0] rfl) h
set_option maxHeartbeats 4000000 in
set_option maxRecDepth 100000 in
theorem wX0_penaltyBySlots_run {p : Program} {l : Launch} {e : Env} {s : State} {m : MethodId} {args : Array Value} {below : List Frame} {meth : Method} {c : Code} {X : zC} {N : zN} {r : Int} {g' : zG} (hF : zF p s m args meth c X cX0_penaltyBySlots 10 RX0) (hr : meth.sig.returnType = (some .int)) {n0 : Nat} : ∀ n : Nat, (∀ (i1 : Nat) (x4 : Int) (x5 : Int) (x6 : Int) (x7 : Int) (x8 : Int) (g : zG) (H : Heap) (locs : List Loc) (ls : Array Slot), zE N 5 i1 → zH X N g s H locs → lv_has ls 10 [(0, z_r N 2 0), (1, z_r N 5 i1), (4, z_v x4), (5, z_v x5), (6, z_v x6), (7, z_v x7), (8, z_v x8)] → sX0_penaltyBySlots_run n0 n 0 i1 x4 x5 x6 x7 x8 g = some (r, g') → W p l e { frames := 4, cells := 0, slots := 0, locals := 106 } s m args below meth c H locs 0 0 (MQ below (zQi X N r g') args s 0 0 (zA X)) (F0 m 44 ls [])) := by
  intro n
  induction n with
  | zero => exact fun _ _ _ _ _ _ _ _ _ _ _ _ _  h => (by cases h)
  | succ n ih => exact fun i1 x4 x5 x6 x7 x8 g H locs ls he1 hw hl h => wX0_penaltyBySlots_h44 hF hr ih he1 hw hl h
set_option maxHeartbeats 4000000 in
set_option maxRecDepth 100000 in
theorem czX0_penaltyBySlots (l : Launch) (X : zC) (N : zN) {n : Nat} {i1 : Nat} {x3 : Int} {g g' : zG} {r : Int} (he1 : zE N 5 i1) (h : sX0_penaltyBySlots n i1 x3 g = some (r, g')) : zM l yX0_penaltyBySlots cX0_penaltyBySlots 10 (some .int) { frames := 4, cells := 0, slots := 0, locals := 106 } X N g [z_r N 2 0, z_r N 5 i1, z_r N 1 0, z_v x3] (zQi X N r g') := by
  refine z_ofW (own := RX0) (by decide +kernel) rfl (Nat.le_of_ble_eq_true rfl) ?_
  intro p e s m args below meth c ls hF hr hw hl
  have hl : lv_has ls 10 [(0, z_r N 2 0), (1, z_r N 5 i1), (2, z_r N 1 0), (3, z_v x3)] := hl
  have hx := hF.1.1
  have hb := hF.1.2.1
  have hKK := wX0_penaltyBySlots_run hF hr (r := r) (g' := g') (X := X) (N := N) (n0 := n) (l := l) (e := e) (below := below) n
  have hK0 := hKK
  unfold sX0_penaltyBySlots at h
  generalize s.heap = H at hw ⊢
  generalize ([] : List Loc) = locs at hw ⊢
  refine lv_aload_n hx hb dX0_penaltyBySlots_0 rfl (lv_at hl 0 rfl) ?_
  refine lv_aload_n hx hb dX0_penaltyBySlots_1 rfl (lv_at hl 1 rfl) ?_
  refine lv_aload_n hx hb dX0_penaltyBySlots_2 rfl (lv_at hl 2 rfl) ?_
  obtain ⟨r1, g1, h1, h⟩ := zbd_some h
  refine zr_callVv (n := 2) (As := [z_r N 5 i1, z_r N 1 0]) (rest := []) hF hw (czX0_lineUp l X N he1 h1) zEf_2_0 (by decide) zC_2 (z_goodV qw_301 qw_303 qw_4 qw_19 qw_304) (by decide +kernel) ⟨Nat.le_of_ble_eq_true rfl, Nat.le_of_ble_eq_true rfl⟩ ⟨rfl, rfl⟩ rfl hl.1 rfl (Nat.le_of_ble_eq_true rfl) dX0_penaltyBySlots_3 ⟨Nat.le_of_ble_eq_true rfl, Nat.le_of_ble_eq_true rfl⟩ (fun H locs hw => ?_)
  clear h1
  generalize g1 = g at *
  refine lv_aload_n hx hb dX0_penaltyBySlots_6 rfl (lv_at hl 0 rfl) ?_
  refine zr_get hF hw zEf_2_0 (by decide) zC_2 1 (by decide) qw_102 rfl dX0_penaltyBySlots_7 ?_
  refine lv_iload_n hx hb dX0_penaltyBySlots_10 rfl (lv_at hl 3 rfl) ?_
  obtain ⟨r2, g1, h1, h⟩ := zbd_some h
  refine zr_callVi (n := 1) (As := [z_v x3]) (rest := []) hF hw (czX2_placeOf l X N zEf_3_1 h1) zEf_3_1 (by decide) zC_3 (z_goodV qw_708 qw_374 qw_375 qw_20 qw_376) (by decide +kernel) ⟨Nat.le_of_ble_eq_true rfl, Nat.le_of_ble_eq_true rfl⟩ ⟨rfl, rfl⟩ rfl hl.1 rfl (Nat.le_of_ble_eq_true rfl) dX0_penaltyBySlots_11 ⟨Nat.le_of_ble_eq_true rfl, Nat.le_of_ble_eq_true rfl⟩ (fun H locs hw => ?_)
  clear h1
  generalize g1 = g at *
  refine lv_istore (lv' := [(4, z_v r2), (0, z_r N 2 0), (1, z_r N 5 i1), (2, z_r N 1 0), (3, z_v x3)]) hx hb dX0_penaltyBySlots_14 hl (by decide) rfl (fun ls hl => ?_)
  refine lv_iload hx hb dX0_penaltyBySlots_16 (lv_at hl 0 rfl) ?_
  refine lv_iconst hx hb dX0_penaltyBySlots_18 rfl ?_
  refine zr_icmp_ne (tgt := 24) hF h dX0_penaltyBySlots_19 (by decide) (fun h => ?_) (fun h => ?_)
  · refine lv_aload_n hx hb dX0_penaltyBySlots_24 rfl (lv_at hl 1 rfl) ?_
    refine zr_get hF hw zEf_2_0 (by decide) zC_2 1 (by decide) qw_102 rfl dX0_penaltyBySlots_25 ?_
    refine lv_iload hx hb dX0_penaltyBySlots_28 (lv_at hl 0 rfl) ?_
    obtain ⟨r3, g1, h1, h⟩ := zbd_some h
    refine zr_callVi (n := 1) (As := [z_v r2]) (rest := []) hF hw (czX2_timeAt l X N zEf_3_1 h1) zEf_3_1 (by decide) zC_3 (z_goodV qw_340 qw_341 qw_342 qw_20 qw_343) (by decide +kernel) ⟨Nat.le_of_ble_eq_true rfl, Nat.le_of_ble_eq_true rfl⟩ ⟨rfl, rfl⟩ rfl hl.1 rfl (Nat.le_of_ble_eq_true rfl) dX0_penaltyBySlots_30 ⟨Nat.le_of_ble_eq_true rfl, Nat.le_of_ble_eq_true rfl⟩ (fun H locs hw => ?_)
    clear h1
    generalize g1 = g at *
    refine lv_istore (lv' := [(5, z_v r3), (4, z_v r2), (0, z_r N 2 0), (1, z_r N 5 i1), (2, z_r N 1 0), (3, z_v x3)]) hx hb dX0_penaltyBySlots_33 hl (by decide) rfl (fun ls hl => ?_)
    refine lv_iconst hx hb dX0_penaltyBySlots_35 rfl ?_
    refine lv_istore (lv' := [(6, z_v 0), (5, z_v r3), (4, z_v r2), (0, z_r N 2 0), (1, z_r N 5 i1), (2, z_r N 1 0), (3, z_v x3)]) hx hb dX0_penaltyBySlots_36 hl (by decide) rfl (fun ls hl => ?_)
    refine lv_iconst hx hb dX0_penaltyBySlots_38 rfl ?_
    refine lv_istore (lv' := [(7, z_v 0), (6, z_v 0), (5, z_v r3), (4, z_v r2), (0, z_r N 2 0), (1, z_r N 5 i1), (2, z_r N 1 0), (3, z_v x3)]) hx hb dX0_penaltyBySlots_39 hl (by decide) rfl (fun ls hl => ?_)
    refine lv_iconst hx hb dX0_penaltyBySlots_41 rfl ?_
    refine lv_istore (lv' := [(8, z_v 0), (7, z_v 0), (6, z_v 0), (5, z_v r3), (4, z_v r2), (0, z_r N 2 0), (1, z_r N 5 i1), (2, z_r N 1 0), (3, z_v x3)]) hx hb dX0_penaltyBySlots_42 hl (by decide) rfl (fun ls hl => ?_)
    exact hK0 i1 r2 r3 0 0 0 _ _ _ _ he1 hw (lv_sub hl [5, 6, 4, 3, 2, 1, 0] rfl) h
  · refine lv_iconst hx hb dX0_penaltyBySlots_22 rfl ?_
    exact zr_iret hF hr hw h dX0_penaltyBySlots_23

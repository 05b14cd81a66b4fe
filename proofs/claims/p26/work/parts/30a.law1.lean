/-! the law's methods -/
def sL_areSlots_j22 (n : Nat) (K : Nat → Int → Int → Int → Int → zG → Option (Int × zG)) (x1 : Int) (x2 : Int) (t0 : Int) (g : zG) : Option (Int × zG) := (K 0 x1 x2 t0 1 g)
def sL_areSlots_j67 (n : Nat) (K : Nat → Int → Int → Int → Int → zG → Option (Int × zG)) (x1 : Int) (x2 : Int) (x4 : Int) (t0 : Int) (g : zG) : Option (Int × zG) := zlet (x4 + 1) (fun v1 => (K 0 x1 x2 t0 v1 g))
def sL_areSlots_h26 (n : Nat) (K : Nat → Int → Int → Int → Int → zG → Option (Int × zG)) (x1 : Int) (x2 : Int) (x3 : Int) (x4 : Int) (g : zG) : Option (Int × zG) := zlt x4 x2 (zlt x4 20 (zeq x3 0 (zbo x3 (some (x3, g))) (zbn (sX4_slot x1 x4 g) (fun r1 g => zbn (sX4_slot x1 (x4 - 1) g) (fun r2 g => zle r1 r2 ((sL_areSlots_j67 n K x1 x2 x4 0 g)) ((sL_areSlots_j67 n K x1 x2 x4 1 g)))))) (zbo x3 (some (x3, g)))) (zbo x3 (some (x3, g)))
def sL_areSlots_run (n0 : Nat) : Nat → Nat → Int → Int → Int → Int → zG → Option (Int × zG)
  | 0, _, _, _, _, _, _ => none
  | n + 1, 0, x1, x2, x3, x4, g => sL_areSlots_h26 n0 (sL_areSlots_run n0 n) x1 x2 x3 x4 g
  | _ + 1, _, _, _, _, _, _ => none
def sL_areSlots (n : Nat) (x1 : Int) (g : zG) : Option (Int × zG) := zbn (sX4_regulationIs n x1 0 g) (fun r1 g => zbn (sX4_slot x1 r1 g) (fun r2 g => zeq r2 (-1) ((sL_areSlots_j22 n (sL_areSlots_run n 30) x1 r1 1 g)) ((sL_areSlots_j22 n (sL_areSlots_run n 30) x1 r1 0 g))))
def sL_isSwapped_j160 (x2 : Int) (x4 : Int) (x5 : Int) (x6 : Int) (t0 : Int) (g : zG) : Option (Int × zG) := zeq t0 0 (zbo 0 (some (0, g))) (zbd (sL_swaps x4 x2 g) (fun r1 g => zeq r1 0 (zbo 0 (some (0, g))) (zbn (sX4_flightIs x2 2 g) (fun r2 g => zeq r2 x5 (zbn (sX4_flightIs x4 2 g) (fun r3 g => zeq r3 x6 (zbo 1 (some (1, g))) (zbo 0 (some (0, g))))) (zbo 0 (some (0, g)))))))
def sL_isSwapped_j159 (x2 : Int) (x4 : Int) (x5 : Int) (x6 : Int) (g : zG) : Option (Int × zG) := (sL_isSwapped_j160 x2 x4 x5 x6 0 g)
def sL_isSwapped (x2 : Int) (x3 : Int) (g : zG) : Option (Int × zG) := zix 0 3 (zdv x3 (g 17 0 (0 : Int).toNat) (zlet ((x3).tmod (g 17 0 (0 : Int).toNat)) (fun v1 => zbn (sX4_flightIs x2 2 g) (fun r2 g => zbn (sX4_flightIs v1 2 g) (fun r3 g => zbd (sL_swaps x2 v1 g) (fun r4 g => zeq r4 0 (zbn (sX4_flightIs x2 2 g) (fun r13 g => zeq r13 r2 (zbn (sX4_flightIs v1 2 g) (fun r14 g => zeq r14 r3 (zbo 1 (some (1, g))) (zbo 0 (some (0, g))))) (zbo 0 (some (0, g))))) (zeq x2 v1 ((sL_isSwapped_j159 x2 v1 r2 r3 g)) (zeq r2 (-1) ((sL_isSwapped_j159 x2 v1 r2 r3 g)) (zeq r3 (-1) ((sL_isSwapped_j159 x2 v1 r2 r3 g)) (zbn (sX4_flightIs x2 3 g) (fun r5 g => zbn (sX4_flightIs v1 3 g) (fun r6 g => zeq r5 r6 (zbn (sX4_flightIs x2 2 g) (fun r7 g => zbn (sX4_flightIs x2 1 g) (fun r8 g => zlt r7 r8 ((sL_isSwapped_j159 x2 v1 r2 r3 g)) (zbn (sX4_flightIs v1 2 g) (fun r9 g => zbn (sX4_flightIs v1 1 g) (fun r10 g => zlt r9 r10 ((sL_isSwapped_j159 x2 v1 r2 r3 g)) (zbn (sX4_flightIs x2 2 g) (fun r11 g => zbn (sX4_flightIs v1 2 g) (fun r12 g => zeq (r11 + r12) (r2 + r3) ((sL_isSwapped_j160 x2 v1 r2 r3 1 g)) ((sL_isSwapped_j159 x2 v1 r2 r3 g))))))))))) ((sL_isSwapped_j159 x2 v1 r2 r3 g))))))))))))))
def sL_isTold_j354 (n : Nat) (g : zG) : Option (Int × zG) := zbo 1 (some (1, g))
def sL_isTold_j289 (n : Nat) (t0 : Int) (t1 : Int) (g : zG) : Option (Int × zG) := zeq t0 t1 ((sL_isTold_j354 n g)) (zbo 0 (some (0, g)))
def sL_isTold_j247 (n : Nat) (x1 : Int) (x5 : Int) (x7 : Int) (x9 : Int) (t0 : Int) (g : zG) : Option (Int × zG) := zeq t0 0 (zbo 0 (some (0, g))) (zeq x7 0 (zbn (sX4_flightIs x1 1 g) (fun r6 g => zeq r6 x9 (zbn (sX4_flightIs x1 2 g) (fun r7 g => zlt x5 x9 ((sL_isTold_j289 n r7 (-1) g)) ((sL_isTold_j289 n r7 x5 g)))) (zbo 0 (some (0, g))))) (zeq x7 1 (zbn (sX4_flightIs x1 0 g) (fun r4 g => zeq r4 2 (zbn (sX4_due n x1 g) (fun r5 g => zeq r5 0 ((sL_isTold_j354 n g)) (zbo 0 (some (0, g))))) (zbo 0 (some (0, g))))) (zbn (sX4_flightIs x1 0 g) (fun r1 g => zeq r1 1 (zbn (sX4_flightIs x1 4 g) (fun r2 g => zeq r2 x9 (zbn (sX4_flightIs x1 2 g) (fun r3 g => zeq r3 x5 ((sL_isTold_j354 n g)) (zbo 0 (some (0, g))))) (zbo 0 (some (0, g))))) (zbo 0 (some (0, g)))))))
def sL_isTold_j246 (n : Nat) (x1 : Int) (x5 : Int) (x7 : Int) (x9 : Int) (g : zG) : Option (Int × zG) := (sL_isTold_j247 n x1 x5 x7 x9 0 g)
def sL_isTold_j167 (n : Nat) (x1 : Int) (x3 : Int) (x4 : Int) (x5 : Int) (x6 : Int) (x7 : Int) (x8 : Int) (x9 : Int) (x10 : Int) (t0 : Int) (t1 : Int) (g : zG) : Option (Int × zG) := zeq t0 t1 (zeq x10 0 (zbn (sX4_flightIs x1 6 g) (fun r3 g => zeq r3 x3 (zbn (sX4_flightIs x1 1 g) (fun r4 g => zeq r4 x6 (zbn (sX4_flightIs x1 0 g) (fun r5 g => zeq r5 x4 (zbo 1 (some (1, g))) (zbo 0 (some (0, g))))) (zbo 0 (some (0, g))))) (zbo 0 (some (0, g))))) (zbn (sX4_flightIs x1 6 g) (fun r1 g => zeq r1 x8 (zbn (sX4_message x1 x8 x7 x9 g) (fun r2 g => zeq r2 0 ((sL_isTold_j247 n x1 x5 x7 x9 1 g)) ((sL_isTold_j246 n x1 x5 x7 x9 g)))) ((sL_isTold_j246 n x1 x5 x7 x9 g))))) (zbo 0 (some (0, g)))
def sL_isTold_j166 (n : Nat) (x1 : Int) (x3 : Int) (x4 : Int) (x5 : Int) (x6 : Int) (x7 : Int) (x8 : Int) (x9 : Int) (x10 : Int) (t0 : Int) (g : zG) : Option (Int × zG) := (sL_isTold_j167 n x1 x3 x4 x5 x6 x7 x8 x9 x10 t0 0 g)
def sL_isTold_j134 (n : Nat) (x1 : Int) (x3 : Int) (x4 : Int) (x5 : Int) (x6 : Int) (x7 : Int) (x8 : Int) (t0 : Int) (g : zG) : Option (Int × zG) := zbn (sX4_message x1 x8 x7 t0 g) (fun r1 g => zeq x4 0 (zle x8 x3 ((sL_isTold_j166 n x1 x3 x4 x5 x6 x7 x8 t0 r1 r1 g)) ((sL_isTold_j167 n x1 x3 x4 x5 x6 x7 x8 t0 r1 r1 1 g))) ((sL_isTold_j166 n x1 x3 x4 x5 x6 x7 x8 t0 r1 r1 g)))
def sL_isTold_j89 (n : Nat) (x1 : Int) (x2 : Int) (x3 : Int) (x4 : Int) (x5 : Int) (x6 : Int) (x7 : Int) (t0 : Int) (g : zG) : Option (Int × zG) := zeq x7 1 ((sL_isTold_j134 n x1 x3 x4 x5 x6 x7 t0 0 g)) (zdv x2 32 (zdv ((x2).tdiv 32) 3 (zeq (((x2).tdiv 32).tmod 3) 0 (zdv x2 128 (zdv ((x2).tdiv 128) 1440 ((sL_isTold_j134 n x1 x3 x4 x5 x6 x7 t0 (((x2).tdiv 128).tmod 1440) g)))) (zdv x2 128 (zdv ((x2).tdiv 128) 90 ((sL_isTold_j134 n x1 x3 x4 x5 x6 x7 t0 (390 + (((x2).tdiv 128).tmod 90)) g)))))))
def sL_isTold_j74 (n : Nat) (x1 : Int) (x2 : Int) (x3 : Int) (x4 : Int) (x5 : Int) (x6 : Int) (x7 : Int) (g : zG) : Option (Int × zG) := zdv x2 32 (zdv ((x2).tdiv 32) 99 ((sL_isTold_j89 n x1 x2 x3 x4 x5 x6 x7 (1 + (((x2).tdiv 32).tmod 99)) g)))
def sL_isTold_j57 (n : Nat) (x1 : Int) (x2 : Int) (x3 : Int) (x4 : Int) (x5 : Int) (x6 : Int) (t0 : Int) (g : zG) : Option (Int × zG) := zdv x2 8 (zdv ((x2).tdiv 8) 4 (zeq (((x2).tdiv 8).tmod 4) 0 ((sL_isTold_j74 n x1 x2 x3 x4 x5 x6 t0 g)) (zeq x3 99 ((sL_isTold_j74 n x1 x2 x3 x4 x5 x6 t0 g)) ((sL_isTold_j89 n x1 x2 x3 x4 x5 x6 t0 (x3 + 1) g)))))
def sL_isTold (n : Nat) (x1 : Int) (x2 : Int) (g : zG) : Option (Int × zG) := zbn (sX4_flightIs x1 6 g) (fun r1 g => zbn (sX4_flightIs x1 0 g) (fun r2 g => zbn (sX4_flightIs x1 2 g) (fun r3 g => zbn (sX4_flightIs x1 1 g) (fun r4 g => zdv x2 8 (zlt ((x2).tmod 8) 5 ((sL_isTold_j57 n x1 x2 r1 r2 r3 r4 0 g)) (zdv x2 8 (zeq ((x2).tmod 8) 5 ((sL_isTold_j57 n x1 x2 r1 r2 r3 r4 1 g)) ((sL_isTold_j57 n x1 x2 r1 r2 r3 r4 2 g)))))))))
set_option maxHeartbeats 4000000 in
set_option maxRecDepth 100000 in
theorem wL_areSlots_j22 {p : Program} {l : Launch} {e : Env} {s : State} {m : MethodId} {args : Array Value} {below : List Frame} {meth : Method} {c : Code} {X : zC} {N : zN} {r : Int} {g' : zG} (hF : zF p s m args meth c X cL_areSlots 5 RL) (hT : l.stackTraces = false) (hr : meth.sig.returnType = (some .boolean)) {n : Nat} {n1 : Nat} {K : Nat → Int → Int → Int → Int → zG → Option (Int × zG)} (hK0 : ∀ (cells slots : Nat) (x1 : Int) (x2 : Int) (x3 : Int) (x4 : Int) (g : zG) (H : Heap) (locs : List Loc) (ls : Array Slot), (cells + 4 * n1 ≤ 124 ∧ slots + 24 * n1 ≤ 744) → zH X N g s H locs → lv_has ls 5 [(0, z_r N 0 0), (1, z_v x1), (2, z_v x2), (3, z_v x3), (4, z_v x4)] → K 0 x1 x2 x3 x4 g = some (r, g') → W p l e { frames := 8, cells := 124, slots := 744, locals := 152 } s m args below meth c H locs cells slots (MQ below (zQi X N r g') args s 124 744 (zA X)) (F0 m 26 ls [])) {cells slots : Nat} (hcs : cells + 0 + 4 * n1 ≤ 124 ∧ slots + 0 + 24 * n1 ≤ 744) {x1 : Int} {x2 : Int} {t0 : Int} {g : zG} {H : Heap} {locs : List Loc} {ls : Array Slot} (hw : zH X N g s H locs) (hl : lv_has ls 5 [(0, z_r N 0 0), (1, z_v x1), (2, z_v x2)]) (h : sL_areSlots_j22 n K x1 x2 t0 g = some (r, g')) : W p l e { frames := 8, cells := 124, slots := 744, locals := 152 } s m args below meth c H locs cells slots (MQ below (zQi X N r g') args s 124 744 (zA X)) (F0 m 22 ls [z_v t0]) := by
  have hx := hF.1.1
  have hb := hF.1.2.1
  unfold sL_areSlots_j22 at h
  refine lv_istore_n (lv' := [(3, z_v t0), (0, z_r N 0 0), (1, z_v x1), (2, z_v x2)]) hx hb dL_areSlots_22 rfl hl (by decide) rfl (fun ls hl => ?_)
  refine lv_iconst hx hb dL_areSlots_23 rfl ?_
  refine lv_istore (lv' := [(4, z_v 1), (3, z_v t0), (0, z_r N 0 0), (1, z_v x1), (2, z_v x2)]) hx hb dL_areSlots_24 hl (by decide) rfl (fun ls hl => ?_)
  exact hK0 _ _ x1 x2 t0 1 _ _ _ _ (by omega)  hw (lv_sub hl [2, 3, 4, 1, 0] rfl) h
set_option maxHeartbeats 4000000 in
set_option maxRecDepth 100000 in
theorem wL_areSlots_j67 {p : Program} {l : Launch} {e : Env} {s : State} {m : MethodId} {args : Array Value} {below : List Frame} {meth : Method} {c : Code} {X : zC} {N : zN} {r : Int} {g' : zG} (hF : zF p s m args meth c X cL_areSlots 5 RL) (hT : l.stackTraces = false) (hr : meth.sig.returnType = (some .boolean)) {n : Nat} {n1 : Nat} {K : Nat → Int → Int → Int → Int → zG → Option (Int × zG)} (hK0 : ∀ (cells slots : Nat) (x1 : Int) (x2 : Int) (x3 : Int) (x4 : Int) (g : zG) (H : Heap) (locs : List Loc) (ls : Array Slot), (cells + 4 * n1 ≤ 124 ∧ slots + 24 * n1 ≤ 744) → zH X N g s H locs → lv_has ls 5 [(0, z_r N 0 0), (1, z_v x1), (2, z_v x2), (3, z_v x3), (4, z_v x4)] → K 0 x1 x2 x3 x4 g = some (r, g') → W p l e { frames := 8, cells := 124, slots := 744, locals := 152 } s m args below meth c H locs cells slots (MQ below (zQi X N r g') args s 124 744 (zA X)) (F0 m 26 ls [])) {cells slots : Nat} (hcs : cells + 0 + 4 * n1 ≤ 124 ∧ slots + 0 + 24 * n1 ≤ 744) {x1 : Int} {x2 : Int} {x4 : Int} {t0 : Int} {g : zG} {H : Heap} {locs : List Loc} {ls : Array Slot} (hw : zH X N g s H locs) (hl : lv_has ls 5 [(0, z_r N 0 0), (1, z_v x1), (2, z_v x2), (4, z_v x4)]) (h : sL_areSlots_j67 n K x1 x2 x4 t0 g = some (r, g')) : W p l e { frames := 8, cells := 124, slots := 744, locals := 152 } s m args below meth c H locs cells slots (MQ below (zQi X N r g') args s 124 744 (zA X)) (F0 m 67 ls [z_v t0]) := by
  have hx := hF.1.1
  have hb := hF.1.2.1
  unfold sL_areSlots_j67 at h
  refine lv_istore_n (lv' := [(3, z_v t0), (0, z_r N 0 0), (1, z_v x1), (2, z_v x2), (4, z_v x4)]) hx hb dL_areSlots_67 rfl hl (by decide) rfl (fun ls hl => ?_)
  refine zr_iinc hF (lv' := fun v1 => [(4, z_v v1), (3, z_v t0), (0, z_r N 0 0), (1, z_v x1), (2, z_v x2)]) h dL_areSlots_68 hl (k := 4) rfl (by decide) (fun _ => rfl) (fun v1 ls hl h => ?_)
  refine lv_goto (tgt := 26) hx hb dL_areSlots_71 (by decide) ?_
  exact hK0 _ _ x1 x2 t0 v1 _ _ _ _ (by omega)  hw (lv_sub hl [2, 3, 4, 1, 0] rfl) h
set_option maxHeartbeats 4000000 in
set_option maxRecDepth 100000 in
theorem wL_areSlots_h26 {p : Program} {l : Launch} {e : Env} {s : State} {m : MethodId} {args : Array Value} {below : List Frame} {meth : Method} {c : Code} {X : zC} {N : zN} {r : Int} {g' : zG} (hF : zF p s m args meth c X cL_areSlots 5 RL) (hT : l.stackTraces = false) (hr : meth.sig.returnType = (some .boolean)) {n : Nat} {n1 : Nat} {K : Nat → Int → Int → Int → Int → zG → Option (Int × zG)} (hK0 : ∀ (cells slots : Nat) (x1 : Int) (x2 : Int) (x3 : Int) (x4 : Int) (g : zG) (H : Heap) (locs : List Loc) (ls : Array Slot), (cells + 4 * n1 ≤ 124 ∧ slots + 24 * n1 ≤ 744) → zH X N g s H locs → lv_has ls 5 [(0, z_r N 0 0), (1, z_v x1), (2, z_v x2), (3, z_v x3), (4, z_v x4)] → K 0 x1 x2 x3 x4 g = some (r, g') → W p l e { frames := 8, cells := 124, slots := 744, locals := 152 } s m args below meth c H locs cells slots (MQ below (zQi X N r g') args s 124 744 (zA X)) (F0 m 26 ls [])) {cells slots : Nat} (hcs : cells + 4 + 4 * n1 ≤ 124 ∧ slots + 24 + 24 * n1 ≤ 744) {x1 : Int} {x2 : Int} {x3 : Int} {x4 : Int} {g : zG} {H : Heap} {locs : List Loc} {ls : Array Slot} (hw : zH X N g s H locs) (hl : lv_has ls 5 [(0, z_r N 0 0), (1, z_v x1), (2, z_v x2), (3, z_v x3), (4, z_v x4)]) (h : sL_areSlots_h26 n K x1 x2 x3 x4 g = some (r, g')) : W p l e { frames := 8, cells := 124, slots := 744, locals := 152 } s m args below meth c H locs cells slots (MQ below (zQi X N r g') args s 124 744 (zA X)) (F0 m 26 ls []) := by
  have hx := hF.1.1
  have hb := hF.1.2.1
  unfold sL_areSlots_h26 at h
  refine lv_iload hx hb dL_areSlots_26 (lv_at hl 4 rfl) ?_
  refine lv_iload_n hx hb dL_areSlots_28 rfl (lv_at hl 2 rfl) ?_
  refine zr_icmp_ge (tgt := 74) hF h dL_areSlots_29 (by decide) (fun h => ?_) (fun h => ?_)
  · refine lv_iload_n hx hb dL_areSlots_74 rfl (lv_at hl 3 rfl) ?_
    exact zp_zret hF hr hw h dL_areSlots_75 ⟨by omega, by omega⟩
  · refine lv_iload hx hb dL_areSlots_32 (lv_at hl 4 rfl) ?_
    refine lv_bipush (v := Int32.ofInt (20)) hx hb dL_areSlots_34 (by decide) ?_
    refine zr_icmp_ge (tgt := 74) hF h dL_areSlots_36 (by decide) (fun h => ?_) (fun h => ?_)
    · refine lv_iload_n hx hb dL_areSlots_74 rfl (lv_at hl 3 rfl) ?_
      exact zp_zret hF hr hw h dL_areSlots_75 ⟨by omega, by omega⟩
    · refine lv_iload_n hx hb dL_areSlots_39 rfl (lv_at hl 3 rfl) ?_
      refine zr_if_eq (tgt := 74) hF h dL_areSlots_40 (by decide) (fun h => ?_) (fun h => ?_)
      · refine lv_iload_n hx hb dL_areSlots_74 rfl (lv_at hl 3 rfl) ?_
        exact zp_zret hF hr hw h dL_areSlots_75 ⟨by omega, by omega⟩
      · refine lv_aload_n hx hb dL_areSlots_43 rfl (lv_at hl 0 rfl) ?_
        refine lv_iload_n hx hb dL_areSlots_44 rfl (lv_at hl 1 rfl) ?_
        refine lv_iload hx hb dL_areSlots_45 (lv_at hl 4 rfl) ?_
        obtain ⟨o1, g1, h1, h⟩ := zbn_some h
        refine zw_callVi (n := 2) (As := [z_v x1, z_v x4]) (rest := []) hF hw (czX4_slot l hT X N h1) h zEf_0_0 (by decide) zC_0 (z_goodV qw_667 qw_668 qw_669 qw_15 qw_670) (by decide +kernel) ⟨Nat.le_of_ble_eq_true rfl, Nat.le_of_ble_eq_true rfl⟩ rfl hl.1 rfl (Nat.le_of_ble_eq_true rfl) dL_areSlots_47 ⟨by show cells + 2 ≤ 124; omega, by show slots + 12 ≤ 744; omega⟩ (fun h => h.elim) (fun H locs hw h => ?_)
        clear h1
        generalize g1 = g at *
        generalize o1.2 = r1 at *
        refine W.widen (k := cells + 2) (n := slots + 12) (by show cells + 2 ≤ cells + 2; omega) (by show slots + 12 ≤ slots + 12; omega) ?_
        refine lv_aload_n hx hb dL_areSlots_50 rfl (lv_at hl 0 rfl) ?_
        refine lv_iload_n hx hb dL_areSlots_51 rfl (lv_at hl 1 rfl) ?_
        refine lv_iload hx hb dL_areSlots_52 (lv_at hl 4 rfl) ?_
        refine lv_iconst hx hb dL_areSlots_54 rfl ?_
        refine zr_isub hF dL_areSlots_55 ?_
        obtain ⟨o1, g1, h1, h⟩ := zbn_some h
        refine zw_callVi (n := 2) (As := [z_v x1, z_v (x4 - 1)]) (rest := [z_v r1]) hF hw (czX4_slot l hT X N h1) h zEf_0_0 (by decide) zC_0 (z_goodV qw_667 qw_668 qw_669 qw_15 qw_670) (by decide +kernel) ⟨Nat.le_of_ble_eq_true rfl, Nat.le_of_ble_eq_true rfl⟩ rfl hl.1 rfl (Nat.le_of_ble_eq_true rfl) dL_areSlots_56 ⟨by show cells + 2 + 2 ≤ 124; omega, by show slots + 12 + 12 ≤ 744; omega⟩ (fun h => h.elim) (fun H locs hw h => ?_)
        clear h1
        generalize g1 = g at *
        generalize o1.2 = r2 at *
        refine W.widen (k := cells + 4) (n := slots + 24) (by show cells + 2 + 2 ≤ cells + 4; omega) (by show slots + 12 + 12 ≤ slots + 24; omega) ?_
        refine zr_icmp_le (tgt := 66) hF h dL_areSlots_59 (by decide) (fun h => ?_) (fun h => ?_)
        · refine lv_iconst hx hb dL_areSlots_66 rfl ?_
          exact wL_areSlots_j67 hF hT hr hK0 (by omega)  hw (lv_sub hl [0, 1, 2, 4] rfl) h
        · refine lv_iconst hx hb dL_areSlots_62 rfl ?_
          refine lv_goto (tgt := 67) hx hb dL_areSlots_63 (by decide) ?_
          exact wL_areSlots_j67 hF hT hr hK0 (by omega)  hw (lv_sub hl [0, 1, 2, 4] rfl) h
set_option maxHeartbeats 4000000 in
set_option maxRecDepth 100000 in
theorem wL_areSlots_run {p : Program} {l : Launch} {e : Env} {s : State} {m : MethodId} {args : Array Value} {below : List Frame} {meth : Method} {c : Code} {X : zC} {N : zN} {r : Int} {g' : zG} (hF : zF p s m args meth c X cL_areSlots 5 RL) (hT : l.stackTraces = false) (hr : meth.sig.returnType = (some .boolean)) {n0 : Nat} : ∀ n : Nat, (∀ (cells slots : Nat) (x1 : Int) (x2 : Int) (x3 : Int) (x4 : Int) (g : zG) (H : Heap) (locs : List Loc) (ls : Array Slot), (cells + 4 * n ≤ 124 ∧ slots + 24 * n ≤ 744) → zH X N g s H locs → lv_has ls 5 [(0, z_r N 0 0), (1, z_v x1), (2, z_v x2), (3, z_v x3), (4, z_v x4)] → sL_areSlots_run n0 n 0 x1 x2 x3 x4 g = some (r, g') → W p l e { frames := 8, cells := 124, slots := 744, locals := 152 } s m args below meth c H locs cells slots (MQ below (zQi X N r g') args s 124 744 (zA X)) (F0 m 26 ls [])) := by
  intro n
  induction n with
  | zero => exact fun _ _ _ _ _ _ _ _ _ _ _ _ _  h => (by cases h)
  | succ n ih => exact fun cells slots x1 x2 x3 x4 g H locs ls hcs  hw hl h => wL_areSlots_h26 hF hT hr ih (by omega)  hw hl h
set_option maxHeartbeats 4000000 in
set_option maxRecDepth 100000 in
theorem czL_areSlots (l : Launch) (hT : l.stackTraces = false) (X : zC) (N : zN) {n : Nat} {x1 : Int} {g g' : zG} {r : Int} (h : sL_areSlots n x1 g = some (r, g')) : zMC l yL_areSlots cL_areSlots 5 (some .boolean) { frames := 8, cells := 124, slots := 744, locals := 152 } X N g [z_r N 0 0, z_v x1] (zQi X N r g') := by
  refine z_cofW (own := RL) (by decide +kernel) rfl (Nat.le_of_ble_eq_true rfl) ?_
  intro p e s m args below meth c ls hF hr hw hl
  have hl : lv_has ls 5 [(0, z_r N 0 0), (1, z_v x1)] := hl
  have hx := hF.1.1
  have hb := hF.1.2.1
  generalize s.heap = H at hw ⊢
  generalize ([] : List Loc) = locs at hw ⊢
  have key : ∀ cells slots : Nat, cells + 124 ≤ 124 → slots + 744 ≤ 744 → W p l e { frames := 8, cells := 124, slots := 744, locals := 152 } s m args below meth c H locs cells slots (MQ below (zQi X N r g') args s 124 744 (zA X)) (F0 m 0 ls []) := by
    intro cells slots hc1 hc2
    have hKK := wL_areSlots_run hF hT hr (g' := g') (X := X) (N := N) (n0 := n) (e := e) (below := below) (r := r) 30
    have hK0 := hKK
    unfold sL_areSlots at h
    refine lv_aload_n hx hb dL_areSlots_0 rfl (lv_at hl 0 rfl) ?_
    refine lv_iload_n hx hb dL_areSlots_1 rfl (lv_at hl 1 rfl) ?_
    refine lv_iconst hx hb dL_areSlots_2 rfl ?_
    obtain ⟨o1, g1, h1, h⟩ := zbn_some h
    refine zw_callVi (n := 2) (As := [z_v x1, z_v 0]) (rest := []) hF hw (czX4_regulationIs l hT X N h1) h zEf_0_0 (by decide) zC_0 (z_goodV qw_658 qw_659 qw_660 qw_15 qw_661) (by decide +kernel) ⟨Nat.le_of_ble_eq_true rfl, Nat.le_of_ble_eq_true rfl⟩ rfl hl.1 rfl (Nat.le_of_ble_eq_true rfl) dL_areSlots_3 ⟨by show cells + 2 ≤ 124; omega, by show slots + 12 ≤ 744; omega⟩ (fun h => h.elim) (fun H locs hw h => ?_)
    clear h1
    generalize g1 = g at *
    generalize o1.2 = r1 at *
    refine W.widen (k := cells + 2) (n := slots + 12) (by show cells + 2 ≤ cells + 2; omega) (by show slots + 12 ≤ slots + 12; omega) ?_
    refine lv_istore_n (lv' := [(2, z_v r1), (0, z_r N 0 0), (1, z_v x1)]) hx hb dL_areSlots_6 rfl hl (by decide) rfl (fun ls hl => ?_)
    refine lv_aload_n hx hb dL_areSlots_7 rfl (lv_at hl 1 rfl) ?_
    refine lv_iload_n hx hb dL_areSlots_8 rfl (lv_at hl 2 rfl) ?_
    refine lv_iload_n hx hb dL_areSlots_9 rfl (lv_at hl 0 rfl) ?_
    obtain ⟨o1, g1, h1, h⟩ := zbn_some h
    refine zw_callVi (n := 2) (As := [z_v x1, z_v r1]) (rest := []) hF hw (czX4_slot l hT X N h1) h zEf_0_0 (by decide) zC_0 (z_goodV qw_667 qw_668 qw_669 qw_15 qw_670) (by decide +kernel) ⟨Nat.le_of_ble_eq_true rfl, Nat.le_of_ble_eq_true rfl⟩ rfl hl.1 rfl (Nat.le_of_ble_eq_true rfl) dL_areSlots_10 ⟨by show cells + 2 + 2 ≤ 124; omega, by show slots + 12 + 12 ≤ 744; omega⟩ (fun h => h.elim) (fun H locs hw h => ?_)
    clear h1
    generalize g1 = g at *
    generalize o1.2 = r2 at *
    refine W.widen (k := cells + 4) (n := slots + 24) (by show cells + 2 + 2 ≤ cells + 4; omega) (by show slots + 12 + 12 ≤ slots + 24; omega) ?_
    refine lv_iconst hx hb dL_areSlots_13 rfl ?_
    refine zr_icmp_ne (tgt := 21) hF h dL_areSlots_14 (by decide) (fun h => ?_) (fun h => ?_)
    · refine lv_iconst hx hb dL_areSlots_21 rfl ?_
      exact wL_areSlots_j22 hF hT hr hK0 (by omega)  hw (lv_sub hl [1, 2, 0] rfl) h
    · refine lv_iconst hx hb dL_areSlots_17 rfl ?_
      refine lv_goto (tgt := 22) hx hb dL_areSlots_18 (by decide) ?_
      exact wL_areSlots_j22 hF hT hr hK0 (by omega)  hw (lv_sub hl [1, 2, 0] rfl) h
  exact key 0 0 (by omega) (by omega)

set_option maxHeartbeats 4000000 in
set_option maxRecDepth 100000 in
theorem wL_isSwapped_j160 {p : Program} {l : Launch} {e : Env} {s : State} {m : MethodId} {args : Array Value} {below : List Frame} {meth : Method} {c : Code} {X : zC} {N : zN} {r : Int} {g' : zG} (hF : zF p s m args meth c X cL_isSwapped 9 RL) (hT : l.stackTraces = false) (hr : meth.sig.returnType = (some .boolean)) {cells slots : Nat} (hcs : cells + 8 ≤ 32 ∧ slots + 48 ≤ 192) {x2 : Int} {x4 : Int} {x5 : Int} {x6 : Int} {t0 : Int} {g : zG} {H : Heap} {locs : List Loc} {ls : Array Slot} (hw : zH X N g s H locs) (hl : lv_has ls 9 [(0, z_r N 0 0), (2, z_v x2), (4, z_v x4), (5, z_v x5), (6, z_v x6)]) (h : sL_isSwapped_j160 x2 x4 x5 x6 t0 g = some (r, g')) : W p l e { frames := 9, cells := 32, slots := 192, locals := 161 } s m args below meth c H locs cells slots (MQ below (zQi X N r g') args s 32 192 (zA X)) (F0 m 160 ls [z_v t0]) := by
  have hx := hF.1.1
  have hb := hF.1.2.1
  unfold sL_isSwapped_j160 at h
  refine lv_istore (lv' := [(8, z_v t0), (0, z_r N 0 0), (2, z_v x2), (4, z_v x4), (5, z_v x5), (6, z_v x6)]) hx hb dL_isSwapped_160 hl (by decide) rfl (fun ls hl => ?_)
  refine lv_iload hx hb dL_isSwapped_162 (lv_at hl 0 rfl) ?_
  refine zr_if_eq (tgt := 204) hF h dL_isSwapped_164 (by decide) (fun h => ?_) (fun h => ?_)
  · refine lv_iconst hx hb dL_isSwapped_204 rfl ?_
    exact zp_zret hF hr hw h dL_isSwapped_205 ⟨by omega, by omega⟩
  · refine lv_aload_n hx hb dL_isSwapped_167 rfl (lv_at hl 1 rfl) ?_
    refine lv_iload hx hb dL_isSwapped_168 (lv_at hl 3 rfl) ?_
    refine lv_iload_n hx hb dL_isSwapped_170 rfl (lv_at hl 2 rfl) ?_
    obtain ⟨r1, g1, h1, h⟩ := zbd_some h
    refine zp_callW (n := 3) (As := [z_r N 0 0, z_v x4, z_v x2]) (rest := []) hF hw (czL_swaps l hT X N h1) (z_goodSW qw_716 qw_717 qw_14 qw_718) (by decide +kernel) ⟨Nat.le_of_ble_eq_true rfl, Nat.le_of_ble_eq_true rfl⟩ rfl hl.1 rfl (Nat.le_of_ble_eq_true rfl) dL_isSwapped_171 ⟨by show cells + 4 ≤ 32; omega, by show slots + 24 ≤ 192; omega⟩ (fun H locs hw => ?_)
    clear h1
    generalize g1 = g at *
    refine W.widen (k := cells + 4) (n := slots + 24) (by show cells + 4 ≤ cells + 4; omega) (by show slots + 24 ≤ slots + 24; omega) ?_
    refine zr_if_eq (tgt := 204) hF h dL_isSwapped_174 (by decide) (fun h => ?_) (fun h => ?_)
    · refine lv_iconst hx hb dL_isSwapped_204 rfl ?_
      exact zp_zret hF hr hw h dL_isSwapped_205 ⟨by omega, by omega⟩
    · refine lv_aload_n hx hb dL_isSwapped_177 rfl (lv_at hl 1 rfl) ?_
      refine lv_iload_n hx hb dL_isSwapped_178 rfl (lv_at hl 2 rfl) ?_
      refine lv_iconst hx hb dL_isSwapped_179 rfl ?_
      obtain ⟨o1, g1, h1, h⟩ := zbn_some h
      refine zw_callVi (n := 2) (As := [z_v x2, z_v 2]) (rest := []) hF hw (czX4_flightIs l hT X N h1) h zEf_0_0 (by decide) zC_0 (z_goodV qw_631 qw_632 qw_633 qw_15 qw_634) (by decide +kernel) ⟨Nat.le_of_ble_eq_true rfl, Nat.le_of_ble_eq_true rfl⟩ rfl hl.1 rfl (Nat.le_of_ble_eq_true rfl) dL_isSwapped_180 ⟨by show cells + 4 + 2 ≤ 32; omega, by show slots + 24 + 12 ≤ 192; omega⟩ (fun h => h.elim) (fun H locs hw h => ?_)
      clear h1
      generalize g1 = g at *
      generalize o1.2 = r2 at *
      refine W.widen (k := cells + 6) (n := slots + 36) (by show cells + 4 + 2 ≤ cells + 6; omega) (by show slots + 24 + 12 ≤ slots + 36; omega) ?_
      refine lv_iload hx hb dL_isSwapped_183 (lv_at hl 4 rfl) ?_
      refine zr_icmp_ne (tgt := 204) hF h dL_isSwapped_185 (by decide) (fun h => ?_) (fun h => ?_)
      · refine lv_iconst hx hb dL_isSwapped_204 rfl ?_
        exact zp_zret hF hr hw h dL_isSwapped_205 ⟨by omega, by omega⟩
      · refine lv_aload_n hx hb dL_isSwapped_188 rfl (lv_at hl 1 rfl) ?_
        refine lv_iload hx hb dL_isSwapped_189 (lv_at hl 3 rfl) ?_
        refine lv_iconst hx hb dL_isSwapped_191 rfl ?_
        obtain ⟨o1, g1, h1, h⟩ := zbn_some h
        refine zw_callVi (n := 2) (As := [z_v x4, z_v 2]) (rest := []) hF hw (czX4_flightIs l hT X N h1) h zEf_0_0 (by decide) zC_0 (z_goodV qw_631 qw_632 qw_633 qw_15 qw_634) (by decide +kernel) ⟨Nat.le_of_ble_eq_true rfl, Nat.le_of_ble_eq_true rfl⟩ rfl hl.1 rfl (Nat.le_of_ble_eq_true rfl) dL_isSwapped_192 ⟨by show cells + 6 + 2 ≤ 32; omega, by show slots + 36 + 12 ≤ 192; omega⟩ (fun h => h.elim) (fun H locs hw h => ?_)
        clear h1
        generalize g1 = g at *
        generalize o1.2 = r3 at *
        refine W.widen (k := cells + 8) (n := slots + 48) (by show cells + 6 + 2 ≤ cells + 8; omega) (by show slots + 36 + 12 ≤ slots + 48; omega) ?_
        refine lv_iload hx hb dL_isSwapped_195 (lv_at hl 5 rfl) ?_
        refine zr_icmp_ne (tgt := 204) hF h dL_isSwapped_197 (by decide) (fun h => ?_) (fun h => ?_)
        · refine lv_iconst hx hb dL_isSwapped_204 rfl ?_
          exact zp_zret hF hr hw h dL_isSwapped_205 ⟨by omega, by omega⟩
        · refine lv_iconst hx hb dL_isSwapped_200 rfl ?_
          refine lv_goto (tgt := 205) hx hb dL_isSwapped_201 (by decide) ?_
          exact zp_zret hF hr hw h dL_isSwapped_205 ⟨by omega, by omega⟩
set_option maxHeartbeats 4000000 in
set_option maxRecDepth 100000 in
theorem wL_isSwapped_j159 {p : Program} {l : Launch} {e : Env} {s : State} {m : MethodId} {args : Array Value} {below : List Frame} {meth : Method} {c : Code} {X : zC} {N : zN} {r : Int} {g' : zG} (hF : zF p s m args meth c X cL_isSwapped 9 RL) (hT : l.stackTraces = false) (hr : meth.sig.returnType = (some .boolean)) {cells slots : Nat} (hcs : cells + 8 ≤ 32 ∧ slots + 48 ≤ 192) {x2 : Int} {x4 : Int} {x5 : Int} {x6 : Int} {g : zG} {H : Heap} {locs : List Loc} {ls : Array Slot} (hw : zH X N g s H locs) (hl : lv_has ls 9 [(0, z_r N 0 0), (2, z_v x2), (4, z_v x4), (5, z_v x5), (6, z_v x6)]) (h : sL_isSwapped_j159 x2 x4 x5 x6 g = some (r, g')) : W p l e { frames := 9, cells := 32, slots := 192, locals := 161 } s m args below meth c H locs cells slots (MQ below (zQi X N r g') args s 32 192 (zA X)) (F0 m 159 ls []) := by
  have hx := hF.1.1
  have hb := hF.1.2.1
  unfold sL_isSwapped_j159 at h
  refine lv_iconst hx hb dL_isSwapped_159 rfl ?_
  exact wL_isSwapped_j160 hF hT hr (by omega)  hw (lv_sub hl [0, 1, 2, 3, 4] rfl) h
set_option maxHeartbeats 4000000 in
set_option maxRecDepth 100000 in
theorem czL_isSwapped (l : Launch) (hT : l.stackTraces = false) (X : zC) (N : zN) {x2 : Int} {x3 : Int} {g g' : zG} {r : Int} (h : sL_isSwapped x2 x3 g = some (r, g')) : zMC l yL_isSwapped cL_isSwapped 9 (some .boolean) { frames := 9, cells := 32, slots := 192, locals := 161 } X N g [z_r N 0 0, z_r N 17 0, z_v x2, z_v x3] (zQi X N r g') := by
  refine z_cofW (own := RL) (by decide +kernel) rfl (Nat.le_of_ble_eq_true rfl) ?_
  intro p e s m args below meth c ls hF hr hw hl
  have hl : lv_has ls 9 [(0, z_r N 0 0), (1, z_r N 17 0), (2, z_v x2), (3, z_v x3)] := hl
  have hx := hF.1.1
  have hb := hF.1.2.1
  generalize s.heap = H at hw ⊢
  generalize ([] : List Loc) = locs at hw ⊢
  have key : ∀ cells slots : Nat, cells + 32 ≤ 32 → slots + 192 ≤ 192 → W p l e { frames := 9, cells := 32, slots := 192, locals := 161 } s m args below meth c H locs cells slots (MQ below (zQi X N r g') args s 32 192 (zA X)) (F0 m 0 ls []) := by
    intro cells slots hc1 hc2
    unfold sL_isSwapped at h
    refine lv_iload_n hx hb dL_isSwapped_0 rfl (lv_at hl 3 rfl) ?_
    refine lv_aload_n hx hb dL_isSwapped_1 rfl (lv_at hl 1 rfl) ?_
    refine lv_iconst hx hb dL_isSwapped_2 rfl ?_
    refine zr_iald hF hw zEf_17_0 (by decide) h dL_isSwapped_3 (fun h => ?_)
    refine zr_irem hF h dL_isSwapped_4 (fun h => ?_)
    refine zr_let h (fun v1 h => ?_)
    refine lv_istore (lv' := [(4, z_v v1), (0, z_r N 0 0), (1, z_r N 17 0), (2, z_v x2), (3, z_v x3)]) hx hb dL_isSwapped_5 hl (by decide) rfl (fun ls hl => ?_)
    refine lv_aload_n hx hb dL_isSwapped_7 rfl (lv_at hl 1 rfl) ?_
    refine lv_iload_n hx hb dL_isSwapped_8 rfl (lv_at hl 3 rfl) ?_
    refine lv_iconst hx hb dL_isSwapped_9 rfl ?_
    obtain ⟨o1, g1, h1, h⟩ := zbn_some h
    refine zw_callVi (n := 2) (As := [z_v x2, z_v 2]) (rest := []) hF hw (czX4_flightIs l hT X N h1) h zEf_0_0 (by decide) zC_0 (z_goodV qw_631 qw_632 qw_633 qw_15 qw_634) (by decide +kernel) ⟨Nat.le_of_ble_eq_true rfl, Nat.le_of_ble_eq_true rfl⟩ rfl hl.1 rfl (Nat.le_of_ble_eq_true rfl) dL_isSwapped_10 ⟨by show cells + 2 ≤ 32; omega, by show slots + 12 ≤ 192; omega⟩ (fun h => h.elim) (fun H locs hw h => ?_)
    clear h1
    generalize g1 = g at *
    generalize o1.2 = r2 at *
    refine W.widen (k := cells + 2) (n := slots + 12) (by show cells + 2 ≤ cells + 2; omega) (by show slots + 12 ≤ slots + 12; omega) ?_
    refine lv_istore (lv' := [(5, z_v r2), (4, z_v v1), (0, z_r N 0 0), (1, z_r N 17 0), (2, z_v x2), (3, z_v x3)]) hx hb dL_isSwapped_13 hl (by decide) rfl (fun ls hl => ?_)
    refine lv_aload_n hx hb dL_isSwapped_15 rfl (lv_at hl 2 rfl) ?_
    refine lv_iload hx hb dL_isSwapped_16 (lv_at hl 1 rfl) ?_
    refine lv_iconst hx hb dL_isSwapped_18 rfl ?_
    obtain ⟨o1, g1, h1, h⟩ := zbn_some h
    refine zw_callVi (n := 2) (As := [z_v v1, z_v 2]) (rest := []) hF hw (czX4_flightIs l hT X N h1) h zEf_0_0 (by decide) zC_0 (z_goodV qw_631 qw_632 qw_633 qw_15 qw_634) (by decide +kernel) ⟨Nat.le_of_ble_eq_true rfl, Nat.le_of_ble_eq_true rfl⟩ rfl hl.1 rfl (Nat.le_of_ble_eq_true rfl) dL_isSwapped_19 ⟨by show cells + 2 + 2 ≤ 32; omega, by show slots + 12 + 12 ≤ 192; omega⟩ (fun h => h.elim) (fun H locs hw h => ?_)
    clear h1
    generalize g1 = g at *
    generalize o1.2 = r3 at *
    refine W.widen (k := cells + 4) (n := slots + 24) (by show cells + 2 + 2 ≤ cells + 4; omega) (by show slots + 12 + 12 ≤ slots + 24; omega) ?_
    refine lv_istore (lv' := [(6, z_v r3), (5, z_v r2), (4, z_v v1), (0, z_r N 0 0), (1, z_r N 17 0), (2, z_v x2), (3, z_v x3)]) hx hb dL_isSwapped_22 hl (by decide) rfl (fun ls hl => ?_)
    refine lv_aload_n hx hb dL_isSwapped_24 rfl (lv_at hl 3 rfl) ?_
    refine lv_iload_n hx hb dL_isSwapped_25 rfl (lv_at hl 5 rfl) ?_
    refine lv_iload hx hb dL_isSwapped_26 (lv_at hl 2 rfl) ?_
    obtain ⟨r4, g1, h1, h⟩ := zbd_some h
    refine zp_callW (n := 3) (As := [z_r N 0 0, z_v x2, z_v v1]) (rest := []) hF hw (czL_swaps l hT X N h1) (z_goodSW qw_716 qw_717 qw_14 qw_718) (by decide +kernel) ⟨Nat.le_of_ble_eq_true rfl, Nat.le_of_ble_eq_true rfl⟩ rfl hl.1 rfl (Nat.le_of_ble_eq_true rfl) dL_isSwapped_28 ⟨by show cells + 4 + 4 ≤ 32; omega, by show slots + 24 + 24 ≤ 192; omega⟩ (fun H locs hw => ?_)
    clear h1
    generalize g1 = g at *
    refine W.widen (k := cells + 8) (n := slots + 48) (by show cells + 4 + 4 ≤ cells + 8; omega) (by show slots + 24 + 24 ≤ slots + 48; omega) ?_
    refine lv_istore (lv' := [(7, z_v r4), (6, z_v r3), (5, z_v r2), (4, z_v v1), (0, z_r N 0 0), (1, z_r N 17 0), (2, z_v x2), (3, z_v x3)]) hx hb dL_isSwapped_31 hl (by decide) rfl (fun ls hl => ?_)
    refine lv_iload hx hb dL_isSwapped_33 (lv_at hl 0 rfl) ?_
    refine zr_if_ne (tgt := 67) hF h dL_isSwapped_35 (by decide) (fun h => ?_) (fun h => ?_)
    · refine lv_iload_n hx hb dL_isSwapped_67 rfl (lv_at hl 6 rfl) ?_
      refine lv_iload hx hb dL_isSwapped_68 (lv_at hl 3 rfl) ?_
      refine zr_icmp_eq (tgt := 159) hF h dL_isSwapped_70 (by decide) (fun h => ?_) (fun h => ?_)
      · exact wL_isSwapped_j159 hF hT hr (by omega)  hw (lv_sub hl [4, 6, 3, 2, 1] rfl) h
      · refine lv_iload hx hb dL_isSwapped_73 (lv_at hl 2 rfl) ?_
        refine lv_iconst hx hb dL_isSwapped_75 rfl ?_
        refine zr_icmp_eq (tgt := 159) hF h dL_isSwapped_76 (by decide) (fun h => ?_) (fun h => ?_)
        · exact wL_isSwapped_j159 hF hT hr (by omega)  hw (lv_sub hl [4, 6, 3, 2, 1] rfl) h
        · refine lv_iload hx hb dL_isSwapped_79 (lv_at hl 1 rfl) ?_
          refine lv_iconst hx hb dL_isSwapped_81 rfl ?_
          refine zr_icmp_eq (tgt := 159) hF h dL_isSwapped_82 (by decide) (fun h => ?_) (fun h => ?_)
          · exact wL_isSwapped_j159 hF hT hr (by omega)  hw (lv_sub hl [4, 6, 3, 2, 1] rfl) h
          · refine lv_aload_n hx hb dL_isSwapped_85 rfl (lv_at hl 4 rfl) ?_
            refine lv_iload_n hx hb dL_isSwapped_86 rfl (lv_at hl 6 rfl) ?_
            refine lv_iconst hx hb dL_isSwapped_87 rfl ?_
            obtain ⟨o1, g1, h1, h⟩ := zbn_some h
            refine zw_callVi (n := 2) (As := [z_v x2, z_v 3]) (rest := []) hF hw (czX4_flightIs l hT X N h1) h zEf_0_0 (by decide) zC_0 (z_goodV qw_631 qw_632 qw_633 qw_15 qw_634) (by decide +kernel) ⟨Nat.le_of_ble_eq_true rfl, Nat.le_of_ble_eq_true rfl⟩ rfl hl.1 rfl (Nat.le_of_ble_eq_true rfl) dL_isSwapped_88 ⟨by show cells + 8 + 2 ≤ 32; omega, by show slots + 48 + 12 ≤ 192; omega⟩ (fun h => h.elim) (fun H locs hw h => ?_)
            clear h1
            generalize g1 = g at *
            generalize o1.2 = r5 at *
            refine W.widen (k := cells + 10) (n := slots + 60) (by show cells + 8 + 2 ≤ cells + 10; omega) (by show slots + 48 + 12 ≤ slots + 60; omega) ?_
            refine lv_aload_n hx hb dL_isSwapped_91 rfl (lv_at hl 4 rfl) ?_
            refine lv_iload hx hb dL_isSwapped_92 (lv_at hl 3 rfl) ?_
            refine lv_iconst hx hb dL_isSwapped_94 rfl ?_
            obtain ⟨o1, g1, h1, h⟩ := zbn_some h
            refine zw_callVi (n := 2) (As := [z_v v1, z_v 3]) (rest := [z_v r5]) hF hw (czX4_flightIs l hT X N h1) h zEf_0_0 (by decide) zC_0 (z_goodV qw_631 qw_632 qw_633 qw_15 qw_634) (by decide +kernel) ⟨Nat.le_of_ble_eq_true rfl, Nat.le_of_ble_eq_true rfl⟩ rfl hl.1 rfl (Nat.le_of_ble_eq_true rfl) dL_isSwapped_95 ⟨by show cells + 10 + 2 ≤ 32; omega, by show slots + 60 + 12 ≤ 192; omega⟩ (fun h => h.elim) (fun H locs hw h => ?_)
            clear h1
            generalize g1 = g at *
            generalize o1.2 = r6 at *
            refine W.widen (k := cells + 12) (n := slots + 72) (by show cells + 10 + 2 ≤ cells + 12; omega) (by show slots + 60 + 12 ≤ slots + 72; omega) ?_
            refine zr_icmp_ne (tgt := 159) hF h dL_isSwapped_98 (by decide) (fun h => ?_) (fun h => ?_)
            · exact wL_isSwapped_j159 hF hT hr (by omega)  hw (lv_sub hl [4, 6, 3, 2, 1] rfl) h
            · refine lv_aload_n hx hb dL_isSwapped_101 rfl (lv_at hl 4 rfl) ?_
              refine lv_iload_n hx hb dL_isSwapped_102 rfl (lv_at hl 6 rfl) ?_
              refine lv_iconst hx hb dL_isSwapped_103 rfl ?_
              obtain ⟨o1, g1, h1, h⟩ := zbn_some h
              refine zw_callVi (n := 2) (As := [z_v x2, z_v 2]) (rest := []) hF hw (czX4_flightIs l hT X N h1) h zEf_0_0 (by decide) zC_0 (z_goodV qw_631 qw_632 qw_633 qw_15 qw_634) (by decide +kernel) ⟨Nat.le_of_ble_eq_true rfl, Nat.le_of_ble_eq_true rfl⟩ rfl hl.1 rfl (Nat.le_of_ble_eq_true rfl) dL_isSwapped_104 ⟨by show cells + 12 + 2 ≤ 32; omega, by show slots + 72 + 12 ≤ 192; omega⟩ (fun h => h.elim) (fun H locs hw h => ?_)
              clear h1
              generalize g1 = g at *
              generalize o1.2 = r7 at *
              refine W.widen (k := cells + 14) (n := slots + 84) (by show cells + 12 + 2 ≤ cells + 14; omega) (by show slots + 72 + 12 ≤ slots + 84; omega) ?_
              refine lv_aload_n hx hb dL_isSwapped_107 rfl (lv_at hl 4 rfl) ?_
              refine lv_iload_n hx hb dL_isSwapped_108 rfl (lv_at hl 6 rfl) ?_
              refine lv_iconst hx hb dL_isSwapped_109 rfl ?_
              obtain ⟨o1, g1, h1, h⟩ := zbn_some h
              refine zw_callVi (n := 2) (As := [z_v x2, z_v 1]) (rest := [z_v r7]) hF hw (czX4_flightIs l hT X N h1) h zEf_0_0 (by decide) zC_0 (z_goodV qw_631 qw_632 qw_633 qw_15 qw_634) (by decide +kernel) ⟨Nat.le_of_ble_eq_true rfl, Nat.le_of_ble_eq_true rfl⟩ rfl hl.1 rfl (Nat.le_of_ble_eq_true rfl) dL_isSwapped_110 ⟨by show cells + 14 + 2 ≤ 32; omega, by show slots + 84 + 12 ≤ 192; omega⟩ (fun h => h.elim) (fun H locs hw h => ?_)
              clear h1
              generalize g1 = g at *
              generalize o1.2 = r8 at *
              refine W.widen (k := cells + 16) (n := slots + 96) (by show cells + 14 + 2 ≤ cells + 16; omega) (by show slots + 84 + 12 ≤ slots + 96; omega) ?_
              refine zr_icmp_lt (tgt := 159) hF h dL_isSwapped_113 (by decide) (fun h => ?_) (fun h => ?_)
              · exact wL_isSwapped_j159 hF hT hr (by omega)  hw (lv_sub hl [4, 6, 3, 2, 1] rfl) h
              · refine lv_aload_n hx hb dL_isSwapped_116 rfl (lv_at hl 4 rfl) ?_
                refine lv_iload hx hb dL_isSwapped_117 (lv_at hl 3 rfl) ?_
                refine lv_iconst hx hb dL_isSwapped_119 rfl ?_
                obtain ⟨o1, g1, h1, h⟩ := zbn_some h
                refine zw_callVi (n := 2) (As := [z_v v1, z_v 2]) (rest := []) hF hw (czX4_flightIs l hT X N h1) h zEf_0_0 (by decide) zC_0 (z_goodV qw_631 qw_632 qw_633 qw_15 qw_634) (by decide +kernel) ⟨Nat.le_of_ble_eq_true rfl, Nat.le_of_ble_eq_true rfl⟩ rfl hl.1 rfl (Nat.le_of_ble_eq_true rfl) dL_isSwapped_120 ⟨by show cells + 16 + 2 ≤ 32; omega, by show slots + 96 + 12 ≤ 192; omega⟩ (fun h => h.elim) (fun H locs hw h => ?_)
                clear h1
                generalize g1 = g at *
                generalize o1.2 = r9 at *
                refine W.widen (k := cells + 18) (n := slots + 108) (by show cells + 16 + 2 ≤ cells + 18; omega) (by show slots + 96 + 12 ≤ slots + 108; omega) ?_
                refine lv_aload_n hx hb dL_isSwapped_123 rfl (lv_at hl 4 rfl) ?_
                refine lv_iload hx hb dL_isSwapped_124 (lv_at hl 3 rfl) ?_
                refine lv_iconst hx hb dL_isSwapped_126 rfl ?_
                obtain ⟨o1, g1, h1, h⟩ := zbn_some h
                refine zw_callVi (n := 2) (As := [z_v v1, z_v 1]) (rest := [z_v r9]) hF hw (czX4_flightIs l hT X N h1) h zEf_0_0 (by decide) zC_0 (z_goodV qw_631 qw_632 qw_633 qw_15 qw_634) (by decide +kernel) ⟨Nat.le_of_ble_eq_true rfl, Nat.le_of_ble_eq_true rfl⟩ rfl hl.1 rfl (Nat.le_of_ble_eq_true rfl) dL_isSwapped_127 ⟨by show cells + 18 + 2 ≤ 32; omega, by show slots + 108 + 12 ≤ 192; omega⟩ (fun h => h.elim) (fun H locs hw h => ?_)
                clear h1
                generalize g1 = g at *
                generalize o1.2 = r10 at *
                refine W.widen (k := cells + 20) (n := slots + 120) (by show cells + 18 + 2 ≤ cells + 20; omega) (by show slots + 108 + 12 ≤ slots + 120; omega) ?_
                refine zr_icmp_lt (tgt := 159) hF h dL_isSwapped_130 (by decide) (fun h => ?_) (fun h => ?_)
                · exact wL_isSwapped_j159 hF hT hr (by omega)  hw (lv_sub hl [4, 6, 3, 2, 1] rfl) h
                · refine lv_aload_n hx hb dL_isSwapped_133 rfl (lv_at hl 4 rfl) ?_
                  refine lv_iload_n hx hb dL_isSwapped_134 rfl (lv_at hl 6 rfl) ?_
                  refine lv_iconst hx hb dL_isSwapped_135 rfl ?_
                  obtain ⟨o1, g1, h1, h⟩ := zbn_some h
                  refine zw_callVi (n := 2) (As := [z_v x2, z_v 2]) (rest := []) hF hw (czX4_flightIs l hT X N h1) h zEf_0_0 (by decide) zC_0 (z_goodV qw_631 qw_632 qw_633 qw_15 qw_634) (by decide +kernel) ⟨Nat.le_of_ble_eq_true rfl, Nat.le_of_ble_eq_true rfl⟩ rfl hl.1 rfl (Nat.le_of_ble_eq_true rfl) dL_isSwapped_136 ⟨by show cells + 20 + 2 ≤ 32; omega, by show slots + 120 + 12 ≤ 192; omega⟩ (fun h => h.elim) (fun H locs hw h => ?_)
                  clear h1
                  generalize g1 = g at *
                  generalize o1.2 = r11 at *
                  refine W.widen (k := cells + 22) (n := slots + 132) (by show cells + 20 + 2 ≤ cells + 22; omega) (by show slots + 120 + 12 ≤ slots + 132; omega) ?_
                  refine lv_aload_n hx hb dL_isSwapped_139 rfl (lv_at hl 4 rfl) ?_
                  refine lv_iload hx hb dL_isSwapped_140 (lv_at hl 3 rfl) ?_
                  refine lv_iconst hx hb dL_isSwapped_142 rfl ?_
                  obtain ⟨o1, g1, h1, h⟩ := zbn_some h
                  refine zw_callVi (n := 2) (As := [z_v v1, z_v 2]) (rest := [z_v r11]) hF hw (czX4_flightIs l hT X N h1) h zEf_0_0 (by decide) zC_0 (z_goodV qw_631 qw_632 qw_633 qw_15 qw_634) (by decide +kernel) ⟨Nat.le_of_ble_eq_true rfl, Nat.le_of_ble_eq_true rfl⟩ rfl hl.1 rfl (Nat.le_of_ble_eq_true rfl) dL_isSwapped_143 ⟨by show cells + 22 + 2 ≤ 32; omega, by show slots + 132 + 12 ≤ 192; omega⟩ (fun h => h.elim) (fun H locs hw h => ?_)
                  clear h1
                  generalize g1 = g at *
                  generalize o1.2 = r12 at *
                  refine W.widen (k := cells + 24) (n := slots + 144) (by show cells + 22 + 2 ≤ cells + 24; omega) (by show slots + 132 + 12 ≤ slots + 144; omega) ?_
                  refine zr_iadd hF dL_isSwapped_146 ?_
                  refine lv_iload hx hb dL_isSwapped_147 (lv_at hl 2 rfl) ?_
                  refine lv_iload hx hb dL_isSwapped_149 (lv_at hl 1 rfl) ?_
                  refine zr_iadd hF dL_isSwapped_151 ?_
                  refine zr_icmp_ne (tgt := 159) hF h dL_isSwapped_152 (by decide) (fun h => ?_) (fun h => ?_)
                  · exact wL_isSwapped_j159 hF hT hr (by omega)  hw (lv_sub hl [4, 6, 3, 2, 1] rfl) h
                  · refine lv_iconst hx hb dL_isSwapped_155 rfl ?_
                    refine lv_goto (tgt := 160) hx hb dL_isSwapped_156 (by decide) ?_
                    exact wL_isSwapped_j160 hF hT hr (by omega)  hw (lv_sub hl [4, 6, 3, 2, 1] rfl) h
    · refine lv_aload_n hx hb dL_isSwapped_38 rfl (lv_at hl 4 rfl) ?_
      refine lv_iload_n hx hb dL_isSwapped_39 rfl (lv_at hl 6 rfl) ?_
      refine lv_iconst hx hb dL_isSwapped_40 rfl ?_
      obtain ⟨o1, g1, h1, h⟩ := zbn_some h
      refine zw_callVi (n := 2) (As := [z_v x2, z_v 2]) (rest := []) hF hw (czX4_flightIs l hT X N h1) h zEf_0_0 (by decide) zC_0 (z_goodV qw_631 qw_632 qw_633 qw_15 qw_634) (by decide +kernel) ⟨Nat.le_of_ble_eq_true rfl, Nat.le_of_ble_eq_true rfl⟩ rfl hl.1 rfl (Nat.le_of_ble_eq_true rfl) dL_isSwapped_41 ⟨by show cells + 8 + 2 ≤ 32; omega, by show slots + 48 + 12 ≤ 192; omega⟩ (fun h => h.elim) (fun H locs hw h => ?_)
      clear h1
      generalize g1 = g at *
      generalize o1.2 = r13 at *
      refine W.widen (k := cells + 10) (n := slots + 60) (by show cells + 8 + 2 ≤ cells + 10; omega) (by show slots + 48 + 12 ≤ slots + 60; omega) ?_
      refine lv_iload hx hb dL_isSwapped_44 (lv_at hl 2 rfl) ?_
      refine zr_icmp_ne (tgt := 65) hF h dL_isSwapped_46 (by decide) (fun h => ?_) (fun h => ?_)
      · refine lv_iconst hx hb dL_isSwapped_65 rfl ?_
        exact zp_zret hF hr hw h dL_isSwapped_66 ⟨by omega, by omega⟩
      · refine lv_aload_n hx hb dL_isSwapped_49 rfl (lv_at hl 4 rfl) ?_
        refine lv_iload hx hb dL_isSwapped_50 (lv_at hl 3 rfl) ?_
        refine lv_iconst hx hb dL_isSwapped_52 rfl ?_
        obtain ⟨o1, g1, h1, h⟩ := zbn_some h
        refine zw_callVi (n := 2) (As := [z_v v1, z_v 2]) (rest := []) hF hw (czX4_flightIs l hT X N h1) h zEf_0_0 (by decide) zC_0 (z_goodV qw_631 qw_632 qw_633 qw_15 qw_634) (by decide +kernel) ⟨Nat.le_of_ble_eq_true rfl, Nat.le_of_ble_eq_true rfl⟩ rfl hl.1 rfl (Nat.le_of_ble_eq_true rfl) dL_isSwapped_53 ⟨by show cells + 10 + 2 ≤ 32; omega, by show slots + 60 + 12 ≤ 192; omega⟩ (fun h => h.elim) (fun H locs hw h => ?_)
        clear h1
        generalize g1 = g at *
        generalize o1.2 = r14 at *
        refine W.widen (k := cells + 12) (n := slots + 72) (by show cells + 10 + 2 ≤ cells + 12; omega) (by show slots + 60 + 12 ≤ slots + 72; omega) ?_
        refine lv_iload hx hb dL_isSwapped_56 (lv_at hl 1 rfl) ?_
        refine zr_icmp_ne (tgt := 65) hF h dL_isSwapped_58 (by decide) (fun h => ?_) (fun h => ?_)
        · refine lv_iconst hx hb dL_isSwapped_65 rfl ?_
          exact zp_zret hF hr hw h dL_isSwapped_66 ⟨by omega, by omega⟩
        · refine lv_iconst hx hb dL_isSwapped_61 rfl ?_
          refine lv_goto (tgt := 66) hx hb dL_isSwapped_62 (by decide) ?_
          exact zp_zret hF hr hw h dL_isSwapped_66 ⟨by omega, by omega⟩
  exact key 0 0 (by omega) (by omega)

set_option maxHeartbeats 4000000 in
set_option maxRecDepth 100000 in
theorem wL_isTold_j354 {p : Program} {l : Launch} {e : Env} {s : State} {m : MethodId} {args : Array Value} {below : List Frame} {meth : Method} {c : Code} {X : zC} {N : zN} {r : Int} {g' : zG} (hF : zF p s m args meth c X cL_isTold 12 RL) (hT : l.stackTraces = false) (hr : meth.sig.returnType = (some .boolean)) {n : Nat} {cells slots : Nat} (hcs : cells + 0 ≤ 24 ∧ slots + 0 ≤ 144) {g : zG} {H : Heap} {locs : List Loc} {ls : Array Slot} (hw : zH X N g s H locs) (hl : lv_has ls 12 []) (h : sL_isTold_j354 n g = some (r, g')) : W p l e { frames := 8, cells := 24, slots := 144, locals := 195 } s m args below meth c H locs cells slots (MQ below (zQi X N r g') args s 24 144 (zA X)) (F0 m 354 ls []) := by
  have hx := hF.1.1
  have hb := hF.1.2.1
  unfold sL_isTold_j354 at h
  refine lv_iconst hx hb dL_isTold_354 rfl ?_
  refine lv_goto (tgt := 359) hx hb dL_isTold_355 (by decide) ?_
  exact zp_zret hF hr hw h dL_isTold_359 ⟨by omega, by omega⟩
set_option maxHeartbeats 4000000 in
set_option maxRecDepth 100000 in
theorem wL_isTold_j289 {p : Program} {l : Launch} {e : Env} {s : State} {m : MethodId} {args : Array Value} {below : List Frame} {meth : Method} {c : Code} {X : zC} {N : zN} {r : Int} {g' : zG} (hF : zF p s m args meth c X cL_isTold 12 RL) (hT : l.stackTraces = false) (hr : meth.sig.returnType = (some .boolean)) {n : Nat} {cells slots : Nat} (hcs : cells + 0 ≤ 24 ∧ slots + 0 ≤ 144) {t0 : Int} {t1 : Int} {g : zG} {H : Heap} {locs : List Loc} {ls : Array Slot} (hw : zH X N g s H locs) (hl : lv_has ls 12 []) (h : sL_isTold_j289 n t0 t1 g = some (r, g')) : W p l e { frames := 8, cells := 24, slots := 144, locals := 195 } s m args below meth c H locs cells slots (MQ below (zQi X N r g') args s 24 144 (zA X)) (F0 m 289 ls [z_v t1, z_v t0]) := by
  have hx := hF.1.1
  have hb := hF.1.2.1
  unfold sL_isTold_j289 at h
  refine zr_icmp_ne (tgt := 358) hF h dL_isTold_289 (by decide) (fun h => ?_) (fun h => ?_)
  · refine lv_iconst hx hb dL_isTold_358 rfl ?_
    exact zp_zret hF hr hw h dL_isTold_359 ⟨by omega, by omega⟩
  · refine lv_goto (tgt := 354) hx hb dL_isTold_292 (by decide) ?_
    exact wL_isTold_j354 hF hT hr (by omega)  hw (lv_sub hl [] rfl) h
set_option maxHeartbeats 4000000 in
set_option maxRecDepth 100000 in
theorem wL_isTold_j247 {p : Program} {l : Launch} {e : Env} {s : State} {m : MethodId} {args : Array Value} {below : List Frame} {meth : Method} {c : Code} {X : zC} {N : zN} {r : Int} {g' : zG} (hF : zF p s m args meth c X cL_isTold 12 RL) (hT : l.stackTraces = false) (hr : meth.sig.returnType = (some .boolean)) {n : Nat} {cells slots : Nat} (hcs : cells + 6 ≤ 24 ∧ slots + 36 ≤ 144) {x1 : Int} {x5 : Int} {x7 : Int} {x9 : Int} {t0 : Int} {g : zG} {H : Heap} {locs : List Loc} {ls : Array Slot} (hw : zH X N g s H locs) (hl : lv_has ls 12 [(0, z_r N 0 0), (1, z_v x1), (5, z_v x5), (7, z_v x7), (9, z_v x9)]) (h : sL_isTold_j247 n x1 x5 x7 x9 t0 g = some (r, g')) : W p l e { frames := 8, cells := 24, slots := 144, locals := 195 } s m args below meth c H locs cells slots (MQ below (zQi X N r g') args s 24 144 (zA X)) (F0 m 247 ls [z_v t0]) := by
  have hx := hF.1.1
  have hb := hF.1.2.1
  unfold sL_isTold_j247 at h
  refine lv_istore (lv' := [(11, z_v t0), (0, z_r N 0 0), (1, z_v x1), (5, z_v x5), (7, z_v x7), (9, z_v x9)]) hx hb dL_isTold_247 hl (by decide) rfl (fun ls hl => ?_)
  refine lv_iload hx hb dL_isTold_249 (lv_at hl 0 rfl) ?_
  refine zr_if_eq (tgt := 358) hF h dL_isTold_251 (by decide) (fun h => ?_) (fun h => ?_)
  · refine lv_iconst hx hb dL_isTold_358 rfl ?_
    exact zp_zret hF hr hw h dL_isTold_359 ⟨by omega, by omega⟩
  · refine lv_iload hx hb dL_isTold_254 (lv_at hl 4 rfl) ?_
    refine zr_if_ne (tgt := 295) hF h dL_isTold_256 (by decide) (fun h => ?_) (fun h => ?_)
    · refine lv_iload hx hb dL_isTold_295 (lv_at hl 4 rfl) ?_
      refine lv_iconst hx hb dL_isTold_297 rfl ?_
      refine zr_icmp_ne (tgt := 322) hF h dL_isTold_298 (by decide) (fun h => ?_) (fun h => ?_)
      · refine lv_aload_n hx hb dL_isTold_322 rfl (lv_at hl 1 rfl) ?_
        refine lv_iload_n hx hb dL_isTold_323 rfl (lv_at hl 2 rfl) ?_
        refine lv_iconst hx hb dL_isTold_324 rfl ?_
        obtain ⟨o1, g1, h1, h⟩ := zbn_some h
        refine zw_callVi (n := 2) (As := [z_v x1, z_v 0]) (rest := []) hF hw (czX4_flightIs l hT X N h1) h zEf_0_0 (by decide) zC_0 (z_goodV qw_631 qw_632 qw_633 qw_15 qw_634) (by decide +kernel) ⟨Nat.le_of_ble_eq_true rfl, Nat.le_of_ble_eq_true rfl⟩ rfl hl.1 rfl (Nat.le_of_ble_eq_true rfl) dL_isTold_325 ⟨by show cells + 2 ≤ 24; omega, by show slots + 12 ≤ 144; omega⟩ (fun h => h.elim) (fun H locs hw h => ?_)
        clear h1
        generalize g1 = g at *
        generalize o1.2 = r1 at *
        refine W.widen (k := cells + 2) (n := slots + 12) (by show cells + 2 ≤ cells + 2; omega) (by show slots + 12 ≤ slots + 12; omega) ?_
        refine lv_iconst hx hb dL_isTold_328 rfl ?_
        refine zr_icmp_ne (tgt := 358) hF h dL_isTold_329 (by decide) (fun h => ?_) (fun h => ?_)
        · refine lv_iconst hx hb dL_isTold_358 rfl ?_
          exact zp_zret hF hr hw h dL_isTold_359 ⟨by omega, by omega⟩
        · refine lv_aload_n hx hb dL_isTold_332 rfl (lv_at hl 1 rfl) ?_
          refine lv_iload_n hx hb dL_isTold_333 rfl (lv_at hl 2 rfl) ?_
          refine lv_iconst hx hb dL_isTold_334 rfl ?_
          obtain ⟨o1, g1, h1, h⟩ := zbn_some h
          refine zw_callVi (n := 2) (As := [z_v x1, z_v 4]) (rest := []) hF hw (czX4_flightIs l hT X N h1) h zEf_0_0 (by decide) zC_0 (z_goodV qw_631 qw_632 qw_633 qw_15 qw_634) (by decide +kernel) ⟨Nat.le_of_ble_eq_true rfl, Nat.le_of_ble_eq_true rfl⟩ rfl hl.1 rfl (Nat.le_of_ble_eq_true rfl) dL_isTold_335 ⟨by show cells + 2 + 2 ≤ 24; omega, by show slots + 12 + 12 ≤ 144; omega⟩ (fun h => h.elim) (fun H locs hw h => ?_)
          clear h1
          generalize g1 = g at *
          generalize o1.2 = r2 at *
          refine W.widen (k := cells + 4) (n := slots + 24) (by show cells + 2 + 2 ≤ cells + 4; omega) (by show slots + 12 + 12 ≤ slots + 24; omega) ?_
          refine lv_iload hx hb dL_isTold_338 (lv_at hl 5 rfl) ?_
          refine zr_icmp_ne (tgt := 358) hF h dL_isTold_340 (by decide) (fun h => ?_) (fun h => ?_)
          · refine lv_iconst hx hb dL_isTold_358 rfl ?_
            exact zp_zret hF hr hw h dL_isTold_359 ⟨by omega, by omega⟩
          · refine lv_aload_n hx hb dL_isTold_343 rfl (lv_at hl 1 rfl) ?_
            refine lv_iload_n hx hb dL_isTold_344 rfl (lv_at hl 2 rfl) ?_
            refine lv_iconst hx hb dL_isTold_345 rfl ?_
            obtain ⟨o1, g1, h1, h⟩ := zbn_some h
            refine zw_callVi (n := 2) (As := [z_v x1, z_v 2]) (rest := []) hF hw (czX4_flightIs l hT X N h1) h zEf_0_0 (by decide) zC_0 (z_goodV qw_631 qw_632 qw_633 qw_15 qw_634) (by decide +kernel) ⟨Nat.le_of_ble_eq_true rfl, Nat.le_of_ble_eq_true rfl⟩ rfl hl.1 rfl (Nat.le_of_ble_eq_true rfl) dL_isTold_346 ⟨by show cells + 4 + 2 ≤ 24; omega, by show slots + 24 + 12 ≤ 144; omega⟩ (fun h => h.elim) (fun H locs hw h => ?_)
            clear h1
            generalize g1 = g at *
            generalize o1.2 = r3 at *
            refine W.widen (k := cells + 6) (n := slots + 36) (by show cells + 4 + 2 ≤ cells + 6; omega) (by show slots + 24 + 12 ≤ slots + 36; omega) ?_
            refine lv_iload hx hb dL_isTold_349 (lv_at hl 3 rfl) ?_
            refine zr_icmp_ne (tgt := 358) hF h dL_isTold_351 (by decide) (fun h => ?_) (fun h => ?_)
            · refine lv_iconst hx hb dL_isTold_358 rfl ?_
              exact zp_zret hF hr hw h dL_isTold_359 ⟨by omega, by omega⟩
            · exact wL_isTold_j354 hF hT hr (by omega)  hw (lv_sub hl [] rfl) h
      · refine lv_aload_n hx hb dL_isTold_301 rfl (lv_at hl 1 rfl) ?_
        refine lv_iload_n hx hb dL_isTold_302 rfl (lv_at hl 2 rfl) ?_
        refine lv_iconst hx hb dL_isTold_303 rfl ?_
        obtain ⟨o1, g1, h1, h⟩ := zbn_some h
        refine zw_callVi (n := 2) (As := [z_v x1, z_v 0]) (rest := []) hF hw (czX4_flightIs l hT X N h1) h zEf_0_0 (by decide) zC_0 (z_goodV qw_631 qw_632 qw_633 qw_15 qw_634) (by decide +kernel) ⟨Nat.le_of_ble_eq_true rfl, Nat.le_of_ble_eq_true rfl⟩ rfl hl.1 rfl (Nat.le_of_ble_eq_true rfl) dL_isTold_304 ⟨by show cells + 2 ≤ 24; omega, by show slots + 12 ≤ 144; omega⟩ (fun h => h.elim) (fun H locs hw h => ?_)
        clear h1
        generalize g1 = g at *
        generalize o1.2 = r4 at *
        refine W.widen (k := cells + 2) (n := slots + 12) (by show cells + 2 ≤ cells + 2; omega) (by show slots + 12 ≤ slots + 12; omega) ?_
        refine lv_iconst hx hb dL_isTold_307 rfl ?_
        refine zr_icmp_ne (tgt := 358) hF h dL_isTold_308 (by decide) (fun h => ?_) (fun h => ?_)
        · refine lv_iconst hx hb dL_isTold_358 rfl ?_
          exact zp_zret hF hr hw h dL_isTold_359 ⟨by omega, by omega⟩
        · refine lv_aload_n hx hb dL_isTold_311 rfl (lv_at hl 1 rfl) ?_
          refine lv_iload_n hx hb dL_isTold_312 rfl (lv_at hl 2 rfl) ?_
          obtain ⟨o1, g1, h1, h⟩ := zbn_some h
          refine zw_callVi (n := 1) (As := [z_v x1]) (rest := []) hF hw (czX4_due l hT X N h1) h zEf_0_0 (by decide) zC_0 (z_goodV qw_636 qw_637 qw_638 qw_15 qw_639) (by decide +kernel) ⟨Nat.le_of_ble_eq_true rfl, Nat.le_of_ble_eq_true rfl⟩ rfl hl.1 rfl (Nat.le_of_ble_eq_true rfl) dL_isTold_313 ⟨by show cells + 2 + 1 ≤ 24; omega, by show slots + 12 + 6 ≤ 144; omega⟩ (fun h => h.elim) (fun H locs hw h => ?_)
          clear h1
          generalize g1 = g at *
          generalize o1.2 = r5 at *
          refine W.widen (k := cells + 3) (n := slots + 18) (by show cells + 2 + 1 ≤ cells + 3; omega) (by show slots + 12 + 6 ≤ slots + 18; omega) ?_
          refine zr_if_ne (tgt := 358) hF h dL_isTold_316 (by decide) (fun h => ?_) (fun h => ?_)
          · refine lv_iconst hx hb dL_isTold_358 rfl ?_
            exact zp_zret hF hr hw h dL_isTold_359 ⟨by omega, by omega⟩
          · refine lv_goto (tgt := 354) hx hb dL_isTold_319 (by decide) ?_
            exact wL_isTold_j354 hF hT hr (by omega)  hw (lv_sub hl [] rfl) h
    · refine lv_aload_n hx hb dL_isTold_259 rfl (lv_at hl 1 rfl) ?_
      refine lv_iload_n hx hb dL_isTold_260 rfl (lv_at hl 2 rfl) ?_
      refine lv_iconst hx hb dL_isTold_261 rfl ?_
      obtain ⟨o1, g1, h1, h⟩ := zbn_some h
      refine zw_callVi (n := 2) (As := [z_v x1, z_v 1]) (rest := []) hF hw (czX4_flightIs l hT X N h1) h zEf_0_0 (by decide) zC_0 (z_goodV qw_631 qw_632 qw_633 qw_15 qw_634) (by decide +kernel) ⟨Nat.le_of_ble_eq_true rfl, Nat.le_of_ble_eq_true rfl⟩ rfl hl.1 rfl (Nat.le_of_ble_eq_true rfl) dL_isTold_262 ⟨by show cells + 2 ≤ 24; omega, by show slots + 12 ≤ 144; omega⟩ (fun h => h.elim) (fun H locs hw h => ?_)
      clear h1
      generalize g1 = g at *
      generalize o1.2 = r6 at *
      refine W.widen (k := cells + 2) (n := slots + 12) (by show cells + 2 ≤ cells + 2; omega) (by show slots + 12 ≤ slots + 12; omega) ?_
      refine lv_iload hx hb dL_isTold_265 (lv_at hl 5 rfl) ?_
      refine zr_icmp_ne (tgt := 358) hF h dL_isTold_267 (by decide) (fun h => ?_) (fun h => ?_)
      · refine lv_iconst hx hb dL_isTold_358 rfl ?_
        exact zp_zret hF hr hw h dL_isTold_359 ⟨by omega, by omega⟩
      · refine lv_aload_n hx hb dL_isTold_270 rfl (lv_at hl 1 rfl) ?_
        refine lv_iload_n hx hb dL_isTold_271 rfl (lv_at hl 2 rfl) ?_
        refine lv_iconst hx hb dL_isTold_272 rfl ?_
        obtain ⟨o1, g1, h1, h⟩ := zbn_some h
        refine zw_callVi (n := 2) (As := [z_v x1, z_v 2]) (rest := []) hF hw (czX4_flightIs l hT X N h1) h zEf_0_0 (by decide) zC_0 (z_goodV qw_631 qw_632 qw_633 qw_15 qw_634) (by decide +kernel) ⟨Nat.le_of_ble_eq_true rfl, Nat.le_of_ble_eq_true rfl⟩ rfl hl.1 rfl (Nat.le_of_ble_eq_true rfl) dL_isTold_273 ⟨by show cells + 2 + 2 ≤ 24; omega, by show slots + 12 + 12 ≤ 144; omega⟩ (fun h => h.elim) (fun H locs hw h => ?_)
        clear h1
        generalize g1 = g at *
        generalize o1.2 = r7 at *
        refine W.widen (k := cells + 4) (n := slots + 24) (by show cells + 2 + 2 ≤ cells + 4; omega) (by show slots + 12 + 12 ≤ slots + 24; omega) ?_
        refine lv_iload hx hb dL_isTold_276 (lv_at hl 3 rfl) ?_
        refine lv_iload hx hb dL_isTold_278 (lv_at hl 5 rfl) ?_
        refine zr_icmp_ge (tgt := 287) hF h dL_isTold_280 (by decide) (fun h => ?_) (fun h => ?_)
        · refine lv_iload hx hb dL_isTold_287 (lv_at hl 3 rfl) ?_
          exact wL_isTold_j289 hF hT hr (by omega)  hw (lv_sub hl [] rfl) h
        · refine lv_iconst hx hb dL_isTold_283 rfl ?_
          refine lv_goto (tgt := 289) hx hb dL_isTold_284 (by decide) ?_
          exact wL_isTold_j289 hF hT hr (by omega)  hw (lv_sub hl [] rfl) h
set_option maxHeartbeats 4000000 in
set_option maxRecDepth 100000 in
theorem wL_isTold_j246 {p : Program} {l : Launch} {e : Env} {s : State} {m : MethodId} {args : Array Value} {below : List Frame} {meth : Method} {c : Code} {X : zC} {N : zN} {r : Int} {g' : zG} (hF : zF p s m args meth c X cL_isTold 12 RL) (hT : l.stackTraces = false) (hr : meth.sig.returnType = (some .boolean)) {n : Nat} {cells slots : Nat} (hcs : cells + 6 ≤ 24 ∧ slots + 36 ≤ 144) {x1 : Int} {x5 : Int} {x7 : Int} {x9 : Int} {g : zG} {H : Heap} {locs : List Loc} {ls : Array Slot} (hw : zH X N g s H locs) (hl : lv_has ls 12 [(0, z_r N 0 0), (1, z_v x1), (5, z_v x5), (7, z_v x7), (9, z_v x9)]) (h : sL_isTold_j246 n x1 x5 x7 x9 g = some (r, g')) : W p l e { frames := 8, cells := 24, slots := 144, locals := 195 } s m args below meth c H locs cells slots (MQ below (zQi X N r g') args s 24 144 (zA X)) (F0 m 246 ls []) := by
  have hx := hF.1.1
  have hb := hF.1.2.1
  unfold sL_isTold_j246 at h
  refine lv_iconst hx hb dL_isTold_246 rfl ?_
  exact wL_isTold_j247 hF hT hr (by omega)  hw (lv_sub hl [0, 1, 2, 3, 4] rfl) h
set_option maxHeartbeats 4000000 in
set_option maxRecDepth 100000 in
theorem wL_isTold_j167 {p : Program} {l : Launch} {e : Env} {s : State} {m : MethodId} {args : Array Value} {below : List Frame} {meth : Method} {c : Code} {X : zC} {N : zN} {r : Int} {g' : zG} (hF : zF p s m args meth c X cL_isTold 12 RL) (hT : l.stackTraces = false) (hr : meth.sig.returnType = (some .boolean)) {n : Nat} {cells slots : Nat} (hcs : cells + 12 ≤ 24 ∧ slots + 72 ≤ 144) {x1 : Int} {x3 : Int} {x4 : Int} {x5 : Int} {x6 : Int} {x7 : Int} {x8 : Int} {x9 : Int} {x10 : Int} {t0 : Int} {t1 : Int} {g : zG} {H : Heap} {locs : List Loc} {ls : Array Slot} (hw : zH X N g s H locs) (hl : lv_has ls 12 [(0, z_r N 0 0), (1, z_v x1), (3, z_v x3), (4, z_v x4), (5, z_v x5), (6, z_v x6), (7, z_v x7), (8, z_v x8), (9, z_v x9), (10, z_v x10)]) (h : sL_isTold_j167 n x1 x3 x4 x5 x6 x7 x8 x9 x10 t0 t1 g = some (r, g')) : W p l e { frames := 8, cells := 24, slots := 144, locals := 195 } s m args below meth c H locs cells slots (MQ below (zQi X N r g') args s 24 144 (zA X)) (F0 m 167 ls [z_v t1, z_v t0]) := by
  have hx := hF.1.1
  have hb := hF.1.2.1
  unfold sL_isTold_j167 at h
  refine zr_icmp_eq (tgt := 172) hF h dL_isTold_167 (by decide) (fun h => ?_) (fun h => ?_)
  · refine lv_iload hx hb dL_isTold_172 (lv_at hl 9 rfl) ?_
    refine zr_if_ne (tgt := 216) hF h dL_isTold_174 (by decide) (fun h => ?_) (fun h => ?_)
    · refine lv_aload_n hx hb dL_isTold_216 rfl (lv_at hl 0 rfl) ?_
      refine lv_iload_n hx hb dL_isTold_217 rfl (lv_at hl 1 rfl) ?_
      refine lv_bipush (v := Int32.ofInt (6)) hx hb dL_isTold_218 (by decide) ?_
      obtain ⟨o1, g1, h1, h⟩ := zbn_some h
      refine zw_callVi (n := 2) (As := [z_v x1, z_v 6]) (rest := []) hF hw (czX4_flightIs l hT X N h1) h zEf_0_0 (by decide) zC_0 (z_goodV qw_631 qw_632 qw_633 qw_15 qw_634) (by decide +kernel) ⟨Nat.le_of_ble_eq_true rfl, Nat.le_of_ble_eq_true rfl⟩ rfl hl.1 rfl (Nat.le_of_ble_eq_true rfl) dL_isTold_220 ⟨by show cells + 2 ≤ 24; omega, by show slots + 12 ≤ 144; omega⟩ (fun h => h.elim) (fun H locs hw h => ?_)
      clear h1
      generalize g1 = g at *
      generalize o1.2 = r1 at *
      refine W.widen (k := cells + 2) (n := slots + 12) (by show cells + 2 ≤ cells + 2; omega) (by show slots + 12 ≤ slots + 12; omega) ?_
      refine lv_iload hx hb dL_isTold_223 (lv_at hl 7 rfl) ?_
      refine zr_icmp_ne (tgt := 246) hF h dL_isTold_225 (by decide) (fun h => ?_) (fun h => ?_)
      · exact wL_isTold_j246 hF hT hr (by omega)  hw (lv_sub hl [0, 1, 4, 6, 8] rfl) h
      · refine lv_aload_n hx hb dL_isTold_228 rfl (lv_at hl 0 rfl) ?_
        refine lv_iload_n hx hb dL_isTold_229 rfl (lv_at hl 1 rfl) ?_
        refine lv_iload hx hb dL_isTold_230 (lv_at hl 7 rfl) ?_
        refine lv_iload hx hb dL_isTold_232 (lv_at hl 6 rfl) ?_
        refine lv_iload hx hb dL_isTold_234 (lv_at hl 8 rfl) ?_
        obtain ⟨o1, g1, h1, h⟩ := zbn_some h
        refine zw_callVi (n := 4) (As := [z_v x1, z_v x8, z_v x7, z_v x9]) (rest := []) hF hw (czX4_message l hT X N h1) h zEf_0_0 (by decide) zC_0 (z_goodV qw_754 qw_755 qw_756 qw_15 qw_757) (by decide +kernel) ⟨Nat.le_of_ble_eq_true rfl, Nat.le_of_ble_eq_true rfl⟩ rfl hl.1 rfl (Nat.le_of_ble_eq_true rfl) dL_isTold_236 ⟨by show cells + 2 + 4 ≤ 24; omega, by show slots + 12 + 24 ≤ 144; omega⟩ (fun h => h.elim) (fun H locs hw h => ?_)
        clear h1
        generalize g1 = g at *
        generalize o1.2 = r2 at *
        refine W.widen (k := cells + 6) (n := slots + 36) (by show cells + 2 + 4 ≤ cells + 6; omega) (by show slots + 12 + 24 ≤ slots + 36; omega) ?_
        refine zr_if_ne (tgt := 246) hF h dL_isTold_239 (by decide) (fun h => ?_) (fun h => ?_)
        · exact wL_isTold_j246 hF hT hr (by omega)  hw (lv_sub hl [0, 1, 4, 6, 8] rfl) h
        · refine lv_iconst hx hb dL_isTold_242 rfl ?_
          refine lv_goto (tgt := 247) hx hb dL_isTold_243 (by decide) ?_
          exact wL_isTold_j247 hF hT hr (by omega)  hw (lv_sub hl [0, 1, 4, 6, 8] rfl) h
    · refine lv_aload_n hx hb dL_isTold_177 rfl (lv_at hl 0 rfl) ?_
      refine lv_iload_n hx hb dL_isTold_178 rfl (lv_at hl 1 rfl) ?_
      refine lv_bipush (v := Int32.ofInt (6)) hx hb dL_isTold_179 (by decide) ?_
      obtain ⟨o1, g1, h1, h⟩ := zbn_some h
      refine zw_callVi (n := 2) (As := [z_v x1, z_v 6]) (rest := []) hF hw (czX4_flightIs l hT X N h1) h zEf_0_0 (by decide) zC_0 (z_goodV qw_631 qw_632 qw_633 qw_15 qw_634) (by decide +kernel) ⟨Nat.le_of_ble_eq_true rfl, Nat.le_of_ble_eq_true rfl⟩ rfl hl.1 rfl (Nat.le_of_ble_eq_true rfl) dL_isTold_181 ⟨by show cells + 2 ≤ 24; omega, by show slots + 12 ≤ 144; omega⟩ (fun h => h.elim) (fun H locs hw h => ?_)
      clear h1
      generalize g1 = g at *
      generalize o1.2 = r3 at *
      refine W.widen (k := cells + 2) (n := slots + 12) (by show cells + 2 ≤ cells + 2; omega) (by show slots + 12 ≤ slots + 12; omega) ?_
      refine lv_iload_n hx hb dL_isTold_184 rfl (lv_at hl 2 rfl) ?_
      refine zr_icmp_ne (tgt := 214) hF h dL_isTold_185 (by decide) (fun h => ?_) (fun h => ?_)
      · refine lv_iconst hx hb dL_isTold_214 rfl ?_
        exact zp_zret hF hr hw h dL_isTold_215 ⟨by omega, by omega⟩
      · refine lv_aload_n hx hb dL_isTold_188 rfl (lv_at hl 0 rfl) ?_
        refine lv_iload_n hx hb dL_isTold_189 rfl (lv_at hl 1 rfl) ?_
        refine lv_iconst hx hb dL_isTold_190 rfl ?_
        obtain ⟨o1, g1, h1, h⟩ := zbn_some h
        refine zw_callVi (n := 2) (As := [z_v x1, z_v 1]) (rest := []) hF hw (czX4_flightIs l hT X N h1) h zEf_0_0 (by decide) zC_0 (z_goodV qw_631 qw_632 qw_633 qw_15 qw_634) (by decide +kernel) ⟨Nat.le_of_ble_eq_true rfl, Nat.le_of_ble_eq_true rfl⟩ rfl hl.1 rfl (Nat.le_of_ble_eq_true rfl) dL_isTold_191 ⟨by show cells + 2 + 2 ≤ 24; omega, by show slots + 12 + 12 ≤ 144; omega⟩ (fun h => h.elim) (fun H locs hw h => ?_)
        clear h1
        generalize g1 = g at *
        generalize o1.2 = r4 at *
        refine W.widen (k := cells + 4) (n := slots + 24) (by show cells + 2 + 2 ≤ cells + 4; omega) (by show slots + 12 + 12 ≤ slots + 24; omega) ?_
        refine lv_iload hx hb dL_isTold_194 (lv_at hl 5 rfl) ?_
        refine zr_icmp_ne (tgt := 214) hF h dL_isTold_196 (by decide) (fun h => ?_) (fun h => ?_)
        · refine lv_iconst hx hb dL_isTold_214 rfl ?_
          exact zp_zret hF hr hw h dL_isTold_215 ⟨by omega, by omega⟩
        · refine lv_aload_n hx hb dL_isTold_199 rfl (lv_at hl 0 rfl) ?_
          refine lv_iload_n hx hb dL_isTold_200 rfl (lv_at hl 1 rfl) ?_
          refine lv_iconst hx hb dL_isTold_201 rfl ?_
          obtain ⟨o1, g1, h1, h⟩ := zbn_some h
          refine zw_callVi (n := 2) (As := [z_v x1, z_v 0]) (rest := []) hF hw (czX4_flightIs l hT X N h1) h zEf_0_0 (by decide) zC_0 (z_goodV qw_631 qw_632 qw_633 qw_15 qw_634) (by decide +kernel) ⟨Nat.le_of_ble_eq_true rfl, Nat.le_of_ble_eq_true rfl⟩ rfl hl.1 rfl (Nat.le_of_ble_eq_true rfl) dL_isTold_202 ⟨by show cells + 4 + 2 ≤ 24; omega, by show slots + 24 + 12 ≤ 144; omega⟩ (fun h => h.elim) (fun H locs hw h => ?_)
          clear h1
          generalize g1 = g at *
          generalize o1.2 = r5 at *
          refine W.widen (k := cells + 6) (n := slots + 36) (by show cells + 4 + 2 ≤ cells + 6; omega) (by show slots + 24 + 12 ≤ slots + 36; omega) ?_
          refine lv_iload hx hb dL_isTold_205 (lv_at hl 3 rfl) ?_
          refine zr_icmp_ne (tgt := 214) hF h dL_isTold_207 (by decide) (fun h => ?_) (fun h => ?_)
          · refine lv_iconst hx hb dL_isTold_214 rfl ?_
            exact zp_zret hF hr hw h dL_isTold_215 ⟨by omega, by omega⟩
          · refine lv_iconst hx hb dL_isTold_210 rfl ?_
            refine lv_goto (tgt := 215) hx hb dL_isTold_211 (by decide) ?_
            exact zp_zret hF hr hw h dL_isTold_215 ⟨by omega, by omega⟩
  · refine lv_iconst hx hb dL_isTold_170 rfl ?_
    exact zp_zret hF hr hw h dL_isTold_171 ⟨by omega, by omega⟩
set_option maxHeartbeats 4000000 in
set_option maxRecDepth 100000 in
theorem wL_isTold_j166 {p : Program} {l : Launch} {e : Env} {s : State} {m : MethodId} {args : Array Value} {below : List Frame} {meth : Method} {c : Code} {X : zC} {N : zN} {r : Int} {g' : zG} (hF : zF p s m args meth c X cL_isTold 12 RL) (hT : l.stackTraces = false) (hr : meth.sig.returnType = (some .boolean)) {n : Nat} {cells slots : Nat} (hcs : cells + 12 ≤ 24 ∧ slots + 72 ≤ 144) {x1 : Int} {x3 : Int} {x4 : Int} {x5 : Int} {x6 : Int} {x7 : Int} {x8 : Int} {x9 : Int} {x10 : Int} {t0 : Int} {g : zG} {H : Heap} {locs : List Loc} {ls : Array Slot} (hw : zH X N g s H locs) (hl : lv_has ls 12 [(0, z_r N 0 0), (1, z_v x1), (3, z_v x3), (4, z_v x4), (5, z_v x5), (6, z_v x6), (7, z_v x7), (8, z_v x8), (9, z_v x9), (10, z_v x10)]) (h : sL_isTold_j166 n x1 x3 x4 x5 x6 x7 x8 x9 x10 t0 g = some (r, g')) : W p l e { frames := 8, cells := 24, slots := 144, locals := 195 } s m args below meth c H locs cells slots (MQ below (zQi X N r g') args s 24 144 (zA X)) (F0 m 166 ls [z_v t0]) := by
  have hx := hF.1.1
  have hb := hF.1.2.1
  unfold sL_isTold_j166 at h
  refine lv_iconst hx hb dL_isTold_166 rfl ?_
  exact wL_isTold_j167 hF hT hr (by omega)  hw (lv_sub hl [0, 1, 2, 3, 4, 5, 6, 7, 8, 9] rfl) h
set_option maxHeartbeats 4000000 in
set_option maxRecDepth 100000 in
theorem wL_isTold_j134 {p : Program} {l : Launch} {e : Env} {s : State} {m : MethodId} {args : Array Value} {below : List Frame} {meth : Method} {c : Code} {X : zC} {N : zN} {r : Int} {g' : zG} (hF : zF p s m args meth c X cL_isTold 12 RL) (hT : l.stackTraces = false) (hr : meth.sig.returnType = (some .boolean)) {n : Nat} {cells slots : Nat} (hcs : cells + 16 ≤ 24 ∧ slots + 96 ≤ 144) {x1 : Int} {x3 : Int} {x4 : Int} {x5 : Int} {x6 : Int} {x7 : Int} {x8 : Int} {t0 : Int} {g : zG} {H : Heap} {locs : List Loc} {ls : Array Slot} (hw : zH X N g s H locs) (hl : lv_has ls 12 [(0, z_r N 0 0), (1, z_v x1), (3, z_v x3), (4, z_v x4), (5, z_v x5), (6, z_v x6), (7, z_v x7), (8, z_v x8)]) (h : sL_isTold_j134 n x1 x3 x4 x5 x6 x7 x8 t0 g = some (r, g')) : W p l e { frames := 8, cells := 24, slots := 144, locals := 195 } s m args below meth c H locs cells slots (MQ below (zQi X N r g') args s 24 144 (zA X)) (F0 m 134 ls [z_v t0]) := by
  have hx := hF.1.1
  have hb := hF.1.2.1
  unfold sL_isTold_j134 at h
  refine lv_istore (lv' := [(9, z_v t0), (0, z_r N 0 0), (1, z_v x1), (3, z_v x3), (4, z_v x4), (5, z_v x5), (6, z_v x6), (7, z_v x7), (8, z_v x8)]) hx hb dL_isTold_134 hl (by decide) rfl (fun ls hl => ?_)
  refine lv_aload_n hx hb dL_isTold_136 rfl (lv_at hl 1 rfl) ?_
  refine lv_iload_n hx hb dL_isTold_137 rfl (lv_at hl 2 rfl) ?_
  refine lv_iload hx hb dL_isTold_138 (lv_at hl 8 rfl) ?_
  refine lv_iload hx hb dL_isTold_140 (lv_at hl 7 rfl) ?_
  refine lv_iload hx hb dL_isTold_142 (lv_at hl 0 rfl) ?_
  obtain ⟨o1, g1, h1, h⟩ := zbn_some h
  refine zw_callVi (n := 4) (As := [z_v x1, z_v x8, z_v x7, z_v t0]) (rest := []) hF hw (czX4_message l hT X N h1) h zEf_0_0 (by decide) zC_0 (z_goodV qw_754 qw_755 qw_756 qw_15 qw_757) (by decide +kernel) ⟨Nat.le_of_ble_eq_true rfl, Nat.le_of_ble_eq_true rfl⟩ rfl hl.1 rfl (Nat.le_of_ble_eq_true rfl) dL_isTold_144 ⟨by show cells + 4 ≤ 24; omega, by show slots + 24 ≤ 144; omega⟩ (fun h => h.elim) (fun H locs hw h => ?_)
  clear h1
  generalize g1 = g at *
  generalize o1.2 = r1 at *
  refine W.widen (k := cells + 4) (n := slots + 24) (by show cells + 4 ≤ cells + 4; omega) (by show slots + 24 ≤ slots + 24; omega) ?_
  refine lv_istore (lv' := [(10, z_v r1), (9, z_v t0), (0, z_r N 0 0), (1, z_v x1), (3, z_v x3), (4, z_v x4), (5, z_v x5), (6, z_v x6), (7, z_v x7), (8, z_v x8)]) hx hb dL_isTold_147 hl (by decide) rfl (fun ls hl => ?_)
  refine lv_iload hx hb dL_isTold_149 (lv_at hl 0 rfl) ?_
  refine lv_iload hx hb dL_isTold_151 (lv_at hl 5 rfl) ?_
  refine zr_if_ne (tgt := 166) hF h dL_isTold_153 (by decide) (fun h => ?_) (fun h => ?_)
  · exact wL_isTold_j166 hF hT hr (by omega)  hw (lv_sub hl [2, 3, 4, 5, 6, 7, 8, 9, 1, 0] rfl) h
  · refine lv_iload hx hb dL_isTold_156 (lv_at hl 9 rfl) ?_
    refine lv_iload_n hx hb dL_isTold_158 rfl (lv_at hl 4 rfl) ?_
    refine zr_icmp_le (tgt := 166) hF h dL_isTold_159 (by decide) (fun h => ?_) (fun h => ?_)
    · exact wL_isTold_j166 hF hT hr (by omega)  hw (lv_sub hl [2, 3, 4, 5, 6, 7, 8, 9, 1, 0] rfl) h
    · refine lv_iconst hx hb dL_isTold_162 rfl ?_
      refine lv_goto (tgt := 167) hx hb dL_isTold_163 (by decide) ?_
      exact wL_isTold_j167 hF hT hr (by omega)  hw (lv_sub hl [2, 3, 4, 5, 6, 7, 8, 9, 1, 0] rfl) h
set_option maxHeartbeats 4000000 in
set_option maxRecDepth 100000 in
theorem wL_isTold_j89 {p : Program} {l : Launch} {e : Env} {s : State} {m : MethodId} {args : Array Value} {below : List Frame} {meth : Method} {c : Code} {X : zC} {N : zN} {r : Int} {g' : zG} (hF : zF p s m args meth c X cL_isTold 12 RL) (hT : l.stackTraces = false) (hr : meth.sig.returnType = (some .boolean)) {n : Nat} {cells slots : Nat} (hcs : cells + 16 ≤ 24 ∧ slots + 96 ≤ 144) {x1 : Int} {x2 : Int} {x3 : Int} {x4 : Int} {x5 : Int} {x6 : Int} {x7 : Int} {t0 : Int} {g : zG} {H : Heap} {locs : List Loc} {ls : Array Slot} (hw : zH X N g s H locs) (hl : lv_has ls 12 [(0, z_r N 0 0), (1, z_v x1), (2, z_v x2), (3, z_v x3), (4, z_v x4), (5, z_v x5), (6, z_v x6), (7, z_v x7)]) (h : sL_isTold_j89 n x1 x2 x3 x4 x5 x6 x7 t0 g = some (r, g')) : W p l e { frames := 8, cells := 24, slots := 144, locals := 195 } s m args below meth c H locs cells slots (MQ below (zQi X N r g') args s 24 144 (zA X)) (F0 m 89 ls [z_v t0]) := by
  have hx := hF.1.1
  have hb := hF.1.2.1
  unfold sL_isTold_j89 at h
  refine lv_istore (lv' := [(8, z_v t0), (0, z_r N 0 0), (1, z_v x1), (2, z_v x2), (3, z_v x3), (4, z_v x4), (5, z_v x5), (6, z_v x6), (7, z_v x7)]) hx hb dL_isTold_89 hl (by decide) rfl (fun ls hl => ?_)
  refine lv_iload hx hb dL_isTold_91 (lv_at hl 8 rfl) ?_
  refine lv_iconst hx hb dL_isTold_93 rfl ?_
  refine zr_icmp_ne (tgt := 101) hF h dL_isTold_94 (by decide) (fun h => ?_) (fun h => ?_)
  · refine lv_iload_n hx hb dL_isTold_101 rfl (lv_at hl 3 rfl) ?_
    refine lv_bipush (v := Int32.ofInt (32)) hx hb dL_isTold_102 (by decide) ?_
    refine zr_idiv hF h dL_isTold_104 (fun h => ?_)
    refine lv_iconst hx hb dL_isTold_105 rfl ?_
    refine zr_irem hF h dL_isTold_106 (fun h => ?_)
    refine zr_if_ne (tgt := 122) hF h dL_isTold_107 (by decide) (fun h => ?_) (fun h => ?_)
    · refine lv_sipush (v := Int32.ofInt (390)) hx hb dL_isTold_122 (by decide) ?_
      refine lv_iload_n hx hb dL_isTold_125 rfl (lv_at hl 3 rfl) ?_
      refine lv_sipush (v := Int32.ofInt (128)) hx hb dL_isTold_126 (by decide) ?_
      refine zr_idiv hF h dL_isTold_129 (fun h => ?_)
      refine lv_bipush (v := Int32.ofInt (90)) hx hb dL_isTold_130 (by decide) ?_
      refine zr_irem hF h dL_isTold_132 (fun h => ?_)
      refine zr_iadd hF dL_isTold_133 ?_
      exact wL_isTold_j134 hF hT hr (by omega)  hw (lv_sub hl [1, 2, 4, 5, 6, 7, 8, 0] rfl) h
    · refine lv_iload_n hx hb dL_isTold_110 rfl (lv_at hl 3 rfl) ?_
      refine lv_sipush (v := Int32.ofInt (128)) hx hb dL_isTold_111 (by decide) ?_
      refine zr_idiv hF h dL_isTold_114 (fun h => ?_)
      refine lv_sipush (v := Int32.ofInt (1440)) hx hb dL_isTold_115 (by decide) ?_
      refine zr_irem hF h dL_isTold_118 (fun h => ?_)
      refine lv_goto (tgt := 134) hx hb dL_isTold_119 (by decide) ?_
      exact wL_isTold_j134 hF hT hr (by omega)  hw (lv_sub hl [1, 2, 4, 5, 6, 7, 8, 0] rfl) h
  · refine lv_iconst hx hb dL_isTold_97 rfl ?_
    refine lv_goto (tgt := 134) hx hb dL_isTold_98 (by decide) ?_
    exact wL_isTold_j134 hF hT hr (by omega)  hw (lv_sub hl [1, 2, 4, 5, 6, 7, 8, 0] rfl) h
set_option maxHeartbeats 4000000 in
set_option maxRecDepth 100000 in
theorem wL_isTold_j74 {p : Program} {l : Launch} {e : Env} {s : State} {m : MethodId} {args : Array Value} {below : List Frame} {meth : Method} {c : Code} {X : zC} {N : zN} {r : Int} {g' : zG} (hF : zF p s m args meth c X cL_isTold 12 RL) (hT : l.stackTraces = false) (hr : meth.sig.returnType = (some .boolean)) {n : Nat} {cells slots : Nat} (hcs : cells + 16 ≤ 24 ∧ slots + 96 ≤ 144) {x1 : Int} {x2 : Int} {x3 : Int} {x4 : Int} {x5 : Int} {x6 : Int} {x7 : Int} {g : zG} {H : Heap} {locs : List Loc} {ls : Array Slot} (hw : zH X N g s H locs) (hl : lv_has ls 12 [(0, z_r N 0 0), (1, z_v x1), (2, z_v x2), (3, z_v x3), (4, z_v x4), (5, z_v x5), (6, z_v x6), (7, z_v x7)]) (h : sL_isTold_j74 n x1 x2 x3 x4 x5 x6 x7 g = some (r, g')) : W p l e { frames := 8, cells := 24, slots := 144, locals := 195 } s m args below meth c H locs cells slots (MQ below (zQi X N r g') args s 24 144 (zA X)) (F0 m 74 ls []) := by
  have hx := hF.1.1
  have hb := hF.1.2.1
  unfold sL_isTold_j74 at h
  refine lv_iconst hx hb dL_isTold_74 rfl ?_
  refine lv_iload_n hx hb dL_isTold_75 rfl (lv_at hl 2 rfl) ?_
  refine lv_bipush (v := Int32.ofInt (32)) hx hb dL_isTold_76 (by decide) ?_
  refine zr_idiv hF h dL_isTold_78 (fun h => ?_)
  refine lv_bipush (v := Int32.ofInt (99)) hx hb dL_isTold_79 (by decide) ?_
  refine zr_irem hF h dL_isTold_81 (fun h => ?_)
  refine zr_iadd hF dL_isTold_82 ?_
  refine lv_goto (tgt := 89) hx hb dL_isTold_83 (by decide) ?_
  exact wL_isTold_j89 hF hT hr (by omega)  hw (lv_sub hl [0, 1, 2, 3, 4, 5, 6, 7] rfl) h
set_option maxHeartbeats 4000000 in
set_option maxRecDepth 100000 in
theorem wL_isTold_j57 {p : Program} {l : Launch} {e : Env} {s : State} {m : MethodId} {args : Array Value} {below : List Frame} {meth : Method} {c : Code} {X : zC} {N : zN} {r : Int} {g' : zG} (hF : zF p s m args meth c X cL_isTold 12 RL) (hT : l.stackTraces = false) (hr : meth.sig.returnType = (some .boolean)) {n : Nat} {cells slots : Nat} (hcs : cells + 16 ≤ 24 ∧ slots + 96 ≤ 144) {x1 : Int} {x2 : Int} {x3 : Int} {x4 : Int} {x5 : Int} {x6 : Int} {t0 : Int} {g : zG} {H : Heap} {locs : List Loc} {ls : Array Slot} (hw : zH X N g s H locs) (hl : lv_has ls 12 [(0, z_r N 0 0), (1, z_v x1), (2, z_v x2), (3, z_v x3), (4, z_v x4), (5, z_v x5), (6, z_v x6)]) (h : sL_isTold_j57 n x1 x2 x3 x4 x5 x6 t0 g = some (r, g')) : W p l e { frames := 8, cells := 24, slots := 144, locals := 195 } s m args below meth c H locs cells slots (MQ below (zQi X N r g') args s 24 144 (zA X)) (F0 m 57 ls [z_v t0]) := by
  have hx := hF.1.1
  have hb := hF.1.2.1
  unfold sL_isTold_j57 at h
  refine lv_istore (lv' := [(7, z_v t0), (0, z_r N 0 0), (1, z_v x1), (2, z_v x2), (3, z_v x3), (4, z_v x4), (5, z_v x5), (6, z_v x6)]) hx hb dL_isTold_57 hl (by decide) rfl (fun ls hl => ?_)
  refine lv_iload_n hx hb dL_isTold_59 rfl (lv_at hl 3 rfl) ?_
  refine lv_bipush (v := Int32.ofInt (8)) hx hb dL_isTold_60 (by decide) ?_
  refine zr_idiv hF h dL_isTold_62 (fun h => ?_)
  refine lv_iconst hx hb dL_isTold_63 rfl ?_
  refine zr_irem hF h dL_isTold_64 (fun h => ?_)
  refine zr_if_eq (tgt := 74) hF h dL_isTold_65 (by decide) (fun h => ?_) (fun h => ?_)
  · exact wL_isTold_j74 hF hT hr (by omega)  hw (lv_sub hl [1, 2, 3, 4, 5, 6, 7, 0] rfl) h
  · refine lv_iload_n hx hb dL_isTold_68 rfl (lv_at hl 4 rfl) ?_
    refine lv_bipush (v := Int32.ofInt (99)) hx hb dL_isTold_69 (by decide) ?_
    refine zr_icmp_ne (tgt := 86) hF h dL_isTold_71 (by decide) (fun h => ?_) (fun h => ?_)
    · refine lv_iload_n hx hb dL_isTold_86 rfl (lv_at hl 4 rfl) ?_
      refine lv_iconst hx hb dL_isTold_87 rfl ?_
      refine zr_iadd hF dL_isTold_88 ?_
      exact wL_isTold_j89 hF hT hr (by omega)  hw (lv_sub hl [1, 2, 3, 4, 5, 6, 7, 0] rfl) h
    · exact wL_isTold_j74 hF hT hr (by omega)  hw (lv_sub hl [1, 2, 3, 4, 5, 6, 7, 0] rfl) h
set_option maxHeartbeats 4000000 in
set_option maxRecDepth 100000 in
theorem czL_isTold (l : Launch) (hT : l.stackTraces = false) (X : zC) (N : zN) {n : Nat} {x1 : Int} {x2 : Int} {g g' : zG} {r : Int} (h : sL_isTold n x1 x2 g = some (r, g')) : zMC l yL_isTold cL_isTold 12 (some .boolean) { frames := 8, cells := 24, slots := 144, locals := 195 } X N g [z_r N 0 0, z_v x1, z_v x2] (zQi X N r g') := by
  refine z_cofW (own := RL) (by decide +kernel) rfl (Nat.le_of_ble_eq_true rfl) ?_
  intro p e s m args below meth c ls hF hr hw hl
  have hl : lv_has ls 12 [(0, z_r N 0 0), (1, z_v x1), (2, z_v x2)] := hl
  have hx := hF.1.1
  have hb := hF.1.2.1
  generalize s.heap = H at hw ⊢
  generalize ([] : List Loc) = locs at hw ⊢
  have key : ∀ cells slots : Nat, cells + 24 ≤ 24 → slots + 144 ≤ 144 → W p l e { frames := 8, cells := 24, slots := 144, locals := 195 } s m args below meth c H locs cells slots (MQ below (zQi X N r g') args s 24 144 (zA X)) (F0 m 0 ls []) := by
    intro cells slots hc1 hc2
    unfold sL_isTold at h
    refine lv_aload_n hx hb dL_isTold_0 rfl (lv_at hl 0 rfl) ?_
    refine lv_iload_n hx hb dL_isTold_1 rfl (lv_at hl 1 rfl) ?_
    refine lv_bipush (v := Int32.ofInt (6)) hx hb dL_isTold_2 (by decide) ?_
    obtain ⟨o1, g1, h1, h⟩ := zbn_some h
    refine zw_callVi (n := 2) (As := [z_v x1, z_v 6]) (rest := []) hF hw (czX4_flightIs l hT X N h1) h zEf_0_0 (by decide) zC_0 (z_goodV qw_631 qw_632 qw_633 qw_15 qw_634) (by decide +kernel) ⟨Nat.le_of_ble_eq_true rfl, Nat.le_of_ble_eq_true rfl⟩ rfl hl.1 rfl (Nat.le_of_ble_eq_true rfl) dL_isTold_4 ⟨by show cells + 2 ≤ 24; omega, by show slots + 12 ≤ 144; omega⟩ (fun h => h.elim) (fun H locs hw h => ?_)
    clear h1
    generalize g1 = g at *
    generalize o1.2 = r1 at *
    refine W.widen (k := cells + 2) (n := slots + 12) (by show cells + 2 ≤ cells + 2; omega) (by show slots + 12 ≤ slots + 12; omega) ?_
    refine lv_istore_n (lv' := [(3, z_v r1), (0, z_r N 0 0), (1, z_v x1), (2, z_v x2)]) hx hb dL_isTold_7 rfl hl (by decide) rfl (fun ls hl => ?_)
    refine lv_aload_n hx hb dL_isTold_8 rfl (lv_at hl 1 rfl) ?_
    refine lv_iload_n hx hb dL_isTold_9 rfl (lv_at hl 2 rfl) ?_
    refine lv_iconst hx hb dL_isTold_10 rfl ?_
    obtain ⟨o1, g1, h1, h⟩ := zbn_some h
    refine zw_callVi (n := 2) (As := [z_v x1, z_v 0]) (rest := []) hF hw (czX4_flightIs l hT X N h1) h zEf_0_0 (by decide) zC_0 (z_goodV qw_631 qw_632 qw_633 qw_15 qw_634) (by decide +kernel) ⟨Nat.le_of_ble_eq_true rfl, Nat.le_of_ble_eq_true rfl⟩ rfl hl.1 rfl (Nat.le_of_ble_eq_true rfl) dL_isTold_11 ⟨by show cells + 2 + 2 ≤ 24; omega, by show slots + 12 + 12 ≤ 144; omega⟩ (fun h => h.elim) (fun H locs hw h => ?_)
    clear h1
    generalize g1 = g at *
    generalize o1.2 = r2 at *
    refine W.widen (k := cells + 4) (n := slots + 24) (by show cells + 2 + 2 ≤ cells + 4; omega) (by show slots + 12 + 12 ≤ slots + 24; omega) ?_
    refine lv_istore (lv' := [(4, z_v r2), (3, z_v r1), (0, z_r N 0 0), (1, z_v x1), (2, z_v x2)]) hx hb dL_isTold_14 hl (by decide) rfl (fun ls hl => ?_)
    refine lv_aload_n hx hb dL_isTold_16 rfl (lv_at hl 2 rfl) ?_
    refine lv_iload_n hx hb dL_isTold_17 rfl (lv_at hl 3 rfl) ?_
    refine lv_iconst hx hb dL_isTold_18 rfl ?_
    obtain ⟨o1, g1, h1, h⟩ := zbn_some h
    refine zw_callVi (n := 2) (As := [z_v x1, z_v 2]) (rest := []) hF hw (czX4_flightIs l hT X N h1) h zEf_0_0 (by decide) zC_0 (z_goodV qw_631 qw_632 qw_633 qw_15 qw_634) (by decide +kernel) ⟨Nat.le_of_ble_eq_true rfl, Nat.le_of_ble_eq_true rfl⟩ rfl hl.1 rfl (Nat.le_of_ble_eq_true rfl) dL_isTold_19 ⟨by show cells + 4 + 2 ≤ 24; omega, by show slots + 24 + 12 ≤ 144; omega⟩ (fun h => h.elim) (fun H locs hw h => ?_)
    clear h1
    generalize g1 = g at *
    generalize o1.2 = r3 at *
    refine W.widen (k := cells + 6) (n := slots + 36) (by show cells + 4 + 2 ≤ cells + 6; omega) (by show slots + 24 + 12 ≤ slots + 36; omega) ?_
    refine lv_istore (lv' := [(5, z_v r3), (4, z_v r2), (3, z_v r1), (0, z_r N 0 0), (1, z_v x1), (2, z_v x2)]) hx hb dL_isTold_22 hl (by decide) rfl (fun ls hl => ?_)
    refine lv_aload_n hx hb dL_isTold_24 rfl (lv_at hl 3 rfl) ?_
    refine lv_iload_n hx hb dL_isTold_25 rfl (lv_at hl 4 rfl) ?_
    refine lv_iconst hx hb dL_isTold_26 rfl ?_
    obtain ⟨o1, g1, h1, h⟩ := zbn_some h
    refine zw_callVi (n := 2) (As := [z_v x1, z_v 1]) (rest := []) hF hw (czX4_flightIs l hT X N h1) h zEf_0_0 (by decide) zC_0 (z_goodV qw_631 qw_632 qw_633 qw_15 qw_634) (by decide +kernel) ⟨Nat.le_of_ble_eq_true rfl, Nat.le_of_ble_eq_true rfl⟩ rfl hl.1 rfl (Nat.le_of_ble_eq_true rfl) dL_isTold_27 ⟨by show cells + 6 + 2 ≤ 24; omega, by show slots + 36 + 12 ≤ 144; omega⟩ (fun h => h.elim) (fun H locs hw h => ?_)
    clear h1
    generalize g1 = g at *
    generalize o1.2 = r4 at *
    refine W.widen (k := cells + 8) (n := slots + 48) (by show cells + 6 + 2 ≤ cells + 8; omega) (by show slots + 36 + 12 ≤ slots + 48; omega) ?_
    refine lv_istore (lv' := [(6, z_v r4), (5, z_v r3), (4, z_v r2), (3, z_v r1), (0, z_r N 0 0), (1, z_v x1), (2, z_v x2)]) hx hb dL_isTold_30 hl (by decide) rfl (fun ls hl => ?_)
    refine lv_iload_n hx hb dL_isTold_32 rfl (lv_at hl 6 rfl) ?_
    refine lv_bipush (v := Int32.ofInt (8)) hx hb dL_isTold_33 (by decide) ?_
    refine zr_irem hF h dL_isTold_35 (fun h => ?_)
    refine lv_iconst hx hb dL_isTold_36 rfl ?_
    refine zr_icmp_ge (tgt := 44) hF h dL_isTold_37 (by decide) (fun h => ?_) (fun h => ?_)
    · refine lv_iload_n hx hb dL_isTold_44 rfl (lv_at hl 6 rfl) ?_
      refine lv_bipush (v := Int32.ofInt (8)) hx hb dL_isTold_45 (by decide) ?_
      refine zr_irem hF h dL_isTold_47 (fun h => ?_)
      refine lv_iconst hx hb dL_isTold_48 rfl ?_
      refine zr_icmp_ne (tgt := 56) hF h dL_isTold_49 (by decide) (fun h => ?_) (fun h => ?_)
      · refine lv_iconst hx hb dL_isTold_56 rfl ?_
        exact wL_isTold_j57 hF hT hr (by omega)  hw (lv_sub hl [4, 5, 6, 3, 2, 1, 0] rfl) h
      · refine lv_iconst hx hb dL_isTold_52 rfl ?_
        refine lv_goto (tgt := 57) hx hb dL_isTold_53 (by decide) ?_
        exact wL_isTold_j57 hF hT hr (by omega)  hw (lv_sub hl [4, 5, 6, 3, 2, 1, 0] rfl) h
    · refine lv_iconst hx hb dL_isTold_40 rfl ?_
      refine lv_goto (tgt := 57) hx hb dL_isTold_41 (by decide) ?_
      exact wL_isTold_j57 hF hT hr (by omega)  hw (lv_sub hl [4, 5, 6, 3, 2, 1, 0] rfl) h
  exact key 0 0 (by omega) (by omega)


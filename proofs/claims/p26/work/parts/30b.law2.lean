/-! the law's methods: deals -/
def sL_isDealt_j74 (n : Nat) (K : Nat → Int → Int → Int → Int → Int → Int → Int → Int → Int → Int → zG → Option (Int × zG)) (x2 : Int) (x3 : Int) (x4 : Int) (x5 : Int) (x6 : Int) (x7 : Int) (x8 : Int) (x9 : Int) (t0 : Int) (g : zG) : Option (Int × zG) := (K 0 x2 x3 x4 x5 x6 x7 x8 x9 t0 0 g)
def sL_isDealt_j47 (n : Nat) (K : Nat → Int → Int → Int → Int → Int → Int → Int → Int → Int → Int → zG → Option (Int × zG)) (x2 : Int) (x3 : Int) (x4 : Int) (x5 : Int) (x6 : Int) (t0 : Int) (g : zG) : Option (Int × zG) := zbd (sX4_deal n x2 g) (fun r1 g => zbn (sX4_dueAnew n x3 g) (fun r2 g => zeq r2 x6 ((sL_isDealt_j74 n K x2 x3 x4 x5 x6 t0 r1 0 1 g)) ((sL_isDealt_j74 n K x2 x3 x4 x5 x6 t0 r1 0 0 g))))
def sL_isDealt_j46 (n : Nat) (K : Nat → Int → Int → Int → Int → Int → Int → Int → Int → Int → Int → zG → Option (Int × zG)) (x2 : Int) (x3 : Int) (x4 : Int) (x5 : Int) (x6 : Int) (g : zG) : Option (Int × zG) := (sL_isDealt_j47 n K x2 x3 x4 x5 x6 0 g)
def sL_isDealt_j189 (n : Nat) (K : Nat → Int → Int → Int → Int → Int → Int → Int → Int → Int → Int → zG → Option (Int × zG)) (x2 : Int) (x3 : Int) (x4 : Int) (x5 : Int) (x6 : Int) (x7 : Int) (x8 : Int) (x9 : Int) (x11 : Int) (t0 : Int) (g : zG) : Option (Int × zG) := zlet (x11 + 1) (fun v1 => (K 0 x2 x3 x4 x5 x6 x7 x8 x9 t0 v1 g))
def sL_isDealt_j184 (n : Nat) (K : Nat → Int → Int → Int → Int → Int → Int → Int → Int → Int → Int → zG → Option (Int × zG)) (x2 : Int) (x3 : Int) (x4 : Int) (x5 : Int) (x6 : Int) (x7 : Int) (x8 : Int) (x9 : Int) (x11 : Int) (g : zG) : Option (Int × zG) := (sL_isDealt_j189 n K x2 x3 x4 x5 x6 x7 x8 x9 x11 1 g)
def sL_isDealt_j188 (n : Nat) (K : Nat → Int → Int → Int → Int → Int → Int → Int → Int → Int → Int → zG → Option (Int × zG)) (x2 : Int) (x3 : Int) (x4 : Int) (x5 : Int) (x6 : Int) (x7 : Int) (x8 : Int) (x9 : Int) (x11 : Int) (g : zG) : Option (Int × zG) := (sL_isDealt_j189 n K x2 x3 x4 x5 x6 x7 x8 x9 x11 0 g)
def sL_isDealt_j163 (n : Nat) (K : Nat → Int → Int → Int → Int → Int → Int → Int → Int → Int → Int → zG → Option (Int × zG)) (x2 : Int) (x3 : Int) (x4 : Int) (x5 : Int) (x6 : Int) (x7 : Int) (x8 : Int) (x9 : Int) (x11 : Int) (x12 : Int) (t0 : Int) (t1 : Int) (g : zG) : Option (Int × zG) := zeq t0 t1 (zeq x12 (-1) ((sL_isDealt_j184 n K x2 x3 x4 x5 x6 x7 x8 x9 x11 g)) (zbn (sX4_flightIs x11 1 g) (fun r1 g => zlt x12 r1 ((sL_isDealt_j188 n K x2 x3 x4 x5 x6 x7 x8 x9 x11 g)) ((sL_isDealt_j184 n K x2 x3 x4 x5 x6 x7 x8 x9 x11 g))))) ((sL_isDealt_j188 n K x2 x3 x4 x5 x6 x7 x8 x9 x11 g))
def sL_isDealt_j147 (n : Nat) (K : Nat → Int → Int → Int → Int → Int → Int → Int → Int → Int → Int → zG → Option (Int × zG)) (x2 : Int) (x3 : Int) (x4 : Int) (x5 : Int) (x6 : Int) (x7 : Int) (x8 : Int) (x9 : Int) (x11 : Int) (x12 : Int) (t0 : Int) (g : zG) : Option (Int × zG) := zbn (sX4_flightIs x11 3 g) (fun r1 g => zeq r1 (-1) ((sL_isDealt_j163 n K x2 x3 x4 x5 x6 x7 x8 x9 x11 x12 t0 1 g)) ((sL_isDealt_j163 n K x2 x3 x4 x5 x6 x7 x8 x9 x11 x12 t0 0 g)))
def sL_isDealt_j133 (n : Nat) (K : Nat → Int → Int → Int → Int → Int → Int → Int → Int → Int → Int → zG → Option (Int × zG)) (x2 : Int) (x3 : Int) (x4 : Int) (x5 : Int) (x6 : Int) (x7 : Int) (x8 : Int) (x11 : Int) (x12 : Int) (t0 : Int) (t1 : Int) (g : zG) : Option (Int × zG) := zlet (t0 + t1) (fun v1 => zeq x12 (-1) ((sL_isDealt_j147 n K x2 x3 x4 x5 x6 x7 x8 v1 x11 x12 1 g)) ((sL_isDealt_j147 n K x2 x3 x4 x5 x6 x7 x8 v1 x11 x12 0 g)))
def sL_isDealt_j132 (n : Nat) (K : Nat → Int → Int → Int → Int → Int → Int → Int → Int → Int → Int → zG → Option (Int × zG)) (x2 : Int) (x3 : Int) (x4 : Int) (x5 : Int) (x6 : Int) (x7 : Int) (x8 : Int) (x11 : Int) (x12 : Int) (t0 : Int) (g : zG) : Option (Int × zG) := (sL_isDealt_j133 n K x2 x3 x4 x5 x6 x7 x8 x11 x12 t0 0 g)
def sL_isDealt_j361 (n : Nat) (K : Nat → Int → Int → Int → Int → Int → Int → Int → Int → Int → Int → zG → Option (Int × zG)) (g : zG) : Option (Int × zG) := zbo 1 (some (1, g))
def sL_isDealt_j284 (n : Nat) (K : Nat → Int → Int → Int → Int → Int → Int → Int → Int → Int → Int → zG → Option (Int × zG)) (x3 : Int) (x4 : Int) (x5 : Int) (x6 : Int) (x8 : Int) (x9 : Int) (x10 : Int) (x11 : Int) (x12 : Int) (t0 : Int) (g : zG) : Option (Int × zG) := zeq x10 0 (zbo 0 (some (0, g))) (zeq x8 x9 (zeq x6 0 (zeq x11 (-1) ((sL_isDealt_j361 n K g)) (zbo 0 (some (0, g)))) (zeq t0 0 (zeq x11 x12 (zbn (sX4_flightIs x3 3 g) (fun r1 g => zbn (sX4_penalty n x3 r1 g) (fun r2 g => zeq r2 x6 ((sL_isDealt_j361 n K g)) (zbo 0 (some (0, g)))))) (zbo 0 (some (0, g)))) (zeq x11 x4 (zbn (sX4_flightIs x3 3 g) (fun r3 g => zeq r3 x5 ((sL_isDealt_j361 n K g)) (zbo 0 (some (0, g))))) (zbo 0 (some (0, g)))))) (zbo 0 (some (0, g))))
def sL_isDealt_j283 (n : Nat) (K : Nat → Int → Int → Int → Int → Int → Int → Int → Int → Int → Int → zG → Option (Int × zG)) (x3 : Int) (x4 : Int) (x5 : Int) (x6 : Int) (x8 : Int) (x9 : Int) (x10 : Int) (x11 : Int) (x12 : Int) (g : zG) : Option (Int × zG) := (sL_isDealt_j284 n K x3 x4 x5 x6 x8 x9 x10 x11 x12 0 g)
def sL_isDealt_j197 (n : Nat) (K : Nat → Int → Int → Int → Int → Int → Int → Int → Int → Int → Int → zG → Option (Int × zG)) (x2 : Int) (x3 : Int) (x4 : Int) (x5 : Int) (x6 : Int) (x7 : Int) (x8 : Int) (x9 : Int) (x10 : Int) (g : zG) : Option (Int × zG) := zbn (sX4_flightIs x3 2 g) (fun r1 g => zeq x7 0 (zeq x10 0 (zbo 0 (some (0, g))) (zeq x8 x9 (zeq r1 x4 (zbn (sX4_flightIs x3 3 g) (fun r4 g => zeq r4 x5 (zbo 1 (some (1, g))) (zbo 0 (some (0, g))))) (zbo 0 (some (0, g)))) (zbo 0 (some (0, g))))) (zbn (sX4_flightIs x3 1 g) (fun r2 g => zlet (r2 + x6) (fun v3 => zle x6 0 ((sL_isDealt_j283 n K x3 x4 x5 x6 x8 x9 x10 r1 v3 g)) (zeq x2 0 (zeq x4 (-1) ((sL_isDealt_j283 n K x3 x4 x5 x6 x8 x9 x10 r1 v3 g)) (zlt x4 v3 ((sL_isDealt_j284 n K x3 x4 x5 x6 x8 x9 x10 r1 v3 1 g)) ((sL_isDealt_j283 n K x3 x4 x5 x6 x8 x9 x10 r1 v3 g)))) ((sL_isDealt_j283 n K x3 x4 x5 x6 x8 x9 x10 r1 v3 g)))))))
def sL_isDealt_h79 (n : Nat) (K : Nat → Int → Int → Int → Int → Int → Int → Int → Int → Int → Int → zG → Option (Int × zG)) (x2 : Int) (x3 : Int) (x4 : Int) (x5 : Int) (x6 : Int) (x7 : Int) (x8 : Int) (x9 : Int) (x10 : Int) (x11 : Int) (g : zG) : Option (Int × zG) := zix 0 3 (zlt x11 (g 17 0 (0 : Int).toNat) (zeq x10 0 ((sL_isDealt_j197 n K x2 x3 x4 x5 x6 x7 x8 x9 x10 g)) (zbn (sX4_flightIs x11 2 g) (fun r1 g => zbn (sX4_flightIs x11 0 g) (fun r2 g => zeq r2 0 (zeq r1 (-1) ((sL_isDealt_j132 n K x2 x3 x4 x5 x6 x7 x8 x11 r1 x9 g)) (zbn (sX4_flightIs x11 1 g) (fun r3 g => (sL_isDealt_j133 n K x2 x3 x4 x5 x6 x7 x8 x11 r1 x9 (r1 - r3) g)))) ((sL_isDealt_j132 n K x2 x3 x4 x5 x6 x7 x8 x11 r1 x9 g)))))) ((sL_isDealt_j197 n K x2 x3 x4 x5 x6 x7 x8 x9 x10 g)))
def sL_isDealt_run (n0 : Nat) : Nat → Nat → Int → Int → Int → Int → Int → Int → Int → Int → Int → Int → zG → Option (Int × zG)
  | 0, _, _, _, _, _, _, _, _, _, _, _, _ => none
  | n + 1, 0, x2, x3, x4, x5, x6, x7, x8, x9, x10, x11, g => sL_isDealt_h79 n0 (sL_isDealt_run n0 n) x2 x3 x4 x5 x6 x7 x8 x9 x10 x11 g
  | _ + 1, _, _, _, _, _, _, _, _, _, _, _, _ => none
def sL_isDealt (n : Nat) (x2 : Int) (x3 : Int) (g : zG) : Option (Int × zG) := zbn (sX4_flightIs x3 2 g) (fun r1 g => zbn (sX4_flightIs x3 3 g) (fun r2 g => zbn (sX4_due n x3 g) (fun r3 g => zbn (sX4_flightIs x3 0 g) (fun r4 g => zeq r4 0 (zbn (sX4_flightIs x3 7 g) (fun r5 g => zeq r5 0 ((sL_isDealt_j47 n (sL_isDealt_run n 30) x2 x3 r1 r2 r3 1 g)) ((sL_isDealt_j46 n (sL_isDealt_run n 30) x2 x3 r1 r2 r3 g)))) ((sL_isDealt_j46 n (sL_isDealt_run n 30) x2 x3 r1 r2 r3 g))))))
set_option maxHeartbeats 4000000 in
set_option maxRecDepth 100000 in
theorem wL_isDealt_j74 {p : Program} {l : Launch} {e : Env} {s : State} {m : MethodId} {args : Array Value} {below : List Frame} {meth : Method} {c : Code} {X : zC} {N : zN} {r : Int} {g' : zG} (hF : zF p s m args meth c X cL_isDealt 14 RL) (hT : l.stackTraces = false) (hr : meth.sig.returnType = (some .boolean)) {n : Nat} {n1 : Nat} {K : Nat → Int → Int → Int → Int → Int → Int → Int → Int → Int → Int → zG → Option (Int × zG)} (hK0 : ∀ (cells slots : Nat) (x2 : Int) (x3 : Int) (x4 : Int) (x5 : Int) (x6 : Int) (x7 : Int) (x8 : Int) (x9 : Int) (x10 : Int) (x11 : Int) (g : zG) (H : Heap) (locs : List Loc) (ls : Array Slot), (cells + 10 * n1 ≤ 310 ∧ slots + 60 * n1 ≤ 1860) → zH X N g s H locs → lv_has ls 14 [(0, z_r N 0 0), (1, z_r N 17 0), (2, z_v x2), (3, z_v x3), (4, z_v x4), (5, z_v x5), (6, z_v x6), (7, z_v x7), (8, z_v x8), (9, z_v x9), (10, z_v x10), (11, z_v x11)] → K 0 x2 x3 x4 x5 x6 x7 x8 x9 x10 x11 g = some (r, g') → W p l e { frames := 8, cells := 310, slots := 1860, locals := 197 } s m args below meth c H locs cells slots (MQ below (zQi X N r g') args s 310 1860 (zA X)) (F0 m 79 ls [])) {cells slots : Nat} (hcs : cells + 0 + 10 * n1 ≤ 310 ∧ slots + 0 + 60 * n1 ≤ 1860) {x2 : Int} {x3 : Int} {x4 : Int} {x5 : Int} {x6 : Int} {x7 : Int} {x8 : Int} {x9 : Int} {t0 : Int} {g : zG} {H : Heap} {locs : List Loc} {ls : Array Slot} (hw : zH X N g s H locs) (hl : lv_has ls 14 [(0, z_r N 0 0), (1, z_r N 17 0), (2, z_v x2), (3, z_v x3), (4, z_v x4), (5, z_v x5), (6, z_v x6), (7, z_v x7), (8, z_v x8), (9, z_v x9)]) (h : sL_isDealt_j74 n K x2 x3 x4 x5 x6 x7 x8 x9 t0 g = some (r, g')) : W p l e { frames := 8, cells := 310, slots := 1860, locals := 197 } s m args below meth c H locs cells slots (MQ below (zQi X N r g') args s 310 1860 (zA X)) (F0 m 74 ls [z_v t0]) := by
  have hx := hF.1.1
  have hb := hF.1.2.1
  unfold sL_isDealt_j74 at h
  refine lv_istore (lv' := [(10, z_v t0), (0, z_r N 0 0), (1, z_r N 17 0), (2, z_v x2), (3, z_v x3), (4, z_v x4), (5, z_v x5), (6, z_v x6), (7, z_v x7), (8, z_v x8), (9, z_v x9)]) hx hb dL_isDealt_74 hl (by decide) rfl (fun ls hl => ?_)
  refine lv_iconst hx hb dL_isDealt_76 rfl ?_
  refine lv_istore (lv' := [(11, z_v 0), (10, z_v t0), (0, z_r N 0 0), (1, z_r N 17 0), (2, z_v x2), (3, z_v x3), (4, z_v x4), (5, z_v x5), (6, z_v x6), (7, z_v x7), (8, z_v x8), (9, z_v x9)]) hx hb dL_isDealt_77 hl (by decide) rfl (fun ls hl => ?_)
  exact hK0 _ _ x2 x3 x4 x5 x6 x7 x8 x9 t0 0 _ _ _ _ (by omega)  hw (lv_sub hl [2, 3, 4, 5, 6, 7, 8, 9, 10, 11, 1, 0] rfl) h
set_option maxHeartbeats 4000000 in
set_option maxRecDepth 100000 in
theorem wL_isDealt_j47 {p : Program} {l : Launch} {e : Env} {s : State} {m : MethodId} {args : Array Value} {below : List Frame} {meth : Method} {c : Code} {X : zC} {N : zN} {r : Int} {g' : zG} (hF : zF p s m args meth c X cL_isDealt 14 RL) (hT : l.stackTraces = false) (hr : meth.sig.returnType = (some .boolean)) {n : Nat} {n1 : Nat} {K : Nat → Int → Int → Int → Int → Int → Int → Int → Int → Int → Int → zG → Option (Int × zG)} (hK0 : ∀ (cells slots : Nat) (x2 : Int) (x3 : Int) (x4 : Int) (x5 : Int) (x6 : Int) (x7 : Int) (x8 : Int) (x9 : Int) (x10 : Int) (x11 : Int) (g : zG) (H : Heap) (locs : List Loc) (ls : Array Slot), (cells + 10 * n1 ≤ 310 ∧ slots + 60 * n1 ≤ 1860) → zH X N g s H locs → lv_has ls 14 [(0, z_r N 0 0), (1, z_r N 17 0), (2, z_v x2), (3, z_v x3), (4, z_v x4), (5, z_v x5), (6, z_v x6), (7, z_v x7), (8, z_v x8), (9, z_v x9), (10, z_v x10), (11, z_v x11)] → K 0 x2 x3 x4 x5 x6 x7 x8 x9 x10 x11 g = some (r, g') → W p l e { frames := 8, cells := 310, slots := 1860, locals := 197 } s m args below meth c H locs cells slots (MQ below (zQi X N r g') args s 310 1860 (zA X)) (F0 m 79 ls [])) {cells slots : Nat} (hcs : cells + 1 + 10 * n1 ≤ 310 ∧ slots + 6 + 60 * n1 ≤ 1860) {x2 : Int} {x3 : Int} {x4 : Int} {x5 : Int} {x6 : Int} {t0 : Int} {g : zG} {H : Heap} {locs : List Loc} {ls : Array Slot} (hw : zH X N g s H locs) (hl : lv_has ls 14 [(0, z_r N 0 0), (1, z_r N 17 0), (2, z_v x2), (3, z_v x3), (4, z_v x4), (5, z_v x5), (6, z_v x6)]) (h : sL_isDealt_j47 n K x2 x3 x4 x5 x6 t0 g = some (r, g')) : W p l e { frames := 8, cells := 310, slots := 1860, locals := 197 } s m args below meth c H locs cells slots (MQ below (zQi X N r g') args s 310 1860 (zA X)) (F0 m 47 ls [z_v t0]) := by
  have hx := hF.1.1
  have hb := hF.1.2.1
  unfold sL_isDealt_j47 at h
  refine lv_istore (lv' := [(7, z_v t0), (0, z_r N 0 0), (1, z_r N 17 0), (2, z_v x2), (3, z_v x3), (4, z_v x4), (5, z_v x5), (6, z_v x6)]) hx hb dL_isDealt_47 hl (by decide) rfl (fun ls hl => ?_)
  refine lv_aload_n hx hb dL_isDealt_49 rfl (lv_at hl 1 rfl) ?_
  refine lv_iload_n hx hb dL_isDealt_50 rfl (lv_at hl 3 rfl) ?_
  obtain ⟨r1, g1, h1, h⟩ := zbd_some h
  refine zr_callVi (n := 1) (As := [z_v x2]) (rest := []) hF hw (czX4_deal l X N h1) zEf_0_0 (by decide) zC_0 (z_goodV qw_385 qw_386 qw_387 qw_15 qw_388) (by decide +kernel) ⟨Nat.le_of_ble_eq_true rfl, Nat.le_of_ble_eq_true rfl⟩ ⟨rfl, rfl⟩ rfl hl.1 rfl (Nat.le_of_ble_eq_true rfl) dL_isDealt_51 ⟨by show cells ≤ 310; omega, by show slots ≤ 1860; omega⟩ (fun H locs hw => ?_)
  clear h1
  generalize g1 = g at *
  refine lv_istore (lv' := [(8, z_v r1), (7, z_v t0), (0, z_r N 0 0), (1, z_r N 17 0), (2, z_v x2), (3, z_v x3), (4, z_v x4), (5, z_v x5), (6, z_v x6)]) hx hb dL_isDealt_54 hl (by decide) rfl (fun ls hl => ?_)
  refine lv_iconst hx hb dL_isDealt_56 rfl ?_
  refine lv_istore (lv' := [(9, z_v 0), (8, z_v r1), (7, z_v t0), (0, z_r N 0 0), (1, z_r N 17 0), (2, z_v x2), (3, z_v x3), (4, z_v x4), (5, z_v x5), (6, z_v x6)]) hx hb dL_isDealt_57 hl (by decide) rfl (fun ls hl => ?_)
  refine lv_aload_n hx hb dL_isDealt_59 rfl (lv_at hl 3 rfl) ?_
  refine lv_iload_n hx hb dL_isDealt_60 rfl (lv_at hl 6 rfl) ?_
  obtain ⟨o1, g1, h1, h⟩ := zbn_some h
  refine zw_callVi (n := 1) (As := [z_v x3]) (rest := []) hF hw (czX4_dueAnew l hT X N h1) h zEf_0_0 (by decide) zC_0 (z_goodV qw_700 qw_701 qw_702 qw_15 qw_703) (by decide +kernel) ⟨Nat.le_of_ble_eq_true rfl, Nat.le_of_ble_eq_true rfl⟩ rfl hl.1 rfl (Nat.le_of_ble_eq_true rfl) dL_isDealt_61 ⟨by show cells + 1 ≤ 310; omega, by show slots + 6 ≤ 1860; omega⟩ (fun h => h.elim) (fun H locs hw h => ?_)
  clear h1
  generalize g1 = g at *
  generalize o1.2 = r2 at *
  refine W.widen (k := cells + 1) (n := slots + 6) (by show cells + 1 ≤ cells + 1; omega) (by show slots + 6 ≤ slots + 6; omega) ?_
  refine lv_iload hx hb dL_isDealt_64 (lv_at hl 9 rfl) ?_
  refine zr_icmp_ne (tgt := 73) hF h dL_isDealt_66 (by decide) (fun h => ?_) (fun h => ?_)
  · refine lv_iconst hx hb dL_isDealt_73 rfl ?_
    exact wL_isDealt_j74 hF hT hr hK0 (by omega)  hw (lv_sub hl [3, 4, 5, 6, 7, 8, 9, 2, 1, 0] rfl) h
  · refine lv_iconst hx hb dL_isDealt_69 rfl ?_
    refine lv_goto (tgt := 74) hx hb dL_isDealt_70 (by decide) ?_
    exact wL_isDealt_j74 hF hT hr hK0 (by omega)  hw (lv_sub hl [3, 4, 5, 6, 7, 8, 9, 2, 1, 0] rfl) h
set_option maxHeartbeats 4000000 in
set_option maxRecDepth 100000 in
theorem wL_isDealt_j46 {p : Program} {l : Launch} {e : Env} {s : State} {m : MethodId} {args : Array Value} {below : List Frame} {meth : Method} {c : Code} {X : zC} {N : zN} {r : Int} {g' : zG} (hF : zF p s m args meth c X cL_isDealt 14 RL) (hT : l.stackTraces = false) (hr : meth.sig.returnType = (some .boolean)) {n : Nat} {n1 : Nat} {K : Nat → Int → Int → Int → Int → Int → Int → Int → Int → Int → Int → zG → Option (Int × zG)} (hK0 : ∀ (cells slots : Nat) (x2 : Int) (x3 : Int) (x4 : Int) (x5 : Int) (x6 : Int) (x7 : Int) (x8 : Int) (x9 : Int) (x10 : Int) (x11 : Int) (g : zG) (H : Heap) (locs : List Loc) (ls : Array Slot), (cells + 10 * n1 ≤ 310 ∧ slots + 60 * n1 ≤ 1860) → zH X N g s H locs → lv_has ls 14 [(0, z_r N 0 0), (1, z_r N 17 0), (2, z_v x2), (3, z_v x3), (4, z_v x4), (5, z_v x5), (6, z_v x6), (7, z_v x7), (8, z_v x8), (9, z_v x9), (10, z_v x10), (11, z_v x11)] → K 0 x2 x3 x4 x5 x6 x7 x8 x9 x10 x11 g = some (r, g') → W p l e { frames := 8, cells := 310, slots := 1860, locals := 197 } s m args below meth c H locs cells slots (MQ below (zQi X N r g') args s 310 1860 (zA X)) (F0 m 79 ls [])) {cells slots : Nat} (hcs : cells + 1 + 10 * n1 ≤ 310 ∧ slots + 6 + 60 * n1 ≤ 1860) {x2 : Int} {x3 : Int} {x4 : Int} {x5 : Int} {x6 : Int} {g : zG} {H : Heap} {locs : List Loc} {ls : Array Slot} (hw : zH X N g s H locs) (hl : lv_has ls 14 [(0, z_r N 0 0), (1, z_r N 17 0), (2, z_v x2), (3, z_v x3), (4, z_v x4), (5, z_v x5), (6, z_v x6)]) (h : sL_isDealt_j46 n K x2 x3 x4 x5 x6 g = some (r, g')) : W p l e { frames := 8, cells := 310, slots := 1860, locals := 197 } s m args below meth c H locs cells slots (MQ below (zQi X N r g') args s 310 1860 (zA X)) (F0 m 46 ls []) := by
  have hx := hF.1.1
  have hb := hF.1.2.1
  unfold sL_isDealt_j46 at h
  refine lv_iconst hx hb dL_isDealt_46 rfl ?_
  exact wL_isDealt_j47 hF hT hr hK0 (by omega)  hw (lv_sub hl [0, 1, 2, 3, 4, 5, 6] rfl) h
set_option maxHeartbeats 4000000 in
set_option maxRecDepth 100000 in
theorem wL_isDealt_j189 {p : Program} {l : Launch} {e : Env} {s : State} {m : MethodId} {args : Array Value} {below : List Frame} {meth : Method} {c : Code} {X : zC} {N : zN} {r : Int} {g' : zG} (hF : zF p s m args meth c X cL_isDealt 14 RL) (hT : l.stackTraces = false) (hr : meth.sig.returnType = (some .boolean)) {n : Nat} {n1 : Nat} {K : Nat → Int → Int → Int → Int → Int → Int → Int → Int → Int → Int → zG → Option (Int × zG)} (hK0 : ∀ (cells slots : Nat) (x2 : Int) (x3 : Int) (x4 : Int) (x5 : Int) (x6 : Int) (x7 : Int) (x8 : Int) (x9 : Int) (x10 : Int) (x11 : Int) (g : zG) (H : Heap) (locs : List Loc) (ls : Array Slot), (cells + 10 * n1 ≤ 310 ∧ slots + 60 * n1 ≤ 1860) → zH X N g s H locs → lv_has ls 14 [(0, z_r N 0 0), (1, z_r N 17 0), (2, z_v x2), (3, z_v x3), (4, z_v x4), (5, z_v x5), (6, z_v x6), (7, z_v x7), (8, z_v x8), (9, z_v x9), (10, z_v x10), (11, z_v x11)] → K 0 x2 x3 x4 x5 x6 x7 x8 x9 x10 x11 g = some (r, g') → W p l e { frames := 8, cells := 310, slots := 1860, locals := 197 } s m args below meth c H locs cells slots (MQ below (zQi X N r g') args s 310 1860 (zA X)) (F0 m 79 ls [])) {cells slots : Nat} (hcs : cells + 0 + 10 * n1 ≤ 310 ∧ slots + 0 + 60 * n1 ≤ 1860) {x2 : Int} {x3 : Int} {x4 : Int} {x5 : Int} {x6 : Int} {x7 : Int} {x8 : Int} {x9 : Int} {x11 : Int} {t0 : Int} {g : zG} {H : Heap} {locs : List Loc} {ls : Array Slot} (hw : zH X N g s H locs) (hl : lv_has ls 14 [(0, z_r N 0 0), (1, z_r N 17 0), (2, z_v x2), (3, z_v x3), (4, z_v x4), (5, z_v x5), (6, z_v x6), (7, z_v x7), (8, z_v x8), (9, z_v x9), (11, z_v x11)]) (h : sL_isDealt_j189 n K x2 x3 x4 x5 x6 x7 x8 x9 x11 t0 g = some (r, g')) : W p l e { frames := 8, cells := 310, slots := 1860, locals := 197 } s m args below meth c H locs cells slots (MQ below (zQi X N r g') args s 310 1860 (zA X)) (F0 m 189 ls [z_v t0]) := by
  have hx := hF.1.1
  have hb := hF.1.2.1
  unfold sL_isDealt_j189 at h
  refine lv_istore (lv' := [(10, z_v t0), (0, z_r N 0 0), (1, z_r N 17 0), (2, z_v x2), (3, z_v x3), (4, z_v x4), (5, z_v x5), (6, z_v x6), (7, z_v x7), (8, z_v x8), (9, z_v x9), (11, z_v x11)]) hx hb dL_isDealt_189 hl (by decide) rfl (fun ls hl => ?_)
  refine zr_iinc hF (lv' := fun v1 => [(11, z_v v1), (10, z_v t0), (0, z_r N 0 0), (1, z_r N 17 0), (2, z_v x2), (3, z_v x3), (4, z_v x4), (5, z_v x5), (6, z_v x6), (7, z_v x7), (8, z_v x8), (9, z_v x9)]) h dL_isDealt_191 hl (k := 11) rfl (by decide) (fun _ => rfl) (fun v1 ls hl h => ?_)
  refine lv_goto (tgt := 79) hx hb dL_isDealt_194 (by decide) ?_
  exact hK0 _ _ x2 x3 x4 x5 x6 x7 x8 x9 t0 v1 _ _ _ _ (by omega)  hw (lv_sub hl [2, 3, 4, 5, 6, 7, 8, 9, 10, 11, 1, 0] rfl) h
set_option maxHeartbeats 4000000 in
set_option maxRecDepth 100000 in
theorem wL_isDealt_j184 {p : Program} {l : Launch} {e : Env} {s : State} {m : MethodId} {args : Array Value} {below : List Frame} {meth : Method} {c : Code} {X : zC} {N : zN} {r : Int} {g' : zG} (hF : zF p s m args meth c X cL_isDealt 14 RL) (hT : l.stackTraces = false) (hr : meth.sig.returnType = (some .boolean)) {n : Nat} {n1 : Nat} {K : Nat → Int → Int → Int → Int → Int → Int → Int → Int → Int → Int → zG → Option (Int × zG)} (hK0 : ∀ (cells slots : Nat) (x2 : Int) (x3 : Int) (x4 : Int) (x5 : Int) (x6 : Int) (x7 : Int) (x8 : Int) (x9 : Int) (x10 : Int) (x11 : Int) (g : zG) (H : Heap) (locs : List Loc) (ls : Array Slot), (cells + 10 * n1 ≤ 310 ∧ slots + 60 * n1 ≤ 1860) → zH X N g s H locs → lv_has ls 14 [(0, z_r N 0 0), (1, z_r N 17 0), (2, z_v x2), (3, z_v x3), (4, z_v x4), (5, z_v x5), (6, z_v x6), (7, z_v x7), (8, z_v x8), (9, z_v x9), (10, z_v x10), (11, z_v x11)] → K 0 x2 x3 x4 x5 x6 x7 x8 x9 x10 x11 g = some (r, g') → W p l e { frames := 8, cells := 310, slots := 1860, locals := 197 } s m args below meth c H locs cells slots (MQ below (zQi X N r g') args s 310 1860 (zA X)) (F0 m 79 ls [])) {cells slots : Nat} (hcs : cells + 0 + 10 * n1 ≤ 310 ∧ slots + 0 + 60 * n1 ≤ 1860) {x2 : Int} {x3 : Int} {x4 : Int} {x5 : Int} {x6 : Int} {x7 : Int} {x8 : Int} {x9 : Int} {x11 : Int} {g : zG} {H : Heap} {locs : List Loc} {ls : Array Slot} (hw : zH X N g s H locs) (hl : lv_has ls 14 [(0, z_r N 0 0), (1, z_r N 17 0), (2, z_v x2), (3, z_v x3), (4, z_v x4), (5, z_v x5), (6, z_v x6), (7, z_v x7), (8, z_v x8), (9, z_v x9), (11, z_v x11)]) (h : sL_isDealt_j184 n K x2 x3 x4 x5 x6 x7 x8 x9 x11 g = some (r, g')) : W p l e { frames := 8, cells := 310, slots := 1860, locals := 197 } s m args below meth c H locs cells slots (MQ below (zQi X N r g') args s 310 1860 (zA X)) (F0 m 184 ls []) := by
  have hx := hF.1.1
  have hb := hF.1.2.1
  unfold sL_isDealt_j184 at h
  refine lv_iconst hx hb dL_isDealt_184 rfl ?_
  refine lv_goto (tgt := 189) hx hb dL_isDealt_185 (by decide) ?_
  exact wL_isDealt_j189 hF hT hr hK0 (by omega)  hw (lv_sub hl [0, 1, 2, 3, 4, 5, 6, 7, 8, 9, 10] rfl) h
set_option maxHeartbeats 4000000 in
set_option maxRecDepth 100000 in
theorem wL_isDealt_j188 {p : Program} {l : Launch} {e : Env} {s : State} {m : MethodId} {args : Array Value} {below : List Frame} {meth : Method} {c : Code} {X : zC} {N : zN} {r : Int} {g' : zG} (hF : zF p s m args meth c X cL_isDealt 14 RL) (hT : l.stackTraces = false) (hr : meth.sig.returnType = (some .boolean)) {n : Nat} {n1 : Nat} {K : Nat → Int → Int → Int → Int → Int → Int → Int → Int → Int → Int → zG → Option (Int × zG)} (hK0 : ∀ (cells slots : Nat) (x2 : Int) (x3 : Int) (x4 : Int) (x5 : Int) (x6 : Int) (x7 : Int) (x8 : Int) (x9 : Int) (x10 : Int) (x11 : Int) (g : zG) (H : Heap) (locs : List Loc) (ls : Array Slot), (cells + 10 * n1 ≤ 310 ∧ slots + 60 * n1 ≤ 1860) → zH X N g s H locs → lv_has ls 14 [(0, z_r N 0 0), (1, z_r N 17 0), (2, z_v x2), (3, z_v x3), (4, z_v x4), (5, z_v x5), (6, z_v x6), (7, z_v x7), (8, z_v x8), (9, z_v x9), (10, z_v x10), (11, z_v x11)] → K 0 x2 x3 x4 x5 x6 x7 x8 x9 x10 x11 g = some (r, g') → W p l e { frames := 8, cells := 310, slots := 1860, locals := 197 } s m args below meth c H locs cells slots (MQ below (zQi X N r g') args s 310 1860 (zA X)) (F0 m 79 ls [])) {cells slots : Nat} (hcs : cells + 0 + 10 * n1 ≤ 310 ∧ slots + 0 + 60 * n1 ≤ 1860) {x2 : Int} {x3 : Int} {x4 : Int} {x5 : Int} {x6 : Int} {x7 : Int} {x8 : Int} {x9 : Int} {x11 : Int} {g : zG} {H : Heap} {locs : List Loc} {ls : Array Slot} (hw : zH X N g s H locs) (hl : lv_has ls 14 [(0, z_r N 0 0), (1, z_r N 17 0), (2, z_v x2), (3, z_v x3), (4, z_v x4), (5, z_v x5), (6, z_v x6), (7, z_v x7), (8, z_v x8), (9, z_v x9), (11, z_v x11)]) (h : sL_isDealt_j188 n K x2 x3 x4 x5 x6 x7 x8 x9 x11 g = some (r, g')) : W p l e { frames := 8, cells := 310, slots := 1860, locals := 197 } s m args below meth c H locs cells slots (MQ below (zQi X N r g') args s 310 1860 (zA X)) (F0 m 188 ls []) := by
  have hx := hF.1.1
  have hb := hF.1.2.1
  unfold sL_isDealt_j188 at h
  refine lv_iconst hx hb dL_isDealt_188 rfl ?_
  exact wL_isDealt_j189 hF hT hr hK0 (by omega)  hw (lv_sub hl [0, 1, 2, 3, 4, 5, 6, 7, 8, 9, 10] rfl) h
set_option maxHeartbeats 4000000 in
set_option maxRecDepth 100000 in
theorem wL_isDealt_j163 {p : Program} {l : Launch} {e : Env} {s : State} {m : MethodId} {args : Array Value} {below : List Frame} {meth : Method} {c : Code} {X : zC} {N : zN} {r : Int} {g' : zG} (hF : zF p s m args meth c X cL_isDealt 14 RL) (hT : l.stackTraces = false) (hr : meth.sig.returnType = (some .boolean)) {n : Nat} {n1 : Nat} {K : Nat → Int → Int → Int → Int → Int → Int → Int → Int → Int → Int → zG → Option (Int × zG)} (hK0 : ∀ (cells slots : Nat) (x2 : Int) (x3 : Int) (x4 : Int) (x5 : Int) (x6 : Int) (x7 : Int) (x8 : Int) (x9 : Int) (x10 : Int) (x11 : Int) (g : zG) (H : Heap) (locs : List Loc) (ls : Array Slot), (cells + 10 * n1 ≤ 310 ∧ slots + 60 * n1 ≤ 1860) → zH X N g s H locs → lv_has ls 14 [(0, z_r N 0 0), (1, z_r N 17 0), (2, z_v x2), (3, z_v x3), (4, z_v x4), (5, z_v x5), (6, z_v x6), (7, z_v x7), (8, z_v x8), (9, z_v x9), (10, z_v x10), (11, z_v x11)] → K 0 x2 x3 x4 x5 x6 x7 x8 x9 x10 x11 g = some (r, g') → W p l e { frames := 8, cells := 310, slots := 1860, locals := 197 } s m args below meth c H locs cells slots (MQ below (zQi X N r g') args s 310 1860 (zA X)) (F0 m 79 ls [])) {cells slots : Nat} (hcs : cells + 2 + 10 * n1 ≤ 310 ∧ slots + 12 + 60 * n1 ≤ 1860) {x2 : Int} {x3 : Int} {x4 : Int} {x5 : Int} {x6 : Int} {x7 : Int} {x8 : Int} {x9 : Int} {x11 : Int} {x12 : Int} {t0 : Int} {t1 : Int} {g : zG} {H : Heap} {locs : List Loc} {ls : Array Slot} (hw : zH X N g s H locs) (hl : lv_has ls 14 [(0, z_r N 0 0), (1, z_r N 17 0), (2, z_v x2), (3, z_v x3), (4, z_v x4), (5, z_v x5), (6, z_v x6), (7, z_v x7), (8, z_v x8), (9, z_v x9), (11, z_v x11), (12, z_v x12)]) (h : sL_isDealt_j163 n K x2 x3 x4 x5 x6 x7 x8 x9 x11 x12 t0 t1 g = some (r, g')) : W p l e { frames := 8, cells := 310, slots := 1860, locals := 197 } s m args below meth c H locs cells slots (MQ below (zQi X N r g') args s 310 1860 (zA X)) (F0 m 163 ls [z_v t1, z_v t0]) := by
  have hx := hF.1.1
  have hb := hF.1.2.1
  unfold sL_isDealt_j163 at h
  refine zr_icmp_ne (tgt := 188) hF h dL_isDealt_163 (by decide) (fun h => ?_) (fun h => ?_)
  · exact wL_isDealt_j188 hF hT hr hK0 (by omega)  hw (lv_sub hl [0, 1, 2, 3, 4, 5, 6, 7, 8, 9, 10] rfl) h
  · refine lv_iload hx hb dL_isDealt_166 (lv_at hl 11 rfl) ?_
    refine lv_iconst hx hb dL_isDealt_168 rfl ?_
    refine zr_icmp_eq (tgt := 184) hF h dL_isDealt_169 (by decide) (fun h => ?_) (fun h => ?_)
    · exact wL_isDealt_j184 hF hT hr hK0 (by omega)  hw (lv_sub hl [0, 1, 2, 3, 4, 5, 6, 7, 8, 9, 10] rfl) h
    · refine lv_iload hx hb dL_isDealt_172 (lv_at hl 11 rfl) ?_
      refine lv_aload_n hx hb dL_isDealt_174 rfl (lv_at hl 0 rfl) ?_
      refine lv_iload hx hb dL_isDealt_175 (lv_at hl 10 rfl) ?_
      refine lv_iconst hx hb dL_isDealt_177 rfl ?_
      obtain ⟨o1, g1, h1, h⟩ := zbn_some h
      refine zw_callVi (n := 2) (As := [z_v x11, z_v 1]) (rest := [z_v x12]) hF hw (czX4_flightIs l hT X N h1) h zEf_0_0 (by decide) zC_0 (z_goodV qw_631 qw_632 qw_633 qw_15 qw_634) (by decide +kernel) ⟨Nat.le_of_ble_eq_true rfl, Nat.le_of_ble_eq_true rfl⟩ rfl hl.1 rfl (Nat.le_of_ble_eq_true rfl) dL_isDealt_178 ⟨by show cells + 2 ≤ 310; omega, by show slots + 12 ≤ 1860; omega⟩ (fun h => h.elim) (fun H locs hw h => ?_)
      clear h1
      generalize g1 = g at *
      generalize o1.2 = r1 at *
      refine W.widen (k := cells + 2) (n := slots + 12) (by show cells + 2 ≤ cells + 2; omega) (by show slots + 12 ≤ slots + 12; omega) ?_
      refine zr_icmp_lt (tgt := 188) hF h dL_isDealt_181 (by decide) (fun h => ?_) (fun h => ?_)
      · exact wL_isDealt_j188 hF hT hr hK0 (by omega)  hw (lv_sub hl [0, 1, 2, 3, 4, 5, 6, 7, 8, 9, 10] rfl) h
      · exact wL_isDealt_j184 hF hT hr hK0 (by omega)  hw (lv_sub hl [0, 1, 2, 3, 4, 5, 6, 7, 8, 9, 10] rfl) h
set_option maxHeartbeats 4000000 in
set_option maxRecDepth 100000 in
theorem wL_isDealt_j147 {p : Program} {l : Launch} {e : Env} {s : State} {m : MethodId} {args : Array Value} {below : List Frame} {meth : Method} {c : Code} {X : zC} {N : zN} {r : Int} {g' : zG} (hF : zF p s m args meth c X cL_isDealt 14 RL) (hT : l.stackTraces = false) (hr : meth.sig.returnType = (some .boolean)) {n : Nat} {n1 : Nat} {K : Nat → Int → Int → Int → Int → Int → Int → Int → Int → Int → Int → zG → Option (Int × zG)} (hK0 : ∀ (cells slots : Nat) (x2 : Int) (x3 : Int) (x4 : Int) (x5 : Int) (x6 : Int) (x7 : Int) (x8 : Int) (x9 : Int) (x10 : Int) (x11 : Int) (g : zG) (H : Heap) (locs : List Loc) (ls : Array Slot), (cells + 10 * n1 ≤ 310 ∧ slots + 60 * n1 ≤ 1860) → zH X N g s H locs → lv_has ls 14 [(0, z_r N 0 0), (1, z_r N 17 0), (2, z_v x2), (3, z_v x3), (4, z_v x4), (5, z_v x5), (6, z_v x6), (7, z_v x7), (8, z_v x8), (9, z_v x9), (10, z_v x10), (11, z_v x11)] → K 0 x2 x3 x4 x5 x6 x7 x8 x9 x10 x11 g = some (r, g') → W p l e { frames := 8, cells := 310, slots := 1860, locals := 197 } s m args below meth c H locs cells slots (MQ below (zQi X N r g') args s 310 1860 (zA X)) (F0 m 79 ls [])) {cells slots : Nat} (hcs : cells + 4 + 10 * n1 ≤ 310 ∧ slots + 24 + 60 * n1 ≤ 1860) {x2 : Int} {x3 : Int} {x4 : Int} {x5 : Int} {x6 : Int} {x7 : Int} {x8 : Int} {x9 : Int} {x11 : Int} {x12 : Int} {t0 : Int} {g : zG} {H : Heap} {locs : List Loc} {ls : Array Slot} (hw : zH X N g s H locs) (hl : lv_has ls 14 [(0, z_r N 0 0), (1, z_r N 17 0), (2, z_v x2), (3, z_v x3), (4, z_v x4), (5, z_v x5), (6, z_v x6), (7, z_v x7), (8, z_v x8), (9, z_v x9), (11, z_v x11), (12, z_v x12)]) (h : sL_isDealt_j147 n K x2 x3 x4 x5 x6 x7 x8 x9 x11 x12 t0 g = some (r, g')) : W p l e { frames := 8, cells := 310, slots := 1860, locals := 197 } s m args below meth c H locs cells slots (MQ below (zQi X N r g') args s 310 1860 (zA X)) (F0 m 147 ls [z_v t0]) := by
  have hx := hF.1.1
  have hb := hF.1.2.1
  unfold sL_isDealt_j147 at h
  refine lv_aload_n hx hb dL_isDealt_147 rfl (lv_at hl 0 rfl) ?_
  refine lv_iload hx hb dL_isDealt_148 (lv_at hl 10 rfl) ?_
  refine lv_iconst hx hb dL_isDealt_150 rfl ?_
  obtain ⟨o1, g1, h1, h⟩ := zbn_some h
  refine zw_callVi (n := 2) (As := [z_v x11, z_v 3]) (rest := [z_v t0]) hF hw (czX4_flightIs l hT X N h1) h zEf_0_0 (by decide) zC_0 (z_goodV qw_631 qw_632 qw_633 qw_15 qw_634) (by decide +kernel) ⟨Nat.le_of_ble_eq_true rfl, Nat.le_of_ble_eq_true rfl⟩ rfl hl.1 rfl (Nat.le_of_ble_eq_true rfl) dL_isDealt_151 ⟨by show cells + 2 ≤ 310; omega, by show slots + 12 ≤ 1860; omega⟩ (fun h => h.elim) (fun H locs hw h => ?_)
  clear h1
  generalize g1 = g at *
  generalize o1.2 = r1 at *
  refine W.widen (k := cells + 2) (n := slots + 12) (by show cells + 2 ≤ cells + 2; omega) (by show slots + 12 ≤ slots + 12; omega) ?_
  refine lv_iconst hx hb dL_isDealt_154 rfl ?_
  refine zr_icmp_ne (tgt := 162) hF h dL_isDealt_155 (by decide) (fun h => ?_) (fun h => ?_)
  · refine lv_iconst hx hb dL_isDealt_162 rfl ?_
    exact wL_isDealt_j163 hF hT hr hK0 (by omega)  hw (lv_sub hl [0, 1, 2, 3, 4, 5, 6, 7, 8, 9, 10, 11] rfl) h
  · refine lv_iconst hx hb dL_isDealt_158 rfl ?_
    refine lv_goto (tgt := 163) hx hb dL_isDealt_159 (by decide) ?_
    exact wL_isDealt_j163 hF hT hr hK0 (by omega)  hw (lv_sub hl [0, 1, 2, 3, 4, 5, 6, 7, 8, 9, 10, 11] rfl) h
set_option maxHeartbeats 4000000 in
set_option maxRecDepth 100000 in
theorem wL_isDealt_j133 {p : Program} {l : Launch} {e : Env} {s : State} {m : MethodId} {args : Array Value} {below : List Frame} {meth : Method} {c : Code} {X : zC} {N : zN} {r : Int} {g' : zG} (hF : zF p s m args meth c X cL_isDealt 14 RL) (hT : l.stackTraces = false) (hr : meth.sig.returnType = (some .boolean)) {n : Nat} {n1 : Nat} {K : Nat → Int → Int → Int → Int → Int → Int → Int → Int → Int → Int → zG → Option (Int × zG)} (hK0 : ∀ (cells slots : Nat) (x2 : Int) (x3 : Int) (x4 : Int) (x5 : Int) (x6 : Int) (x7 : Int) (x8 : Int) (x9 : Int) (x10 : Int) (x11 : Int) (g : zG) (H : Heap) (locs : List Loc) (ls : Array Slot), (cells + 10 * n1 ≤ 310 ∧ slots + 60 * n1 ≤ 1860) → zH X N g s H locs → lv_has ls 14 [(0, z_r N 0 0), (1, z_r N 17 0), (2, z_v x2), (3, z_v x3), (4, z_v x4), (5, z_v x5), (6, z_v x6), (7, z_v x7), (8, z_v x8), (9, z_v x9), (10, z_v x10), (11, z_v x11)] → K 0 x2 x3 x4 x5 x6 x7 x8 x9 x10 x11 g = some (r, g') → W p l e { frames := 8, cells := 310, slots := 1860, locals := 197 } s m args below meth c H locs cells slots (MQ below (zQi X N r g') args s 310 1860 (zA X)) (F0 m 79 ls [])) {cells slots : Nat} (hcs : cells + 4 + 10 * n1 ≤ 310 ∧ slots + 24 + 60 * n1 ≤ 1860) {x2 : Int} {x3 : Int} {x4 : Int} {x5 : Int} {x6 : Int} {x7 : Int} {x8 : Int} {x11 : Int} {x12 : Int} {t0 : Int} {t1 : Int} {g : zG} {H : Heap} {locs : List Loc} {ls : Array Slot} (hw : zH X N g s H locs) (hl : lv_has ls 14 [(0, z_r N 0 0), (1, z_r N 17 0), (2, z_v x2), (3, z_v x3), (4, z_v x4), (5, z_v x5), (6, z_v x6), (7, z_v x7), (8, z_v x8), (11, z_v x11), (12, z_v x12)]) (h : sL_isDealt_j133 n K x2 x3 x4 x5 x6 x7 x8 x11 x12 t0 t1 g = some (r, g')) : W p l e { frames := 8, cells := 310, slots := 1860, locals := 197 } s m args below meth c H locs cells slots (MQ below (zQi X N r g') args s 310 1860 (zA X)) (F0 m 133 ls [z_v t1, z_v t0]) := by
  have hx := hF.1.1
  have hb := hF.1.2.1
  unfold sL_isDealt_j133 at h
  refine zr_iadd hF dL_isDealt_133 ?_
  refine zr_let h (fun v1 h => ?_)
  refine lv_istore (lv' := [(9, z_v v1), (0, z_r N 0 0), (1, z_r N 17 0), (2, z_v x2), (3, z_v x3), (4, z_v x4), (5, z_v x5), (6, z_v x6), (7, z_v x7), (8, z_v x8), (11, z_v x11), (12, z_v x12)]) hx hb dL_isDealt_134 hl (by decide) rfl (fun ls hl => ?_)
  refine lv_iload hx hb dL_isDealt_136 (lv_at hl 11 rfl) ?_
  refine lv_iconst hx hb dL_isDealt_138 rfl ?_
  refine zr_icmp_ne (tgt := 146) hF h dL_isDealt_139 (by decide) (fun h => ?_) (fun h => ?_)
  · refine lv_iconst hx hb dL_isDealt_146 rfl ?_
    exact wL_isDealt_j147 hF hT hr hK0 (by omega)  hw (lv_sub hl [1, 2, 3, 4, 5, 6, 7, 8, 9, 0, 10, 11] rfl) h
  · refine lv_iconst hx hb dL_isDealt_142 rfl ?_
    refine lv_goto (tgt := 147) hx hb dL_isDealt_143 (by decide) ?_
    exact wL_isDealt_j147 hF hT hr hK0 (by omega)  hw (lv_sub hl [1, 2, 3, 4, 5, 6, 7, 8, 9, 0, 10, 11] rfl) h
set_option maxHeartbeats 4000000 in
set_option maxRecDepth 100000 in
theorem wL_isDealt_j132 {p : Program} {l : Launch} {e : Env} {s : State} {m : MethodId} {args : Array Value} {below : List Frame} {meth : Method} {c : Code} {X : zC} {N : zN} {r : Int} {g' : zG} (hF : zF p s m args meth c X cL_isDealt 14 RL) (hT : l.stackTraces = false) (hr : meth.sig.returnType = (some .boolean)) {n : Nat} {n1 : Nat} {K : Nat → Int → Int → Int → Int → Int → Int → Int → Int → Int → Int → zG → Option (Int × zG)} (hK0 : ∀ (cells slots : Nat) (x2 : Int) (x3 : Int) (x4 : Int) (x5 : Int) (x6 : Int) (x7 : Int) (x8 : Int) (x9 : Int) (x10 : Int) (x11 : Int) (g : zG) (H : Heap) (locs : List Loc) (ls : Array Slot), (cells + 10 * n1 ≤ 310 ∧ slots + 60 * n1 ≤ 1860) → zH X N g s H locs → lv_has ls 14 [(0, z_r N 0 0), (1, z_r N 17 0), (2, z_v x2), (3, z_v x3), (4, z_v x4), (5, z_v x5), (6, z_v x6), (7, z_v x7), (8, z_v x8), (9, z_v x9), (10, z_v x10), (11, z_v x11)] → K 0 x2 x3 x4 x5 x6 x7 x8 x9 x10 x11 g = some (r, g') → W p l e { frames := 8, cells := 310, slots := 1860, locals := 197 } s m args below meth c H locs cells slots (MQ below (zQi X N r g') args s 310 1860 (zA X)) (F0 m 79 ls [])) {cells slots : Nat} (hcs : cells + 4 + 10 * n1 ≤ 310 ∧ slots + 24 + 60 * n1 ≤ 1860) {x2 : Int} {x3 : Int} {x4 : Int} {x5 : Int} {x6 : Int} {x7 : Int} {x8 : Int} {x11 : Int} {x12 : Int} {t0 : Int} {g : zG} {H : Heap} {locs : List Loc} {ls : Array Slot} (hw : zH X N g s H locs) (hl : lv_has ls 14 [(0, z_r N 0 0), (1, z_r N 17 0), (2, z_v x2), (3, z_v x3), (4, z_v x4), (5, z_v x5), (6, z_v x6), (7, z_v x7), (8, z_v x8), (11, z_v x11), (12, z_v x12)]) (h : sL_isDealt_j132 n K x2 x3 x4 x5 x6 x7 x8 x11 x12 t0 g = some (r, g')) : W p l e { frames := 8, cells := 310, slots := 1860, locals := 197 } s m args below meth c H locs cells slots (MQ below (zQi X N r g') args s 310 1860 (zA X)) (F0 m 132 ls [z_v t0]) := by
  have hx := hF.1.1
  have hb := hF.1.2.1
  unfold sL_isDealt_j132 at h
  refine lv_iconst hx hb dL_isDealt_132 rfl ?_
  exact wL_isDealt_j133 hF hT hr hK0 (by omega)  hw (lv_sub hl [0, 1, 2, 3, 4, 5, 6, 7, 8, 9, 10] rfl) h
set_option maxHeartbeats 4000000 in
set_option maxRecDepth 100000 in
theorem wL_isDealt_j361 {p : Program} {l : Launch} {e : Env} {s : State} {m : MethodId} {args : Array Value} {below : List Frame} {meth : Method} {c : Code} {X : zC} {N : zN} {r : Int} {g' : zG} (hF : zF p s m args meth c X cL_isDealt 14 RL) (hT : l.stackTraces = false) (hr : meth.sig.returnType = (some .boolean)) {n : Nat} {n1 : Nat} {K : Nat → Int → Int → Int → Int → Int → Int → Int → Int → Int → Int → zG → Option (Int × zG)} (hK0 : ∀ (cells slots : Nat) (x2 : Int) (x3 : Int) (x4 : Int) (x5 : Int) (x6 : Int) (x7 : Int) (x8 : Int) (x9 : Int) (x10 : Int) (x11 : Int) (g : zG) (H : Heap) (locs : List Loc) (ls : Array Slot), (cells + 10 * n1 ≤ 310 ∧ slots + 60 * n1 ≤ 1860) → zH X N g s H locs → lv_has ls 14 [(0, z_r N 0 0), (1, z_r N 17 0), (2, z_v x2), (3, z_v x3), (4, z_v x4), (5, z_v x5), (6, z_v x6), (7, z_v x7), (8, z_v x8), (9, z_v x9), (10, z_v x10), (11, z_v x11)] → K 0 x2 x3 x4 x5 x6 x7 x8 x9 x10 x11 g = some (r, g') → W p l e { frames := 8, cells := 310, slots := 1860, locals := 197 } s m args below meth c H locs cells slots (MQ below (zQi X N r g') args s 310 1860 (zA X)) (F0 m 79 ls [])) {cells slots : Nat} (hcs : cells + 0 + 10 * n1 ≤ 310 ∧ slots + 0 + 60 * n1 ≤ 1860) {g : zG} {H : Heap} {locs : List Loc} {ls : Array Slot} (hw : zH X N g s H locs) (hl : lv_has ls 14 []) (h : sL_isDealt_j361 n K g = some (r, g')) : W p l e { frames := 8, cells := 310, slots := 1860, locals := 197 } s m args below meth c H locs cells slots (MQ below (zQi X N r g') args s 310 1860 (zA X)) (F0 m 361 ls []) := by
  have hx := hF.1.1
  have hb := hF.1.2.1
  unfold sL_isDealt_j361 at h
  refine lv_iconst hx hb dL_isDealt_361 rfl ?_
  refine lv_goto (tgt := 366) hx hb dL_isDealt_362 (by decide) ?_
  exact zp_zret hF hr hw h dL_isDealt_366 ⟨by omega, by omega⟩
set_option maxHeartbeats 4000000 in
set_option maxRecDepth 100000 in
theorem wL_isDealt_j284 {p : Program} {l : Launch} {e : Env} {s : State} {m : MethodId} {args : Array Value} {below : List Frame} {meth : Method} {c : Code} {X : zC} {N : zN} {r : Int} {g' : zG} (hF : zF p s m args meth c X cL_isDealt 14 RL) (hT : l.stackTraces = false) (hr : meth.sig.returnType = (some .boolean)) {n : Nat} {n1 : Nat} {K : Nat → Int → Int → Int → Int → Int → Int → Int → Int → Int → Int → zG → Option (Int × zG)} (hK0 : ∀ (cells slots : Nat) (x2 : Int) (x3 : Int) (x4 : Int) (x5 : Int) (x6 : Int) (x7 : Int) (x8 : Int) (x9 : Int) (x10 : Int) (x11 : Int) (g : zG) (H : Heap) (locs : List Loc) (ls : Array Slot), (cells + 10 * n1 ≤ 310 ∧ slots + 60 * n1 ≤ 1860) → zH X N g s H locs → lv_has ls 14 [(0, z_r N 0 0), (1, z_r N 17 0), (2, z_v x2), (3, z_v x3), (4, z_v x4), (5, z_v x5), (6, z_v x6), (7, z_v x7), (8, z_v x8), (9, z_v x9), (10, z_v x10), (11, z_v x11)] → K 0 x2 x3 x4 x5 x6 x7 x8 x9 x10 x11 g = some (r, g') → W p l e { frames := 8, cells := 310, slots := 1860, locals := 197 } s m args below meth c H locs cells slots (MQ below (zQi X N r g') args s 310 1860 (zA X)) (F0 m 79 ls [])) {cells slots : Nat} (hcs : cells + 4 + 10 * n1 ≤ 310 ∧ slots + 24 + 60 * n1 ≤ 1860) {x3 : Int} {x4 : Int} {x5 : Int} {x6 : Int} {x8 : Int} {x9 : Int} {x10 : Int} {x11 : Int} {x12 : Int} {t0 : Int} {g : zG} {H : Heap} {locs : List Loc} {ls : Array Slot} (hw : zH X N g s H locs) (hl : lv_has ls 14 [(0, z_r N 0 0), (3, z_v x3), (4, z_v x4), (5, z_v x5), (6, z_v x6), (8, z_v x8), (9, z_v x9), (10, z_v x10), (11, z_v x11), (12, z_v x12)]) (h : sL_isDealt_j284 n K x3 x4 x5 x6 x8 x9 x10 x11 x12 t0 g = some (r, g')) : W p l e { frames := 8, cells := 310, slots := 1860, locals := 197 } s m args below meth c H locs cells slots (MQ below (zQi X N r g') args s 310 1860 (zA X)) (F0 m 284 ls [z_v t0]) := by
  have hx := hF.1.1
  have hb := hF.1.2.1
  unfold sL_isDealt_j284 at h
  refine lv_istore (lv' := [(13, z_v t0), (0, z_r N 0 0), (3, z_v x3), (4, z_v x4), (5, z_v x5), (6, z_v x6), (8, z_v x8), (9, z_v x9), (10, z_v x10), (11, z_v x11), (12, z_v x12)]) hx hb dL_isDealt_284 hl (by decide) rfl (fun ls hl => ?_)
  refine lv_iload hx hb dL_isDealt_286 (lv_at hl 8 rfl) ?_
  refine zr_if_eq (tgt := 365) hF h dL_isDealt_288 (by decide) (fun h => ?_) (fun h => ?_)
  · refine lv_iconst hx hb dL_isDealt_365 rfl ?_
    exact zp_zret hF hr hw h dL_isDealt_366 ⟨by omega, by omega⟩
  · refine lv_iload hx hb dL_isDealt_291 (lv_at hl 6 rfl) ?_
    refine lv_iload hx hb dL_isDealt_293 (lv_at hl 7 rfl) ?_
    refine zr_icmp_ne (tgt := 365) hF h dL_isDealt_295 (by decide) (fun h => ?_) (fun h => ?_)
    · refine lv_iconst hx hb dL_isDealt_365 rfl ?_
      exact zp_zret hF hr hw h dL_isDealt_366 ⟨by omega, by omega⟩
    · refine lv_iload hx hb dL_isDealt_298 (lv_at hl 5 rfl) ?_
      refine zr_if_ne (tgt := 312) hF h dL_isDealt_300 (by decide) (fun h => ?_) (fun h => ?_)
      · refine lv_iload hx hb dL_isDealt_312 (lv_at hl 0 rfl) ?_
        refine zr_if_eq (tgt := 338) hF h dL_isDealt_314 (by decide) (fun h => ?_) (fun h => ?_)
        · refine lv_iload hx hb dL_isDealt_338 (lv_at hl 9 rfl) ?_
          refine lv_iload hx hb dL_isDealt_340 (lv_at hl 10 rfl) ?_
          refine zr_icmp_ne (tgt := 365) hF h dL_isDealt_342 (by decide) (fun h => ?_) (fun h => ?_)
          · refine lv_iconst hx hb dL_isDealt_365 rfl ?_
            exact zp_zret hF hr hw h dL_isDealt_366 ⟨by omega, by omega⟩
          · refine lv_aload_n hx hb dL_isDealt_345 rfl (lv_at hl 1 rfl) ?_
            refine lv_iload_n hx hb dL_isDealt_346 rfl (lv_at hl 2 rfl) ?_
            refine lv_aload_n hx hb dL_isDealt_347 rfl (lv_at hl 1 rfl) ?_
            refine lv_iload_n hx hb dL_isDealt_348 rfl (lv_at hl 2 rfl) ?_
            refine lv_iconst hx hb dL_isDealt_349 rfl ?_
            obtain ⟨o1, g1, h1, h⟩ := zbn_some h
            refine zw_callVi (n := 2) (As := [z_v x3, z_v 3]) (rest := [z_v x3, z_r N 0 0]) hF hw (czX4_flightIs l hT X N h1) h zEf_0_0 (by decide) zC_0 (z_goodV qw_631 qw_632 qw_633 qw_15 qw_634) (by decide +kernel) ⟨Nat.le_of_ble_eq_true rfl, Nat.le_of_ble_eq_true rfl⟩ rfl hl.1 rfl (Nat.le_of_ble_eq_true rfl) dL_isDealt_350 ⟨by show cells + 2 ≤ 310; omega, by show slots + 12 ≤ 1860; omega⟩ (fun h => h.elim) (fun H locs hw h => ?_)
            clear h1
            generalize g1 = g at *
            generalize o1.2 = r1 at *
            refine W.widen (k := cells + 2) (n := slots + 12) (by show cells + 2 ≤ cells + 2; omega) (by show slots + 12 ≤ slots + 12; omega) ?_
            obtain ⟨o1, g1, h1, h⟩ := zbn_some h
            refine zw_callVi (n := 2) (As := [z_v x3, z_v r1]) (rest := []) hF hw (czX4_penalty l hT X N h1) h zEf_0_0 (by decide) zC_0 (z_goodV qw_693 qw_694 qw_695 qw_15 qw_696) (by decide +kernel) ⟨Nat.le_of_ble_eq_true rfl, Nat.le_of_ble_eq_true rfl⟩ rfl hl.1 rfl (Nat.le_of_ble_eq_true rfl) dL_isDealt_353 ⟨by show cells + 2 + 2 ≤ 310; omega, by show slots + 12 + 12 ≤ 1860; omega⟩ (fun h => h.elim) (fun H locs hw h => ?_)
            clear h1
            generalize g1 = g at *
            generalize o1.2 = r2 at *
            refine W.widen (k := cells + 4) (n := slots + 24) (by show cells + 2 + 2 ≤ cells + 4; omega) (by show slots + 12 + 12 ≤ slots + 24; omega) ?_
            refine lv_iload hx hb dL_isDealt_356 (lv_at hl 5 rfl) ?_
            refine zr_icmp_ne (tgt := 365) hF h dL_isDealt_358 (by decide) (fun h => ?_) (fun h => ?_)
            · refine lv_iconst hx hb dL_isDealt_365 rfl ?_
              exact zp_zret hF hr hw h dL_isDealt_366 ⟨by omega, by omega⟩
            · exact wL_isDealt_j361 hF hT hr hK0 (by omega)  hw (lv_sub hl [] rfl) h
        · refine lv_iload hx hb dL_isDealt_317 (lv_at hl 9 rfl) ?_
          refine lv_iload hx hb dL_isDealt_319 (lv_at hl 3 rfl) ?_
          refine zr_icmp_ne (tgt := 365) hF h dL_isDealt_321 (by decide) (fun h => ?_) (fun h => ?_)
          · refine lv_iconst hx hb dL_isDealt_365 rfl ?_
            exact zp_zret hF hr hw h dL_isDealt_366 ⟨by omega, by omega⟩
          · refine lv_aload_n hx hb dL_isDealt_324 rfl (lv_at hl 1 rfl) ?_
            refine lv_iload_n hx hb dL_isDealt_325 rfl (lv_at hl 2 rfl) ?_
            refine lv_iconst hx hb dL_isDealt_326 rfl ?_
            obtain ⟨o1, g1, h1, h⟩ := zbn_some h
            refine zw_callVi (n := 2) (As := [z_v x3, z_v 3]) (rest := []) hF hw (czX4_flightIs l hT X N h1) h zEf_0_0 (by decide) zC_0 (z_goodV qw_631 qw_632 qw_633 qw_15 qw_634) (by decide +kernel) ⟨Nat.le_of_ble_eq_true rfl, Nat.le_of_ble_eq_true rfl⟩ rfl hl.1 rfl (Nat.le_of_ble_eq_true rfl) dL_isDealt_327 ⟨by show cells + 2 ≤ 310; omega, by show slots + 12 ≤ 1860; omega⟩ (fun h => h.elim) (fun H locs hw h => ?_)
            clear h1
            generalize g1 = g at *
            generalize o1.2 = r3 at *
            refine W.widen (k := cells + 2) (n := slots + 12) (by show cells + 2 ≤ cells + 2; omega) (by show slots + 12 ≤ slots + 12; omega) ?_
            refine lv_iload hx hb dL_isDealt_330 (lv_at hl 4 rfl) ?_
            refine zr_icmp_ne (tgt := 365) hF h dL_isDealt_332 (by decide) (fun h => ?_) (fun h => ?_)
            · refine lv_iconst hx hb dL_isDealt_365 rfl ?_
              exact zp_zret hF hr hw h dL_isDealt_366 ⟨by omega, by omega⟩
            · refine lv_goto (tgt := 361) hx hb dL_isDealt_335 (by decide) ?_
              exact wL_isDealt_j361 hF hT hr hK0 (by omega)  hw (lv_sub hl [] rfl) h
      · refine lv_iload hx hb dL_isDealt_303 (lv_at hl 9 rfl) ?_
        refine lv_iconst hx hb dL_isDealt_305 rfl ?_
        refine zr_icmp_ne (tgt := 365) hF h dL_isDealt_306 (by decide) (fun h => ?_) (fun h => ?_)
        · refine lv_iconst hx hb dL_isDealt_365 rfl ?_
          exact zp_zret hF hr hw h dL_isDealt_366 ⟨by omega, by omega⟩
        · refine lv_goto (tgt := 361) hx hb dL_isDealt_309 (by decide) ?_
          exact wL_isDealt_j361 hF hT hr hK0 (by omega)  hw (lv_sub hl [] rfl) h
set_option maxHeartbeats 4000000 in
set_option maxRecDepth 100000 in
theorem wL_isDealt_j283 {p : Program} {l : Launch} {e : Env} {s : State} {m : MethodId} {args : Array Value} {below : List Frame} {meth : Method} {c : Code} {X : zC} {N : zN} {r : Int} {g' : zG} (hF : zF p s m args meth c X cL_isDealt 14 RL) (hT : l.stackTraces = false) (hr : meth.sig.returnType = (some .boolean)) {n : Nat} {n1 : Nat} {K : Nat → Int → Int → Int → Int → Int → Int → Int → Int → Int → Int → zG → Option (Int × zG)} (hK0 : ∀ (cells slots : Nat) (x2 : Int) (x3 : Int) (x4 : Int) (x5 : Int) (x6 : Int) (x7 : Int) (x8 : Int) (x9 : Int) (x10 : Int) (x11 : Int) (g : zG) (H : Heap) (locs : List Loc) (ls : Array Slot), (cells + 10 * n1 ≤ 310 ∧ slots + 60 * n1 ≤ 1860) → zH X N g s H locs → lv_has ls 14 [(0, z_r N 0 0), (1, z_r N 17 0), (2, z_v x2), (3, z_v x3), (4, z_v x4), (5, z_v x5), (6, z_v x6), (7, z_v x7), (8, z_v x8), (9, z_v x9), (10, z_v x10), (11, z_v x11)] → K 0 x2 x3 x4 x5 x6 x7 x8 x9 x10 x11 g = some (r, g') → W p l e { frames := 8, cells := 310, slots := 1860, locals := 197 } s m args below meth c H locs cells slots (MQ below (zQi X N r g') args s 310 1860 (zA X)) (F0 m 79 ls [])) {cells slots : Nat} (hcs : cells + 4 + 10 * n1 ≤ 310 ∧ slots + 24 + 60 * n1 ≤ 1860) {x3 : Int} {x4 : Int} {x5 : Int} {x6 : Int} {x8 : Int} {x9 : Int} {x10 : Int} {x11 : Int} {x12 : Int} {g : zG} {H : Heap} {locs : List Loc} {ls : Array Slot} (hw : zH X N g s H locs) (hl : lv_has ls 14 [(0, z_r N 0 0), (3, z_v x3), (4, z_v x4), (5, z_v x5), (6, z_v x6), (8, z_v x8), (9, z_v x9), (10, z_v x10), (11, z_v x11), (12, z_v x12)]) (h : sL_isDealt_j283 n K x3 x4 x5 x6 x8 x9 x10 x11 x12 g = some (r, g')) : W p l e { frames := 8, cells := 310, slots := 1860, locals := 197 } s m args below meth c H locs cells slots (MQ below (zQi X N r g') args s 310 1860 (zA X)) (F0 m 283 ls []) := by
  have hx := hF.1.1
  have hb := hF.1.2.1
  unfold sL_isDealt_j283 at h
  refine lv_iconst hx hb dL_isDealt_283 rfl ?_
  exact wL_isDealt_j284 hF hT hr hK0 (by omega)  hw (lv_sub hl [0, 1, 2, 3, 4, 5, 6, 7, 8, 9] rfl) h
set_option maxHeartbeats 4000000 in
set_option maxRecDepth 100000 in
theorem wL_isDealt_j197 {p : Program} {l : Launch} {e : Env} {s : State} {m : MethodId} {args : Array Value} {below : List Frame} {meth : Method} {c : Code} {X : zC} {N : zN} {r : Int} {g' : zG} (hF : zF p s m args meth c X cL_isDealt 14 RL) (hT : l.stackTraces = false) (hr : meth.sig.returnType = (some .boolean)) {n : Nat} {n1 : Nat} {K : Nat → Int → Int → Int → Int → Int → Int → Int → Int → Int → Int → zG → Option (Int × zG)} (hK0 : ∀ (cells slots : Nat) (x2 : Int) (x3 : Int) (x4 : Int) (x5 : Int) (x6 : Int) (x7 : Int) (x8 : Int) (x9 : Int) (x10 : Int) (x11 : Int) (g : zG) (H : Heap) (locs : List Loc) (ls : Array Slot), (cells + 10 * n1 ≤ 310 ∧ slots + 60 * n1 ≤ 1860) → zH X N g s H locs → lv_has ls 14 [(0, z_r N 0 0), (1, z_r N 17 0), (2, z_v x2), (3, z_v x3), (4, z_v x4), (5, z_v x5), (6, z_v x6), (7, z_v x7), (8, z_v x8), (9, z_v x9), (10, z_v x10), (11, z_v x11)] → K 0 x2 x3 x4 x5 x6 x7 x8 x9 x10 x11 g = some (r, g') → W p l e { frames := 8, cells := 310, slots := 1860, locals := 197 } s m args below meth c H locs cells slots (MQ below (zQi X N r g') args s 310 1860 (zA X)) (F0 m 79 ls [])) {cells slots : Nat} (hcs : cells + 8 + 10 * n1 ≤ 310 ∧ slots + 48 + 60 * n1 ≤ 1860) {x2 : Int} {x3 : Int} {x4 : Int} {x5 : Int} {x6 : Int} {x7 : Int} {x8 : Int} {x9 : Int} {x10 : Int} {g : zG} {H : Heap} {locs : List Loc} {ls : Array Slot} (hw : zH X N g s H locs) (hl : lv_has ls 14 [(0, z_r N 0 0), (2, z_v x2), (3, z_v x3), (4, z_v x4), (5, z_v x5), (6, z_v x6), (7, z_v x7), (8, z_v x8), (9, z_v x9), (10, z_v x10)]) (h : sL_isDealt_j197 n K x2 x3 x4 x5 x6 x7 x8 x9 x10 g = some (r, g')) : W p l e { frames := 8, cells := 310, slots := 1860, locals := 197 } s m args below meth c H locs cells slots (MQ below (zQi X N r g') args s 310 1860 (zA X)) (F0 m 197 ls []) := by
  have hx := hF.1.1
  have hb := hF.1.2.1
  unfold sL_isDealt_j197 at h
  refine lv_aload_n hx hb dL_isDealt_197 rfl (lv_at hl 0 rfl) ?_
  refine lv_iload_n hx hb dL_isDealt_198 rfl (lv_at hl 2 rfl) ?_
  refine lv_iconst hx hb dL_isDealt_199 rfl ?_
  obtain ⟨o1, g1, h1, h⟩ := zbn_some h
  refine zw_callVi (n := 2) (As := [z_v x3, z_v 2]) (rest := []) hF hw (czX4_flightIs l hT X N h1) h zEf_0_0 (by decide) zC_0 (z_goodV qw_631 qw_632 qw_633 qw_15 qw_634) (by decide +kernel) ⟨Nat.le_of_ble_eq_true rfl, Nat.le_of_ble_eq_true rfl⟩ rfl hl.1 rfl (Nat.le_of_ble_eq_true rfl) dL_isDealt_200 ⟨by show cells + 2 ≤ 310; omega, by show slots + 12 ≤ 1860; omega⟩ (fun h => h.elim) (fun H locs hw h => ?_)
  clear h1
  generalize g1 = g at *
  generalize o1.2 = r1 at *
  refine W.widen (k := cells + 2) (n := slots + 12) (by show cells + 2 ≤ cells + 2; omega) (by show slots + 12 ≤ slots + 12; omega) ?_
  refine lv_istore (lv' := [(11, z_v r1), (0, z_r N 0 0), (2, z_v x2), (3, z_v x3), (4, z_v x4), (5, z_v x5), (6, z_v x6), (7, z_v x7), (8, z_v x8), (9, z_v x9), (10, z_v x10)]) hx hb dL_isDealt_203 hl (by decide) rfl (fun ls hl => ?_)
  refine lv_iload hx hb dL_isDealt_205 (lv_at hl 7 rfl) ?_
  refine zr_if_ne (tgt := 246) hF h dL_isDealt_207 (by decide) (fun h => ?_) (fun h => ?_)
  · refine lv_aload_n hx hb dL_isDealt_246 rfl (lv_at hl 1 rfl) ?_
    refine lv_iload_n hx hb dL_isDealt_247 rfl (lv_at hl 3 rfl) ?_
    refine lv_iconst hx hb dL_isDealt_248 rfl ?_
    obtain ⟨o1, g1, h1, h⟩ := zbn_some h
    refine zw_callVi (n := 2) (As := [z_v x3, z_v 1]) (rest := []) hF hw (czX4_flightIs l hT X N h1) h zEf_0_0 (by decide) zC_0 (z_goodV qw_631 qw_632 qw_633 qw_15 qw_634) (by decide +kernel) ⟨Nat.le_of_ble_eq_true rfl, Nat.le_of_ble_eq_true rfl⟩ rfl hl.1 rfl (Nat.le_of_ble_eq_true rfl) dL_isDealt_249 ⟨by show cells + 2 + 2 ≤ 310; omega, by show slots + 12 + 12 ≤ 1860; omega⟩ (fun h => h.elim) (fun H locs hw h => ?_)
    clear h1
    generalize g1 = g at *
    generalize o1.2 = r2 at *
    refine W.widen (k := cells + 4) (n := slots + 24) (by show cells + 2 + 2 ≤ cells + 4; omega) (by show slots + 12 + 12 ≤ slots + 24; omega) ?_
    refine lv_iload hx hb dL_isDealt_252 (lv_at hl 6 rfl) ?_
    refine zr_iadd hF dL_isDealt_254 ?_
    refine zr_let h (fun v3 h => ?_)
    refine lv_istore (lv' := [(12, z_v v3), (11, z_v r1), (0, z_r N 0 0), (2, z_v x2), (3, z_v x3), (4, z_v x4), (5, z_v x5), (6, z_v x6), (7, z_v x7), (8, z_v x8), (9, z_v x9), (10, z_v x10)]) hx hb dL_isDealt_255 hl (by decide) rfl (fun ls hl => ?_)
    refine lv_iload hx hb dL_isDealt_257 (lv_at hl 7 rfl) ?_
    refine zr_if_le (tgt := 283) hF h dL_isDealt_259 (by decide) (fun h => ?_) (fun h => ?_)
    · exact wL_isDealt_j283 hF hT hr hK0 (by omega)  hw (lv_sub hl [2, 4, 5, 6, 7, 9, 10, 11, 1, 0] rfl) h
    · refine lv_iload_n hx hb dL_isDealt_262 rfl (lv_at hl 3 rfl) ?_
      refine zr_if_ne (tgt := 283) hF h dL_isDealt_263 (by decide) (fun h => ?_) (fun h => ?_)
      · exact wL_isDealt_j283 hF hT hr hK0 (by omega)  hw (lv_sub hl [2, 4, 5, 6, 7, 9, 10, 11, 1, 0] rfl) h
      · refine lv_iload hx hb dL_isDealt_266 (lv_at hl 5 rfl) ?_
        refine lv_iconst hx hb dL_isDealt_268 rfl ?_
        refine zr_icmp_eq (tgt := 283) hF h dL_isDealt_269 (by decide) (fun h => ?_) (fun h => ?_)
        · exact wL_isDealt_j283 hF hT hr hK0 (by omega)  hw (lv_sub hl [2, 4, 5, 6, 7, 9, 10, 11, 1, 0] rfl) h
        · refine lv_iload hx hb dL_isDealt_272 (lv_at hl 5 rfl) ?_
          refine lv_iload hx hb dL_isDealt_274 (lv_at hl 0 rfl) ?_
          refine zr_icmp_ge (tgt := 283) hF h dL_isDealt_276 (by decide) (fun h => ?_) (fun h => ?_)
          · exact wL_isDealt_j283 hF hT hr hK0 (by omega)  hw (lv_sub hl [2, 4, 5, 6, 7, 9, 10, 11, 1, 0] rfl) h
          · refine lv_iconst hx hb dL_isDealt_279 rfl ?_
            refine lv_goto (tgt := 284) hx hb dL_isDealt_280 (by decide) ?_
            exact wL_isDealt_j284 hF hT hr hK0 (by omega)  hw (lv_sub hl [2, 4, 5, 6, 7, 9, 10, 11, 1, 0] rfl) h
  · refine lv_iload hx hb dL_isDealt_210 (lv_at hl 10 rfl) ?_
    refine zr_if_eq (tgt := 244) hF h dL_isDealt_212 (by decide) (fun h => ?_) (fun h => ?_)
    · refine lv_iconst hx hb dL_isDealt_244 rfl ?_
      exact zp_zret hF hr hw h dL_isDealt_245 ⟨by omega, by omega⟩
    · refine lv_iload hx hb dL_isDealt_215 (lv_at hl 8 rfl) ?_
      refine lv_iload hx hb dL_isDealt_217 (lv_at hl 9 rfl) ?_
      refine zr_icmp_ne (tgt := 244) hF h dL_isDealt_219 (by decide) (fun h => ?_) (fun h => ?_)
      · refine lv_iconst hx hb dL_isDealt_244 rfl ?_
        exact zp_zret hF hr hw h dL_isDealt_245 ⟨by omega, by omega⟩
      · refine lv_iload hx hb dL_isDealt_222 (lv_at hl 0 rfl) ?_
        refine lv_iload hx hb dL_isDealt_224 (lv_at hl 4 rfl) ?_
        refine zr_icmp_ne (tgt := 244) hF h dL_isDealt_226 (by decide) (fun h => ?_) (fun h => ?_)
        · refine lv_iconst hx hb dL_isDealt_244 rfl ?_
          exact zp_zret hF hr hw h dL_isDealt_245 ⟨by omega, by omega⟩
        · refine lv_aload_n hx hb dL_isDealt_229 rfl (lv_at hl 1 rfl) ?_
          refine lv_iload_n hx hb dL_isDealt_230 rfl (lv_at hl 3 rfl) ?_
          refine lv_iconst hx hb dL_isDealt_231 rfl ?_
          obtain ⟨o1, g1, h1, h⟩ := zbn_some h
          refine zw_callVi (n := 2) (As := [z_v x3, z_v 3]) (rest := []) hF hw (czX4_flightIs l hT X N h1) h zEf_0_0 (by decide) zC_0 (z_goodV qw_631 qw_632 qw_633 qw_15 qw_634) (by decide +kernel) ⟨Nat.le_of_ble_eq_true rfl, Nat.le_of_ble_eq_true rfl⟩ rfl hl.1 rfl (Nat.le_of_ble_eq_true rfl) dL_isDealt_232 ⟨by show cells + 2 + 2 ≤ 310; omega, by show slots + 12 + 12 ≤ 1860; omega⟩ (fun h => h.elim) (fun H locs hw h => ?_)
          clear h1
          generalize g1 = g at *
          generalize o1.2 = r4 at *
          refine W.widen (k := cells + 4) (n := slots + 24) (by show cells + 2 + 2 ≤ cells + 4; omega) (by show slots + 12 + 12 ≤ slots + 24; omega) ?_
          refine lv_iload hx hb dL_isDealt_235 (lv_at hl 5 rfl) ?_
          refine zr_icmp_ne (tgt := 244) hF h dL_isDealt_237 (by decide) (fun h => ?_) (fun h => ?_)
          · refine lv_iconst hx hb dL_isDealt_244 rfl ?_
            exact zp_zret hF hr hw h dL_isDealt_245 ⟨by omega, by omega⟩
          · refine lv_iconst hx hb dL_isDealt_240 rfl ?_
            refine lv_goto (tgt := 245) hx hb dL_isDealt_241 (by decide) ?_
            exact zp_zret hF hr hw h dL_isDealt_245 ⟨by omega, by omega⟩
set_option maxHeartbeats 4000000 in
set_option maxRecDepth 100000 in
theorem wL_isDealt_h79 {p : Program} {l : Launch} {e : Env} {s : State} {m : MethodId} {args : Array Value} {below : List Frame} {meth : Method} {c : Code} {X : zC} {N : zN} {r : Int} {g' : zG} (hF : zF p s m args meth c X cL_isDealt 14 RL) (hT : l.stackTraces = false) (hr : meth.sig.returnType = (some .boolean)) {n : Nat} {n1 : Nat} {K : Nat → Int → Int → Int → Int → Int → Int → Int → Int → Int → Int → zG → Option (Int × zG)} (hK0 : ∀ (cells slots : Nat) (x2 : Int) (x3 : Int) (x4 : Int) (x5 : Int) (x6 : Int) (x7 : Int) (x8 : Int) (x9 : Int) (x10 : Int) (x11 : Int) (g : zG) (H : Heap) (locs : List Loc) (ls : Array Slot), (cells + 10 * n1 ≤ 310 ∧ slots + 60 * n1 ≤ 1860) → zH X N g s H locs → lv_has ls 14 [(0, z_r N 0 0), (1, z_r N 17 0), (2, z_v x2), (3, z_v x3), (4, z_v x4), (5, z_v x5), (6, z_v x6), (7, z_v x7), (8, z_v x8), (9, z_v x9), (10, z_v x10), (11, z_v x11)] → K 0 x2 x3 x4 x5 x6 x7 x8 x9 x10 x11 g = some (r, g') → W p l e { frames := 8, cells := 310, slots := 1860, locals := 197 } s m args below meth c H locs cells slots (MQ below (zQi X N r g') args s 310 1860 (zA X)) (F0 m 79 ls [])) {cells slots : Nat} (hcs : cells + 10 + 10 * n1 ≤ 310 ∧ slots + 60 + 60 * n1 ≤ 1860) {x2 : Int} {x3 : Int} {x4 : Int} {x5 : Int} {x6 : Int} {x7 : Int} {x8 : Int} {x9 : Int} {x10 : Int} {x11 : Int} {g : zG} {H : Heap} {locs : List Loc} {ls : Array Slot} (hw : zH X N g s H locs) (hl : lv_has ls 14 [(0, z_r N 0 0), (1, z_r N 17 0), (2, z_v x2), (3, z_v x3), (4, z_v x4), (5, z_v x5), (6, z_v x6), (7, z_v x7), (8, z_v x8), (9, z_v x9), (10, z_v x10), (11, z_v x11)]) (h : sL_isDealt_h79 n K x2 x3 x4 x5 x6 x7 x8 x9 x10 x11 g = some (r, g')) : W p l e { frames := 8, cells := 310, slots := 1860, locals := 197 } s m args below meth c H locs cells slots (MQ below (zQi X N r g') args s 310 1860 (zA X)) (F0 m 79 ls []) := by
  have hx := hF.1.1
  have hb := hF.1.2.1
  unfold sL_isDealt_h79 at h
  refine lv_iload hx hb dL_isDealt_79 (lv_at hl 11 rfl) ?_
  refine lv_aload_n hx hb dL_isDealt_81 rfl (lv_at hl 1 rfl) ?_
  refine lv_iconst hx hb dL_isDealt_82 rfl ?_
  refine zr_iald hF hw zEf_17_0 (by decide) h dL_isDealt_83 (fun h => ?_)
  refine zr_icmp_ge (tgt := 197) hF h dL_isDealt_84 (by decide) (fun h => ?_) (fun h => ?_)
  · exact wL_isDealt_j197 hF hT hr hK0 (by omega)  hw (lv_sub hl [0, 2, 3, 4, 5, 6, 7, 8, 9, 10] rfl) h
  · refine lv_iload hx hb dL_isDealt_87 (lv_at hl 10 rfl) ?_
    refine zr_if_eq (tgt := 197) hF h dL_isDealt_89 (by decide) (fun h => ?_) (fun h => ?_)
    · exact wL_isDealt_j197 hF hT hr hK0 (by omega)  hw (lv_sub hl [0, 2, 3, 4, 5, 6, 7, 8, 9, 10] rfl) h
    · refine lv_aload_n hx hb dL_isDealt_92 rfl (lv_at hl 0 rfl) ?_
      refine lv_iload hx hb dL_isDealt_93 (lv_at hl 11 rfl) ?_
      refine lv_iconst hx hb dL_isDealt_95 rfl ?_
      obtain ⟨o1, g1, h1, h⟩ := zbn_some h
      refine zw_callVi (n := 2) (As := [z_v x11, z_v 2]) (rest := []) hF hw (czX4_flightIs l hT X N h1) h zEf_0_0 (by decide) zC_0 (z_goodV qw_631 qw_632 qw_633 qw_15 qw_634) (by decide +kernel) ⟨Nat.le_of_ble_eq_true rfl, Nat.le_of_ble_eq_true rfl⟩ rfl hl.1 rfl (Nat.le_of_ble_eq_true rfl) dL_isDealt_96 ⟨by show cells + 2 ≤ 310; omega, by show slots + 12 ≤ 1860; omega⟩ (fun h => h.elim) (fun H locs hw h => ?_)
      clear h1
      generalize g1 = g at *
      generalize o1.2 = r1 at *
      refine W.widen (k := cells + 2) (n := slots + 12) (by show cells + 2 ≤ cells + 2; omega) (by show slots + 12 ≤ slots + 12; omega) ?_
      refine lv_istore (lv' := [(12, z_v r1), (0, z_r N 0 0), (1, z_r N 17 0), (2, z_v x2), (3, z_v x3), (4, z_v x4), (5, z_v x5), (6, z_v x6), (7, z_v x7), (8, z_v x8), (9, z_v x9), (10, z_v x10), (11, z_v x11)]) hx hb dL_isDealt_99 hl (by decide) rfl (fun ls hl => ?_)
      refine lv_iload hx hb dL_isDealt_101 (lv_at hl 10 rfl) ?_
      refine lv_aload_n hx hb dL_isDealt_103 rfl (lv_at hl 1 rfl) ?_
      refine lv_iload hx hb dL_isDealt_104 (lv_at hl 12 rfl) ?_
      refine lv_iconst hx hb dL_isDealt_106 rfl ?_
      obtain ⟨o1, g1, h1, h⟩ := zbn_some h
      refine zw_callVi (n := 2) (As := [z_v x11, z_v 0]) (rest := [z_v x9]) hF hw (czX4_flightIs l hT X N h1) h zEf_0_0 (by decide) zC_0 (z_goodV qw_631 qw_632 qw_633 qw_15 qw_634) (by decide +kernel) ⟨Nat.le_of_ble_eq_true rfl, Nat.le_of_ble_eq_true rfl⟩ rfl hl.1 rfl (Nat.le_of_ble_eq_true rfl) dL_isDealt_107 ⟨by show cells + 2 + 2 ≤ 310; omega, by show slots + 12 + 12 ≤ 1860; omega⟩ (fun h => h.elim) (fun H locs hw h => ?_)
      clear h1
      generalize g1 = g at *
      generalize o1.2 = r2 at *
      refine W.widen (k := cells + 4) (n := slots + 24) (by show cells + 2 + 2 ≤ cells + 4; omega) (by show slots + 12 + 12 ≤ slots + 24; omega) ?_
      refine zr_if_ne (tgt := 132) hF h dL_isDealt_110 (by decide) (fun h => ?_) (fun h => ?_)
      · exact wL_isDealt_j132 hF hT hr hK0 (by omega)  hw (lv_sub hl [1, 2, 3, 4, 5, 6, 7, 8, 9, 12, 0] rfl) h
      · refine lv_iload hx hb dL_isDealt_113 (lv_at hl 0 rfl) ?_
        refine lv_iconst hx hb dL_isDealt_115 rfl ?_
        refine zr_icmp_eq (tgt := 132) hF h dL_isDealt_116 (by decide) (fun h => ?_) (fun h => ?_)
        · exact wL_isDealt_j132 hF hT hr hK0 (by omega)  hw (lv_sub hl [1, 2, 3, 4, 5, 6, 7, 8, 9, 12, 0] rfl) h
        · refine lv_iload hx hb dL_isDealt_119 (lv_at hl 0 rfl) ?_
          refine lv_aload_n hx hb dL_isDealt_121 rfl (lv_at hl 1 rfl) ?_
          refine lv_iload hx hb dL_isDealt_122 (lv_at hl 12 rfl) ?_
          refine lv_iconst hx hb dL_isDealt_124 rfl ?_
          obtain ⟨o1, g1, h1, h⟩ := zbn_some h
          refine zw_callVi (n := 2) (As := [z_v x11, z_v 1]) (rest := [z_v r1, z_v x9]) hF hw (czX4_flightIs l hT X N h1) h zEf_0_0 (by decide) zC_0 (z_goodV qw_631 qw_632 qw_633 qw_15 qw_634) (by decide +kernel) ⟨Nat.le_of_ble_eq_true rfl, Nat.le_of_ble_eq_true rfl⟩ rfl hl.1 rfl (Nat.le_of_ble_eq_true rfl) dL_isDealt_125 ⟨by show cells + 4 + 2 ≤ 310; omega, by show slots + 24 + 12 ≤ 1860; omega⟩ (fun h => h.elim) (fun H locs hw h => ?_)
          clear h1
          generalize g1 = g at *
          generalize o1.2 = r3 at *
          refine W.widen (k := cells + 6) (n := slots + 36) (by show cells + 4 + 2 ≤ cells + 6; omega) (by show slots + 24 + 12 ≤ slots + 36; omega) ?_
          refine zr_isub hF dL_isDealt_128 ?_
          refine lv_goto (tgt := 133) hx hb dL_isDealt_129 (by decide) ?_
          exact wL_isDealt_j133 hF hT hr hK0 (by omega)  hw (lv_sub hl [1, 2, 3, 4, 5, 6, 7, 8, 9, 12, 0] rfl) h
set_option maxHeartbeats 4000000 in
set_option maxRecDepth 100000 in
theorem wL_isDealt_run {p : Program} {l : Launch} {e : Env} {s : State} {m : MethodId} {args : Array Value} {below : List Frame} {meth : Method} {c : Code} {X : zC} {N : zN} {r : Int} {g' : zG} (hF : zF p s m args meth c X cL_isDealt 14 RL) (hT : l.stackTraces = false) (hr : meth.sig.returnType = (some .boolean)) {n0 : Nat} : ∀ n : Nat, (∀ (cells slots : Nat) (x2 : Int) (x3 : Int) (x4 : Int) (x5 : Int) (x6 : Int) (x7 : Int) (x8 : Int) (x9 : Int) (x10 : Int) (x11 : Int) (g : zG) (H : Heap) (locs : List Loc) (ls : Array Slot), (cells + 10 * n ≤ 310 ∧ slots + 60 * n ≤ 1860) → zH X N g s H locs → lv_has ls 14 [(0, z_r N 0 0), (1, z_r N 17 0), (2, z_v x2), (3, z_v x3), (4, z_v x4), (5, z_v x5), (6, z_v x6), (7, z_v x7), (8, z_v x8), (9, z_v x9), (10, z_v x10), (11, z_v x11)] → sL_isDealt_run n0 n 0 x2 x3 x4 x5 x6 x7 x8 x9 x10 x11 g = some (r, g') → W p l e { frames := 8, cells := 310, slots := 1860, locals := 197 } s m args below meth c H locs cells slots (MQ below (zQi X N r g') args s 310 1860 (zA X)) (F0 m 79 ls [])) := by
  intro n
  induction n with
  | zero => exact fun _ _ _ _ _ _ _ _ _ _ _ _ _ _ _ _ _ _ _  h => (by cases h)
  | succ n ih => exact fun cells slots x2 x3 x4 x5 x6 x7 x8 x9 x10 x11 g H locs ls hcs  hw hl h => wL_isDealt_h79 hF hT hr ih (by omega)  hw hl h
set_option maxHeartbeats 4000000 in
set_option maxRecDepth 100000 in
theorem czL_isDealt (l : Launch) (hT : l.stackTraces = false) (X : zC) (N : zN) {n : Nat} {x2 : Int} {x3 : Int} {g g' : zG} {r : Int} (h : sL_isDealt n x2 x3 g = some (r, g')) : zMC l yL_isDealt cL_isDealt 14 (some .boolean) { frames := 8, cells := 310, slots := 1860, locals := 197 } X N g [z_r N 0 0, z_r N 17 0, z_v x2, z_v x3] (zQi X N r g') := by
  refine z_cofW (own := RL) (by decide +kernel) rfl (Nat.le_of_ble_eq_true rfl) ?_
  intro p e s m args below meth c ls hF hr hw hl
  have hl : lv_has ls 14 [(0, z_r N 0 0), (1, z_r N 17 0), (2, z_v x2), (3, z_v x3)] := hl
  have hx := hF.1.1
  have hb := hF.1.2.1
  generalize s.heap = H at hw ⊢
  generalize ([] : List Loc) = locs at hw ⊢
  have key : ∀ cells slots : Nat, cells + 310 ≤ 310 → slots + 1860 ≤ 1860 → W p l e { frames := 8, cells := 310, slots := 1860, locals := 197 } s m args below meth c H locs cells slots (MQ below (zQi X N r g') args s 310 1860 (zA X)) (F0 m 0 ls []) := by
    intro cells slots hc1 hc2
    have hKK := wL_isDealt_run hF hT hr (g' := g') (X := X) (N := N) (n0 := n) (e := e) (below := below) (r := r) 30
    have hK0 := hKK
    unfold sL_isDealt at h
    refine lv_aload_n hx hb dL_isDealt_0 rfl (lv_at hl 0 rfl) ?_
    refine lv_iload_n hx hb dL_isDealt_1 rfl (lv_at hl 3 rfl) ?_
    refine lv_iconst hx hb dL_isDealt_2 rfl ?_
    obtain ⟨o1, g1, h1, h⟩ := zbn_some h
    refine zw_callVi (n := 2) (As := [z_v x3, z_v 2]) (rest := []) hF hw (czX4_flightIs l hT X N h1) h zEf_0_0 (by decide) zC_0 (z_goodV qw_631 qw_632 qw_633 qw_15 qw_634) (by decide +kernel) ⟨Nat.le_of_ble_eq_true rfl, Nat.le_of_ble_eq_true rfl⟩ rfl hl.1 rfl (Nat.le_of_ble_eq_true rfl) dL_isDealt_3 ⟨by show cells + 2 ≤ 310; omega, by show slots + 12 ≤ 1860; omega⟩ (fun h => h.elim) (fun H locs hw h => ?_)
    clear h1
    generalize g1 = g at *
    generalize o1.2 = r1 at *
    refine W.widen (k := cells + 2) (n := slots + 12) (by show cells + 2 ≤ cells + 2; omega) (by show slots + 12 ≤ slots + 12; omega) ?_
    refine lv_istore (lv' := [(4, z_v r1), (0, z_r N 0 0), (1, z_r N 17 0), (2, z_v x2), (3, z_v x3)]) hx hb dL_isDealt_6 hl (by decide) rfl (fun ls hl => ?_)
    refine lv_aload_n hx hb dL_isDealt_8 rfl (lv_at hl 1 rfl) ?_
    refine lv_iload_n hx hb dL_isDealt_9 rfl (lv_at hl 4 rfl) ?_
    refine lv_iconst hx hb dL_isDealt_10 rfl ?_
    obtain ⟨o1, g1, h1, h⟩ := zbn_some h
    refine zw_callVi (n := 2) (As := [z_v x3, z_v 3]) (rest := []) hF hw (czX4_flightIs l hT X N h1) h zEf_0_0 (by decide) zC_0 (z_goodV qw_631 qw_632 qw_633 qw_15 qw_634) (by decide +kernel) ⟨Nat.le_of_ble_eq_true rfl, Nat.le_of_ble_eq_true rfl⟩ rfl hl.1 rfl (Nat.le_of_ble_eq_true rfl) dL_isDealt_11 ⟨by show cells + 2 + 2 ≤ 310; omega, by show slots + 12 + 12 ≤ 1860; omega⟩ (fun h => h.elim) (fun H locs hw h => ?_)
    clear h1
    generalize g1 = g at *
    generalize o1.2 = r2 at *
    refine W.widen (k := cells + 4) (n := slots + 24) (by show cells + 2 + 2 ≤ cells + 4; omega) (by show slots + 12 + 12 ≤ slots + 24; omega) ?_
    refine lv_istore (lv' := [(5, z_v r2), (4, z_v r1), (0, z_r N 0 0), (1, z_r N 17 0), (2, z_v x2), (3, z_v x3)]) hx hb dL_isDealt_14 hl (by decide) rfl (fun ls hl => ?_)
    refine lv_aload_n hx hb dL_isDealt_16 rfl (lv_at hl 2 rfl) ?_
    refine lv_iload_n hx hb dL_isDealt_17 rfl (lv_at hl 5 rfl) ?_
    obtain ⟨o1, g1, h1, h⟩ := zbn_some h
    refine zw_callVi (n := 1) (As := [z_v x3]) (rest := []) hF hw (czX4_due l hT X N h1) h zEf_0_0 (by decide) zC_0 (z_goodV qw_636 qw_637 qw_638 qw_15 qw_639) (by decide +kernel) ⟨Nat.le_of_ble_eq_true rfl, Nat.le_of_ble_eq_true rfl⟩ rfl hl.1 rfl (Nat.le_of_ble_eq_true rfl) dL_isDealt_18 ⟨by show cells + 4 + 1 ≤ 310; omega, by show slots + 24 + 6 ≤ 1860; omega⟩ (fun h => h.elim) (fun H locs hw h => ?_)
    clear h1
    generalize g1 = g at *
    generalize o1.2 = r3 at *
    refine W.widen (k := cells + 5) (n := slots + 30) (by show cells + 4 + 1 ≤ cells + 5; omega) (by show slots + 24 + 6 ≤ slots + 30; omega) ?_
    refine lv_istore (lv' := [(6, z_v r3), (5, z_v r2), (4, z_v r1), (0, z_r N 0 0), (1, z_r N 17 0), (2, z_v x2), (3, z_v x3)]) hx hb dL_isDealt_21 hl (by decide) rfl (fun ls hl => ?_)
    refine lv_aload_n hx hb dL_isDealt_23 rfl (lv_at hl 3 rfl) ?_
    refine lv_iload_n hx hb dL_isDealt_24 rfl (lv_at hl 6 rfl) ?_
    refine lv_iconst hx hb dL_isDealt_25 rfl ?_
    obtain ⟨o1, g1, h1, h⟩ := zbn_some h
    refine zw_callVi (n := 2) (As := [z_v x3, z_v 0]) (rest := []) hF hw (czX4_flightIs l hT X N h1) h zEf_0_0 (by decide) zC_0 (z_goodV qw_631 qw_632 qw_633 qw_15 qw_634) (by decide +kernel) ⟨Nat.le_of_ble_eq_true rfl, Nat.le_of_ble_eq_true rfl⟩ rfl hl.1 rfl (Nat.le_of_ble_eq_true rfl) dL_isDealt_26 ⟨by show cells + 5 + 2 ≤ 310; omega, by show slots + 30 + 12 ≤ 1860; omega⟩ (fun h => h.elim) (fun H locs hw h => ?_)
    clear h1
    generalize g1 = g at *
    generalize o1.2 = r4 at *
    refine W.widen (k := cells + 7) (n := slots + 42) (by show cells + 5 + 2 ≤ cells + 7; omega) (by show slots + 30 + 12 ≤ slots + 42; omega) ?_
    refine zr_if_ne (tgt := 46) hF h dL_isDealt_29 (by decide) (fun h => ?_) (fun h => ?_)
    · exact wL_isDealt_j46 hF hT hr hK0 (by omega)  hw (lv_sub hl [3, 4, 5, 6, 2, 1, 0] rfl) h
    · refine lv_aload_n hx hb dL_isDealt_32 rfl (lv_at hl 3 rfl) ?_
      refine lv_iload_n hx hb dL_isDealt_33 rfl (lv_at hl 6 rfl) ?_
      refine lv_bipush (v := Int32.ofInt (7)) hx hb dL_isDealt_34 (by decide) ?_
      obtain ⟨o1, g1, h1, h⟩ := zbn_some h
      refine zw_callVi (n := 2) (As := [z_v x3, z_v 7]) (rest := []) hF hw (czX4_flightIs l hT X N h1) h zEf_0_0 (by decide) zC_0 (z_goodV qw_631 qw_632 qw_633 qw_15 qw_634) (by decide +kernel) ⟨Nat.le_of_ble_eq_true rfl, Nat.le_of_ble_eq_true rfl⟩ rfl hl.1 rfl (Nat.le_of_ble_eq_true rfl) dL_isDealt_36 ⟨by show cells + 7 + 2 ≤ 310; omega, by show slots + 42 + 12 ≤ 1860; omega⟩ (fun h => h.elim) (fun H locs hw h => ?_)
      clear h1
      generalize g1 = g at *
      generalize o1.2 = r5 at *
      refine W.widen (k := cells + 9) (n := slots + 54) (by show cells + 7 + 2 ≤ cells + 9; omega) (by show slots + 42 + 12 ≤ slots + 54; omega) ?_
      refine zr_if_ne (tgt := 46) hF h dL_isDealt_39 (by decide) (fun h => ?_) (fun h => ?_)
      · exact wL_isDealt_j46 hF hT hr hK0 (by omega)  hw (lv_sub hl [3, 4, 5, 6, 2, 1, 0] rfl) h
      · refine lv_iconst hx hb dL_isDealt_42 rfl ?_
        refine lv_goto (tgt := 47) hx hb dL_isDealt_43 (by decide) ?_
        exact wL_isDealt_j47 hF hT hr hK0 (by omega)  hw (lv_sub hl [3, 4, 5, 6, 2, 1, 0] rfl) h
  exact key 0 0 (by omega) (by omega)


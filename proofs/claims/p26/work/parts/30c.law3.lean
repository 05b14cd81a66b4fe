/-! the law's methods: the day -/
def sL_isDay_j222 (n : Nat) (K : Nat → Int → Int → Int → Int → Int → zG → Option (Int × zG)) (g : zG) : Option (Int × zG) := zbo 1 (some (1, g))
def sL_isDay_j214 (n : Nat) (K : Nat → Int → Int → Int → Int → Int → zG → Option (Int × zG)) (x2 : Int) (g : zG) : Option (Int × zG) := zbn (sX4_due n x2 g) (fun r1 g => zeq r1 0 ((sL_isDay_j222 n K g)) (zbo 0 (some (0, g))))
def sL_isDay_h5 (n : Nat) (K : Nat → Int → Int → Int → Int → Int → zG → Option (Int × zG)) (x2 : Int) (x3 : Int) (x4 : Int) (x5 : Int) (x6 : Int) (g : zG) : Option (Int × zG) := zix 1 3 (zlt x4 (g 17 0 (1 : Int).toNat) (zbn (sX4_regulationIs n x4 6 g) (fun r1 g => zlet (x3 + r1) (fun v2 => zbn (sX4_regulationIs n x4 1 g) (fun r3 g => zbn (sX4_regulationIs n x4 0 g) (fun r4 g => zlet (r4 - r3) (fun v5 => zlt r3 0 (zbo 0 (some (0, g))) (zbn (sX4_regulationIs n x4 2 g) (fun r6 g => zbn (sX4_regulationIs n x4 3 g) (fun r7 g => zbn (sX4_regulationIs n x4 4 g) (fun r8 g => zle v5 ((r6 + r7) - r8) (zbn (sX4_regulationIs n x4 3 g) (fun r9 g => zbn (sX4_regulationIs n x4 4 g) (fun r10 g => zlt v5 (r9 - r10) (zbo 0 (some (0, g))) (zlet (x4 + 1) (fun v11 => (K 0 x2 v2 v11 0 0 g)))))) (zbo 0 (some (0, g))))))))))))) ((K 1 x2 x3 0 0 0 g)))
def sL_isDay_h115 (n : Nat) (K : Nat → Int → Int → Int → Int → Int → zG → Option (Int × zG)) (x2 : Int) (x3 : Int) (x4 : Int) (x5 : Int) (x6 : Int) (g : zG) : Option (Int × zG) := zlt x6 4 (zbn (sX4_companyIs n x6 0 g) (fun r7 g => zlet (x4 + r7) (fun v8 => zbn (sX4_companyIs n x6 2 g) (fun r9 g => zbn (sX4_companyIs n x6 1 g) (fun r10 g => zlet (x5 + (r9 - r10)) (fun v11 => zlet (x6 + 1) (fun v12 => (K 1 x2 x3 v8 v11 v12 g)))))))) (zeq x3 x4 (zlt x5 0 (zbo 0 (some (0, g))) (zbn (sX4_due n x2 g) (fun r1 g => zbn (sX4_dueAnew n x2 g) (fun r2 g => zeq r1 r2 (zbn (sX4_due n x2 g) (fun r3 g => zbd (sX4_allDue n g) (fun r4 g => zle r3 r4 (zbn (sX4_flightIs x2 0 g) (fun r5 g => zeq r5 0 (zbn (sX4_flightIs x2 7 g) (fun r6 g => zeq r6 0 ((sL_isDay_j222 n K g)) ((sL_isDay_j214 n K x2 g)))) ((sL_isDay_j214 n K x2 g)))) (zbo 0 (some (0, g)))))) (zbo 0 (some (0, g))))))) (zbo 0 (some (0, g))))
def sL_isDay_run (n0 : Nat) : Nat → Nat → Int → Int → Int → Int → Int → zG → Option (Int × zG)
  | 0, _, _, _, _, _, _, _ => none
  | n + 1, 0, x2, x3, x4, x5, x6, g => sL_isDay_h5 n0 (sL_isDay_run n0 n) x2 x3 x4 x5 x6 g
  | n + 1, 1, x2, x3, x4, x5, x6, g => sL_isDay_h115 n0 (sL_isDay_run n0 n) x2 x3 x4 x5 x6 g
  | _ + 1, _, _, _, _, _, _, _ => none
def sL_isDay (n : Nat) (x2 : Int) (g : zG) : Option (Int × zG) := (sL_isDay_run n 30 0 x2 0 0 0 0 g)
set_option maxHeartbeats 4000000 in
set_option maxRecDepth 100000 in
theorem wL_isDay_j222 {p : Program} {l : Launch} {e : Env} {s : State} {m : MethodId} {args : Array Value} {below : List Frame} {meth : Method} {c : Code} {X : zC} {N : zN} {r : Int} {g' : zG} (hF : zF p s m args meth c X cL_isDay 7 RL) (hT : l.stackTraces = false) (hr : meth.sig.returnType = (some .boolean)) {n : Nat} {n1 : Nat} {K : Nat → Int → Int → Int → Int → Int → zG → Option (Int × zG)} (hK0 : ∀ (cells slots : Nat) (x2 : Int) (x3 : Int) (x4 : Int) (x5 : Int) (x6 : Int) (g : zG) (H : Heap) (locs : List Loc) (ls : Array Slot), (cells + 16 * n1 ≤ 480 ∧ slots + 96 * n1 ≤ 2880) → zH X N g s H locs → lv_has ls 7 [(0, z_r N 0 0), (1, z_r N 17 0), (2, z_v x2), (3, z_v x3), (4, z_v x4)] → K 0 x2 x3 x4 x5 x6 g = some (r, g') → W p l e { frames := 8, cells := 480, slots := 2880, locals := 195 } s m args below meth c H locs cells slots (MQ below (zQi X N r g') args s 480 2880 (zA X)) (F0 m 5 ls [])) (hK1 : ∀ (cells slots : Nat) (x2 : Int) (x3 : Int) (x4 : Int) (x5 : Int) (x6 : Int) (g : zG) (H : Heap) (locs : List Loc) (ls : Array Slot), (cells + 16 * n1 ≤ 480 ∧ slots + 96 * n1 ≤ 2880) → zH X N g s H locs → lv_has ls 7 [(0, z_r N 0 0), (2, z_v x2), (3, z_v x3), (4, z_v x4), (5, z_v x5), (6, z_v x6)] → K 1 x2 x3 x4 x5 x6 g = some (r, g') → W p l e { frames := 8, cells := 480, slots := 2880, locals := 195 } s m args below meth c H locs cells slots (MQ below (zQi X N r g') args s 480 2880 (zA X)) (F0 m 115 ls [])) {cells slots : Nat} (hcs : cells + 0 + 16 * n1 ≤ 480 ∧ slots + 0 + 96 * n1 ≤ 2880) {g : zG} {H : Heap} {locs : List Loc} {ls : Array Slot} (hw : zH X N g s H locs) (hl : lv_has ls 7 []) (h : sL_isDay_j222 n K g = some (r, g')) : W p l e { frames := 8, cells := 480, slots := 2880, locals := 195 } s m args below meth c H locs cells slots (MQ below (zQi X N r g') args s 480 2880 (zA X)) (F0 m 222 ls []) := by
  have hx := hF.1.1
  have hb := hF.1.2.1
  unfold sL_isDay_j222 at h
  refine lv_iconst hx hb dL_isDay_222 rfl ?_
  refine lv_goto (tgt := 227) hx hb dL_isDay_223 (by decide) ?_
  exact zp_zret hF hr hw h dL_isDay_227 ⟨by omega, by omega⟩
set_option maxHeartbeats 4000000 in
set_option maxRecDepth 100000 in
theorem wL_isDay_j214 {p : Program} {l : Launch} {e : Env} {s : State} {m : MethodId} {args : Array Value} {below : List Frame} {meth : Method} {c : Code} {X : zC} {N : zN} {r : Int} {g' : zG} (hF : zF p s m args meth c X cL_isDay 7 RL) (hT : l.stackTraces = false) (hr : meth.sig.returnType = (some .boolean)) {n : Nat} {n1 : Nat} {K : Nat → Int → Int → Int → Int → Int → zG → Option (Int × zG)} (hK0 : ∀ (cells slots : Nat) (x2 : Int) (x3 : Int) (x4 : Int) (x5 : Int) (x6 : Int) (g : zG) (H : Heap) (locs : List Loc) (ls : Array Slot), (cells + 16 * n1 ≤ 480 ∧ slots + 96 * n1 ≤ 2880) → zH X N g s H locs → lv_has ls 7 [(0, z_r N 0 0), (1, z_r N 17 0), (2, z_v x2), (3, z_v x3), (4, z_v x4)] → K 0 x2 x3 x4 x5 x6 g = some (r, g') → W p l e { frames := 8, cells := 480, slots := 2880, locals := 195 } s m args below meth c H locs cells slots (MQ below (zQi X N r g') args s 480 2880 (zA X)) (F0 m 5 ls [])) (hK1 : ∀ (cells slots : Nat) (x2 : Int) (x3 : Int) (x4 : Int) (x5 : Int) (x6 : Int) (g : zG) (H : Heap) (locs : List Loc) (ls : Array Slot), (cells + 16 * n1 ≤ 480 ∧ slots + 96 * n1 ≤ 2880) → zH X N g s H locs → lv_has ls 7 [(0, z_r N 0 0), (2, z_v x2), (3, z_v x3), (4, z_v x4), (5, z_v x5), (6, z_v x6)] → K 1 x2 x3 x4 x5 x6 g = some (r, g') → W p l e { frames := 8, cells := 480, slots := 2880, locals := 195 } s m args below meth c H locs cells slots (MQ below (zQi X N r g') args s 480 2880 (zA X)) (F0 m 115 ls [])) {cells slots : Nat} (hcs : cells + 1 + 16 * n1 ≤ 480 ∧ slots + 6 + 96 * n1 ≤ 2880) {x2 : Int} {g : zG} {H : Heap} {locs : List Loc} {ls : Array Slot} (hw : zH X N g s H locs) (hl : lv_has ls 7 [(0, z_r N 0 0), (2, z_v x2)]) (h : sL_isDay_j214 n K x2 g = some (r, g')) : W p l e { frames := 8, cells := 480, slots := 2880, locals := 195 } s m args below meth c H locs cells slots (MQ below (zQi X N r g') args s 480 2880 (zA X)) (F0 m 214 ls []) := by
  have hx := hF.1.1
  have hb := hF.1.2.1
  unfold sL_isDay_j214 at h
  refine lv_aload_n hx hb dL_isDay_214 rfl (lv_at hl 0 rfl) ?_
  refine lv_iload_n hx hb dL_isDay_215 rfl (lv_at hl 1 rfl) ?_
  obtain ⟨o1, g1, h1, h⟩ := zbn_some h
  refine zw_callVi (n := 1) (As := [z_v x2]) (rest := []) hF hw (czX4_due l hT X N h1) h zEf_0_0 (by decide) zC_0 (z_goodV qw_636 qw_637 qw_638 qw_15 qw_639) (by decide +kernel) ⟨Nat.le_of_ble_eq_true rfl, Nat.le_of_ble_eq_true rfl⟩ rfl hl.1 rfl (Nat.le_of_ble_eq_true rfl) dL_isDay_216 ⟨by show cells + 1 ≤ 480; omega, by show slots + 6 ≤ 2880; omega⟩ (fun h => h.elim) (fun H locs hw h => ?_)
  clear h1
  generalize g1 = g at *
  generalize o1.2 = r1 at *
  refine W.widen (k := cells + 1) (n := slots + 6) (by show cells + 1 ≤ cells + 1; omega) (by show slots + 6 ≤ slots + 6; omega) ?_
  refine zr_if_ne (tgt := 226) hF h dL_isDay_219 (by decide) (fun h => ?_) (fun h => ?_)
  · refine lv_iconst hx hb dL_isDay_226 rfl ?_
    exact zp_zret hF hr hw h dL_isDay_227 ⟨by omega, by omega⟩
  · exact wL_isDay_j222 hF hT hr hK0 hK1 (by omega)  hw (lv_sub hl [] rfl) h
set_option maxHeartbeats 4000000 in
set_option maxRecDepth 100000 in
theorem wL_isDay_h5 {p : Program} {l : Launch} {e : Env} {s : State} {m : MethodId} {args : Array Value} {below : List Frame} {meth : Method} {c : Code} {X : zC} {N : zN} {r : Int} {g' : zG} (hF : zF p s m args meth c X cL_isDay 7 RL) (hT : l.stackTraces = false) (hr : meth.sig.returnType = (some .boolean)) {n : Nat} {n1 : Nat} {K : Nat → Int → Int → Int → Int → Int → zG → Option (Int × zG)} (hK0 : ∀ (cells slots : Nat) (x2 : Int) (x3 : Int) (x4 : Int) (x5 : Int) (x6 : Int) (g : zG) (H : Heap) (locs : List Loc) (ls : Array Slot), (cells + 16 * n1 ≤ 480 ∧ slots + 96 * n1 ≤ 2880) → zH X N g s H locs → lv_has ls 7 [(0, z_r N 0 0), (1, z_r N 17 0), (2, z_v x2), (3, z_v x3), (4, z_v x4)] → K 0 x2 x3 x4 x5 x6 g = some (r, g') → W p l e { frames := 8, cells := 480, slots := 2880, locals := 195 } s m args below meth c H locs cells slots (MQ below (zQi X N r g') args s 480 2880 (zA X)) (F0 m 5 ls [])) (hK1 : ∀ (cells slots : Nat) (x2 : Int) (x3 : Int) (x4 : Int) (x5 : Int) (x6 : Int) (g : zG) (H : Heap) (locs : List Loc) (ls : Array Slot), (cells + 16 * n1 ≤ 480 ∧ slots + 96 * n1 ≤ 2880) → zH X N g s H locs → lv_has ls 7 [(0, z_r N 0 0), (2, z_v x2), (3, z_v x3), (4, z_v x4), (5, z_v x5), (6, z_v x6)] → K 1 x2 x3 x4 x5 x6 g = some (r, g') → W p l e { frames := 8, cells := 480, slots := 2880, locals := 195 } s m args below meth c H locs cells slots (MQ below (zQi X N r g') args s 480 2880 (zA X)) (F0 m 115 ls [])) {cells slots : Nat} (hcs : cells + 16 + 16 * n1 ≤ 480 ∧ slots + 96 + 96 * n1 ≤ 2880) {x2 : Int} {x3 : Int} {x4 : Int} {x5 : Int} {x6 : Int} {g : zG} {H : Heap} {locs : List Loc} {ls : Array Slot} (hw : zH X N g s H locs) (hl : lv_has ls 7 [(0, z_r N 0 0), (1, z_r N 17 0), (2, z_v x2), (3, z_v x3), (4, z_v x4)]) (h : sL_isDay_h5 n K x2 x3 x4 x5 x6 g = some (r, g')) : W p l e { frames := 8, cells := 480, slots := 2880, locals := 195 } s m args below meth c H locs cells slots (MQ below (zQi X N r g') args s 480 2880 (zA X)) (F0 m 5 ls []) := by
  have hx := hF.1.1
  have hb := hF.1.2.1
  unfold sL_isDay_h5 at h
  refine lv_iload hx hb dL_isDay_5 (lv_at hl 4 rfl) ?_
  refine lv_aload_n hx hb dL_isDay_7 rfl (lv_at hl 1 rfl) ?_
  refine lv_iconst hx hb dL_isDay_8 rfl ?_
  refine zr_iald hF hw zEf_17_0 (by decide) h dL_isDay_9 (fun h => ?_)
  refine zr_icmp_ge (tgt := 106) hF h dL_isDay_10 (by decide) (fun h => ?_) (fun h => ?_)
  · refine lv_iconst hx hb dL_isDay_106 rfl ?_
    refine lv_istore (lv' := [(4, z_v 0), (0, z_r N 0 0), (1, z_r N 17 0), (2, z_v x2), (3, z_v x3)]) hx hb dL_isDay_107 hl (by decide) rfl (fun ls hl => ?_)
    refine lv_iconst hx hb dL_isDay_109 rfl ?_
    refine lv_istore (lv' := [(5, z_v 0), (4, z_v 0), (0, z_r N 0 0), (1, z_r N 17 0), (2, z_v x2), (3, z_v x3)]) hx hb dL_isDay_110 hl (by decide) rfl (fun ls hl => ?_)
    refine lv_iconst hx hb dL_isDay_112 rfl ?_
    refine lv_istore (lv' := [(6, z_v 0), (5, z_v 0), (4, z_v 0), (0, z_r N 0 0), (1, z_r N 17 0), (2, z_v x2), (3, z_v x3)]) hx hb dL_isDay_113 hl (by decide) rfl (fun ls hl => ?_)
    exact hK1 _ _ x2 x3 0 0 0 _ _ _ _ (by omega)  hw (lv_sub hl [3, 5, 6, 2, 1, 0] rfl) h
  · refine lv_iload_n hx hb dL_isDay_13 rfl (lv_at hl 3 rfl) ?_
    refine lv_aload_n hx hb dL_isDay_14 rfl (lv_at hl 0 rfl) ?_
    refine lv_iload hx hb dL_isDay_15 (lv_at hl 4 rfl) ?_
    refine lv_bipush (v := Int32.ofInt (6)) hx hb dL_isDay_17 (by decide) ?_
    obtain ⟨o1, g1, h1, h⟩ := zbn_some h
    refine zw_callVi (n := 2) (As := [z_v x4, z_v 6]) (rest := [z_v x3]) hF hw (czX4_regulationIs l hT X N h1) h zEf_0_0 (by decide) zC_0 (z_goodV qw_658 qw_659 qw_660 qw_15 qw_661) (by decide +kernel) ⟨Nat.le_of_ble_eq_true rfl, Nat.le_of_ble_eq_true rfl⟩ rfl hl.1 rfl (Nat.le_of_ble_eq_true rfl) dL_isDay_19 ⟨by show cells + 2 ≤ 480; omega, by show slots + 12 ≤ 2880; omega⟩ (fun h => h.elim) (fun H locs hw h => ?_)
    clear h1
    generalize g1 = g at *
    generalize o1.2 = r1 at *
    refine W.widen (k := cells + 2) (n := slots + 12) (by show cells + 2 ≤ cells + 2; omega) (by show slots + 12 ≤ slots + 12; omega) ?_
    refine zr_iadd hF dL_isDay_22 ?_
    refine zr_let h (fun v2 h => ?_)
    refine lv_istore_n (lv' := [(3, z_v v2), (0, z_r N 0 0), (1, z_r N 17 0), (2, z_v x2), (4, z_v x4)]) hx hb dL_isDay_23 rfl hl (by decide) rfl (fun ls hl => ?_)
    refine lv_aload_n hx hb dL_isDay_24 rfl (lv_at hl 1 rfl) ?_
    refine lv_iload hx hb dL_isDay_25 (lv_at hl 4 rfl) ?_
    refine lv_iconst hx hb dL_isDay_27 rfl ?_
    obtain ⟨o1, g1, h1, h⟩ := zbn_some h
    refine zw_callVi (n := 2) (As := [z_v x4, z_v 1]) (rest := []) hF hw (czX4_regulationIs l hT X N h1) h zEf_0_0 (by decide) zC_0 (z_goodV qw_658 qw_659 qw_660 qw_15 qw_661) (by decide +kernel) ⟨Nat.le_of_ble_eq_true rfl, Nat.le_of_ble_eq_true rfl⟩ rfl hl.1 rfl (Nat.le_of_ble_eq_true rfl) dL_isDay_28 ⟨by show cells + 2 + 2 ≤ 480; omega, by show slots + 12 + 12 ≤ 2880; omega⟩ (fun h => h.elim) (fun H locs hw h => ?_)
    clear h1
    generalize g1 = g at *
    generalize o1.2 = r3 at *
    refine W.widen (k := cells + 4) (n := slots + 24) (by show cells + 2 + 2 ≤ cells + 4; omega) (by show slots + 12 + 12 ≤ slots + 24; omega) ?_
    refine lv_istore (lv' := [(5, z_v r3), (3, z_v v2), (0, z_r N 0 0), (1, z_r N 17 0), (2, z_v x2), (4, z_v x4)]) hx hb dL_isDay_31 hl (by decide) rfl (fun ls hl => ?_)
    refine lv_aload_n hx hb dL_isDay_33 rfl (lv_at hl 2 rfl) ?_
    refine lv_iload hx hb dL_isDay_34 (lv_at hl 5 rfl) ?_
    refine lv_iconst hx hb dL_isDay_36 rfl ?_
    obtain ⟨o1, g1, h1, h⟩ := zbn_some h
    refine zw_callVi (n := 2) (As := [z_v x4, z_v 0]) (rest := []) hF hw (czX4_regulationIs l hT X N h1) h zEf_0_0 (by decide) zC_0 (z_goodV qw_658 qw_659 qw_660 qw_15 qw_661) (by decide +kernel) ⟨Nat.le_of_ble_eq_true rfl, Nat.le_of_ble_eq_true rfl⟩ rfl hl.1 rfl (Nat.le_of_ble_eq_true rfl) dL_isDay_37 ⟨by show cells + 4 + 2 ≤ 480; omega, by show slots + 24 + 12 ≤ 2880; omega⟩ (fun h => h.elim) (fun H locs hw h => ?_)
    clear h1
    generalize g1 = g at *
    generalize o1.2 = r4 at *
    refine W.widen (k := cells + 6) (n := slots + 36) (by show cells + 4 + 2 ≤ cells + 6; omega) (by show slots + 24 + 12 ≤ slots + 36; omega) ?_
    refine lv_iload hx hb dL_isDay_40 (lv_at hl 0 rfl) ?_
    refine zr_isub hF dL_isDay_42 ?_
    refine zr_let h (fun v5 h => ?_)
    refine lv_istore (lv' := [(6, z_v v5), (5, z_v r3), (3, z_v v2), (0, z_r N 0 0), (1, z_r N 17 0), (2, z_v x2), (4, z_v x4)]) hx hb dL_isDay_43 hl (by decide) rfl (fun ls hl => ?_)
    refine lv_iload hx hb dL_isDay_45 (lv_at hl 1 rfl) ?_
    refine zr_if_lt (tgt := 98) hF h dL_isDay_47 (by decide) (fun h => ?_) (fun h => ?_)
    · refine lv_iconst hx hb dL_isDay_98 rfl ?_
      exact zp_zret hF hr hw h dL_isDay_99 ⟨by omega, by omega⟩
    · refine lv_iload hx hb dL_isDay_50 (lv_at hl 0 rfl) ?_
      refine lv_aload_n hx hb dL_isDay_52 rfl (lv_at hl 3 rfl) ?_
      refine lv_iload hx hb dL_isDay_53 (lv_at hl 6 rfl) ?_
      refine lv_iconst hx hb dL_isDay_55 rfl ?_
      obtain ⟨o1, g1, h1, h⟩ := zbn_some h
      refine zw_callVi (n := 2) (As := [z_v x4, z_v 2]) (rest := [z_v v5]) hF hw (czX4_regulationIs l hT X N h1) h zEf_0_0 (by decide) zC_0 (z_goodV qw_658 qw_659 qw_660 qw_15 qw_661) (by decide +kernel) ⟨Nat.le_of_ble_eq_true rfl, Nat.le_of_ble_eq_true rfl⟩ rfl hl.1 rfl (Nat.le_of_ble_eq_true rfl) dL_isDay_56 ⟨by show cells + 6 + 2 ≤ 480; omega, by show slots + 36 + 12 ≤ 2880; omega⟩ (fun h => h.elim) (fun H locs hw h => ?_)
      clear h1
      generalize g1 = g at *
      generalize o1.2 = r6 at *
      refine W.widen (k := cells + 8) (n := slots + 48) (by show cells + 6 + 2 ≤ cells + 8; omega) (by show slots + 36 + 12 ≤ slots + 48; omega) ?_
      refine lv_aload_n hx hb dL_isDay_59 rfl (lv_at hl 3 rfl) ?_
      refine lv_iload hx hb dL_isDay_60 (lv_at hl 6 rfl) ?_
      refine lv_iconst hx hb dL_isDay_62 rfl ?_
      obtain ⟨o1, g1, h1, h⟩ := zbn_some h
      refine zw_callVi (n := 2) (As := [z_v x4, z_v 3]) (rest := [z_v r6, z_v v5]) hF hw (czX4_regulationIs l hT X N h1) h zEf_0_0 (by decide) zC_0 (z_goodV qw_658 qw_659 qw_660 qw_15 qw_661) (by decide +kernel) ⟨Nat.le_of_ble_eq_true rfl, Nat.le_of_ble_eq_true rfl⟩ rfl hl.1 rfl (Nat.le_of_ble_eq_true rfl) dL_isDay_63 ⟨by show cells + 8 + 2 ≤ 480; omega, by show slots + 48 + 12 ≤ 2880; omega⟩ (fun h => h.elim) (fun H locs hw h => ?_)
      clear h1
      generalize g1 = g at *
      generalize o1.2 = r7 at *
      refine W.widen (k := cells + 10) (n := slots + 60) (by show cells + 8 + 2 ≤ cells + 10; omega) (by show slots + 48 + 12 ≤ slots + 60; omega) ?_
      refine zr_iadd hF dL_isDay_66 ?_
      refine lv_aload_n hx hb dL_isDay_67 rfl (lv_at hl 3 rfl) ?_
      refine lv_iload hx hb dL_isDay_68 (lv_at hl 6 rfl) ?_
      refine lv_iconst hx hb dL_isDay_70 rfl ?_
      obtain ⟨o1, g1, h1, h⟩ := zbn_some h
      refine zw_callVi (n := 2) (As := [z_v x4, z_v 4]) (rest := [z_v (r6 + r7), z_v v5]) hF hw (czX4_regulationIs l hT X N h1) h zEf_0_0 (by decide) zC_0 (z_goodV qw_658 qw_659 qw_660 qw_15 qw_661) (by decide +kernel) ⟨Nat.le_of_ble_eq_true rfl, Nat.le_of_ble_eq_true rfl⟩ rfl hl.1 rfl (Nat.le_of_ble_eq_true rfl) dL_isDay_71 ⟨by show cells + 10 + 2 ≤ 480; omega, by show slots + 60 + 12 ≤ 2880; omega⟩ (fun h => h.elim) (fun H locs hw h => ?_)
      clear h1
      generalize g1 = g at *
      generalize o1.2 = r8 at *
      refine W.widen (k := cells + 12) (n := slots + 72) (by show cells + 10 + 2 ≤ cells + 12; omega) (by show slots + 60 + 12 ≤ slots + 72; omega) ?_
      refine zr_isub hF dL_isDay_74 ?_
      refine zr_icmp_gt (tgt := 98) hF h dL_isDay_75 (by decide) (fun h => ?_) (fun h => ?_)
      · refine lv_iconst hx hb dL_isDay_98 rfl ?_
        exact zp_zret hF hr hw h dL_isDay_99 ⟨by omega, by omega⟩
      · refine lv_iload hx hb dL_isDay_78 (lv_at hl 0 rfl) ?_
        refine lv_aload_n hx hb dL_isDay_80 rfl (lv_at hl 3 rfl) ?_
        refine lv_iload hx hb dL_isDay_81 (lv_at hl 6 rfl) ?_
        refine lv_iconst hx hb dL_isDay_83 rfl ?_
        obtain ⟨o1, g1, h1, h⟩ := zbn_some h
        refine zw_callVi (n := 2) (As := [z_v x4, z_v 3]) (rest := [z_v v5]) hF hw (czX4_regulationIs l hT X N h1) h zEf_0_0 (by decide) zC_0 (z_goodV qw_658 qw_659 qw_660 qw_15 qw_661) (by decide +kernel) ⟨Nat.le_of_ble_eq_true rfl, Nat.le_of_ble_eq_true rfl⟩ rfl hl.1 rfl (Nat.le_of_ble_eq_true rfl) dL_isDay_84 ⟨by show cells + 12 + 2 ≤ 480; omega, by show slots + 72 + 12 ≤ 2880; omega⟩ (fun h => h.elim) (fun H locs hw h => ?_)
        clear h1
        generalize g1 = g at *
        generalize o1.2 = r9 at *
        refine W.widen (k := cells + 14) (n := slots + 84) (by show cells + 12 + 2 ≤ cells + 14; omega) (by show slots + 72 + 12 ≤ slots + 84; omega) ?_
        refine lv_aload_n hx hb dL_isDay_87 rfl (lv_at hl 3 rfl) ?_
        refine lv_iload hx hb dL_isDay_88 (lv_at hl 6 rfl) ?_
        refine lv_iconst hx hb dL_isDay_90 rfl ?_
        obtain ⟨o1, g1, h1, h⟩ := zbn_some h
        refine zw_callVi (n := 2) (As := [z_v x4, z_v 4]) (rest := [z_v r9, z_v v5]) hF hw (czX4_regulationIs l hT X N h1) h zEf_0_0 (by decide) zC_0 (z_goodV qw_658 qw_659 qw_660 qw_15 qw_661) (by decide +kernel) ⟨Nat.le_of_ble_eq_true rfl, Nat.le_of_ble_eq_true rfl⟩ rfl hl.1 rfl (Nat.le_of_ble_eq_true rfl) dL_isDay_91 ⟨by show cells + 14 + 2 ≤ 480; omega, by show slots + 84 + 12 ≤ 2880; omega⟩ (fun h => h.elim) (fun H locs hw h => ?_)
        clear h1
        generalize g1 = g at *
        generalize o1.2 = r10 at *
        refine W.widen (k := cells + 16) (n := slots + 96) (by show cells + 14 + 2 ≤ cells + 16; omega) (by show slots + 84 + 12 ≤ slots + 96; omega) ?_
        refine zr_isub hF dL_isDay_94 ?_
        refine zr_icmp_ge (tgt := 100) hF h dL_isDay_95 (by decide) (fun h => ?_) (fun h => ?_)
        · refine zr_iinc hF (lv' := fun v11 => [(4, z_v v11), (6, z_v v5), (5, z_v r3), (3, z_v v2), (0, z_r N 0 0), (1, z_r N 17 0), (2, z_v x2)]) h dL_isDay_100 hl (k := 6) rfl (by decide) (fun _ => rfl) (fun v11 ls hl h => ?_)
          refine lv_goto (tgt := 5) hx hb dL_isDay_103 (by decide) ?_
          exact hK0 _ _ x2 v2 v11 0 0 _ _ _ _ (by omega)  hw (lv_sub hl [4, 5, 6, 3, 0] rfl) h
        · refine lv_iconst hx hb dL_isDay_98 rfl ?_
          exact zp_zret hF hr hw h dL_isDay_99 ⟨by omega, by omega⟩
set_option maxHeartbeats 4000000 in
set_option maxRecDepth 100000 in
theorem wL_isDay_h115 {p : Program} {l : Launch} {e : Env} {s : State} {m : MethodId} {args : Array Value} {below : List Frame} {meth : Method} {c : Code} {X : zC} {N : zN} {r : Int} {g' : zG} (hF : zF p s m args meth c X cL_isDay 7 RL) (hT : l.stackTraces = false) (hr : meth.sig.returnType = (some .boolean)) {n : Nat} {n1 : Nat} {K : Nat → Int → Int → Int → Int → Int → zG → Option (Int × zG)} (hK0 : ∀ (cells slots : Nat) (x2 : Int) (x3 : Int) (x4 : Int) (x5 : Int) (x6 : Int) (g : zG) (H : Heap) (locs : List Loc) (ls : Array Slot), (cells + 16 * n1 ≤ 480 ∧ slots + 96 * n1 ≤ 2880) → zH X N g s H locs → lv_has ls 7 [(0, z_r N 0 0), (1, z_r N 17 0), (2, z_v x2), (3, z_v x3), (4, z_v x4)] → K 0 x2 x3 x4 x5 x6 g = some (r, g') → W p l e { frames := 8, cells := 480, slots := 2880, locals := 195 } s m args below meth c H locs cells slots (MQ below (zQi X N r g') args s 480 2880 (zA X)) (F0 m 5 ls [])) (hK1 : ∀ (cells slots : Nat) (x2 : Int) (x3 : Int) (x4 : Int) (x5 : Int) (x6 : Int) (g : zG) (H : Heap) (locs : List Loc) (ls : Array Slot), (cells + 16 * n1 ≤ 480 ∧ slots + 96 * n1 ≤ 2880) → zH X N g s H locs → lv_has ls 7 [(0, z_r N 0 0), (2, z_v x2), (3, z_v x3), (4, z_v x4), (5, z_v x5), (6, z_v x6)] → K 1 x2 x3 x4 x5 x6 g = some (r, g') → W p l e { frames := 8, cells := 480, slots := 2880, locals := 195 } s m args below meth c H locs cells slots (MQ below (zQi X N r g') args s 480 2880 (zA X)) (F0 m 115 ls [])) {cells slots : Nat} (hcs : cells + 8 + 16 * n1 ≤ 480 ∧ slots + 48 + 96 * n1 ≤ 2880) {x2 : Int} {x3 : Int} {x4 : Int} {x5 : Int} {x6 : Int} {g : zG} {H : Heap} {locs : List Loc} {ls : Array Slot} (hw : zH X N g s H locs) (hl : lv_has ls 7 [(0, z_r N 0 0), (2, z_v x2), (3, z_v x3), (4, z_v x4), (5, z_v x5), (6, z_v x6)]) (h : sL_isDay_h115 n K x2 x3 x4 x5 x6 g = some (r, g')) : W p l e { frames := 8, cells := 480, slots := 2880, locals := 195 } s m args below meth c H locs cells slots (MQ below (zQi X N r g') args s 480 2880 (zA X)) (F0 m 115 ls []) := by
  have hx := hF.1.1
  have hb := hF.1.2.1
  unfold sL_isDay_h115 at h
  refine lv_iload hx hb dL_isDay_115 (lv_at hl 5 rfl) ?_
  refine lv_iconst hx hb dL_isDay_117 rfl ?_
  refine zr_icmp_ge (tgt := 159) hF h dL_isDay_118 (by decide) (fun h => ?_) (fun h => ?_)
  · refine lv_iload_n hx hb dL_isDay_159 rfl (lv_at hl 2 rfl) ?_
    refine lv_iload hx hb dL_isDay_160 (lv_at hl 3 rfl) ?_
    refine zr_icmp_ne (tgt := 226) hF h dL_isDay_162 (by decide) (fun h => ?_) (fun h => ?_)
    · refine lv_iconst hx hb dL_isDay_226 rfl ?_
      exact zp_zret hF hr hw h dL_isDay_227 ⟨by omega, by omega⟩
    · refine lv_iload hx hb dL_isDay_165 (lv_at hl 4 rfl) ?_
      refine zr_if_lt (tgt := 226) hF h dL_isDay_167 (by decide) (fun h => ?_) (fun h => ?_)
      · refine lv_iconst hx hb dL_isDay_226 rfl ?_
        exact zp_zret hF hr hw h dL_isDay_227 ⟨by omega, by omega⟩
      · refine lv_aload_n hx hb dL_isDay_170 rfl (lv_at hl 0 rfl) ?_
        refine lv_iload_n hx hb dL_isDay_171 rfl (lv_at hl 1 rfl) ?_
        obtain ⟨o1, g1, h1, h⟩ := zbn_some h
        refine zw_callVi (n := 1) (As := [z_v x2]) (rest := []) hF hw (czX4_due l hT X N h1) h zEf_0_0 (by decide) zC_0 (z_goodV qw_636 qw_637 qw_638 qw_15 qw_639) (by decide +kernel) ⟨Nat.le_of_ble_eq_true rfl, Nat.le_of_ble_eq_true rfl⟩ rfl hl.1 rfl (Nat.le_of_ble_eq_true rfl) dL_isDay_172 ⟨by show cells + 1 ≤ 480; omega, by show slots + 6 ≤ 2880; omega⟩ (fun h => h.elim) (fun H locs hw h => ?_)
        clear h1
        generalize g1 = g at *
        generalize o1.2 = r1 at *
        refine W.widen (k := cells + 1) (n := slots + 6) (by show cells + 1 ≤ cells + 1; omega) (by show slots + 6 ≤ slots + 6; omega) ?_
        refine lv_aload_n hx hb dL_isDay_175 rfl (lv_at hl 0 rfl) ?_
        refine lv_iload_n hx hb dL_isDay_176 rfl (lv_at hl 1 rfl) ?_
        obtain ⟨o1, g1, h1, h⟩ := zbn_some h
        refine zw_callVi (n := 1) (As := [z_v x2]) (rest := [z_v r1]) hF hw (czX4_dueAnew l hT X N h1) h zEf_0_0 (by decide) zC_0 (z_goodV qw_700 qw_701 qw_702 qw_15 qw_703) (by decide +kernel) ⟨Nat.le_of_ble_eq_true rfl, Nat.le_of_ble_eq_true rfl⟩ rfl hl.1 rfl (Nat.le_of_ble_eq_true rfl) dL_isDay_177 ⟨by show cells + 1 + 1 ≤ 480; omega, by show slots + 6 + 6 ≤ 2880; omega⟩ (fun h => h.elim) (fun H locs hw h => ?_)
        clear h1
        generalize g1 = g at *
        generalize o1.2 = r2 at *
        refine W.widen (k := cells + 2) (n := slots + 12) (by show cells + 1 + 1 ≤ cells + 2; omega) (by show slots + 6 + 6 ≤ slots + 12; omega) ?_
        refine zr_icmp_ne (tgt := 226) hF h dL_isDay_180 (by decide) (fun h => ?_) (fun h => ?_)
        · refine lv_iconst hx hb dL_isDay_226 rfl ?_
          exact zp_zret hF hr hw h dL_isDay_227 ⟨by omega, by omega⟩
        · refine lv_aload_n hx hb dL_isDay_183 rfl (lv_at hl 0 rfl) ?_
          refine lv_iload_n hx hb dL_isDay_184 rfl (lv_at hl 1 rfl) ?_
          obtain ⟨o1, g1, h1, h⟩ := zbn_some h
          refine zw_callVi (n := 1) (As := [z_v x2]) (rest := []) hF hw (czX4_due l hT X N h1) h zEf_0_0 (by decide) zC_0 (z_goodV qw_636 qw_637 qw_638 qw_15 qw_639) (by decide +kernel) ⟨Nat.le_of_ble_eq_true rfl, Nat.le_of_ble_eq_true rfl⟩ rfl hl.1 rfl (Nat.le_of_ble_eq_true rfl) dL_isDay_185 ⟨by show cells + 2 + 1 ≤ 480; omega, by show slots + 12 + 6 ≤ 2880; omega⟩ (fun h => h.elim) (fun H locs hw h => ?_)
          clear h1
          generalize g1 = g at *
          generalize o1.2 = r3 at *
          refine W.widen (k := cells + 3) (n := slots + 18) (by show cells + 2 + 1 ≤ cells + 3; omega) (by show slots + 12 + 6 ≤ slots + 18; omega) ?_
          refine lv_aload_n hx hb dL_isDay_188 rfl (lv_at hl 0 rfl) ?_
          obtain ⟨r4, g1, h1, h⟩ := zbd_some h
          refine zr_callVi (n := 0) (As := []) (rest := [z_v r3]) hF hw (czX4_allDue l X N h1) zEf_0_0 (by decide) zC_0 (z_goodV qw_280 qw_281 qw_282 qw_15 qw_283) (by decide +kernel) ⟨Nat.le_of_ble_eq_true rfl, Nat.le_of_ble_eq_true rfl⟩ ⟨rfl, rfl⟩ rfl hl.1 rfl (Nat.le_of_ble_eq_true rfl) dL_isDay_189 ⟨by show cells + 3 ≤ 480; omega, by show slots + 18 ≤ 2880; omega⟩ (fun H locs hw => ?_)
          clear h1
          generalize g1 = g at *
          refine zr_icmp_gt (tgt := 226) hF h dL_isDay_192 (by decide) (fun h => ?_) (fun h => ?_)
          · refine lv_iconst hx hb dL_isDay_226 rfl ?_
            exact zp_zret hF hr hw h dL_isDay_227 ⟨by omega, by omega⟩
          · refine lv_aload_n hx hb dL_isDay_195 rfl (lv_at hl 0 rfl) ?_
            refine lv_iload_n hx hb dL_isDay_196 rfl (lv_at hl 1 rfl) ?_
            refine lv_iconst hx hb dL_isDay_197 rfl ?_
            obtain ⟨o1, g1, h1, h⟩ := zbn_some h
            refine zw_callVi (n := 2) (As := [z_v x2, z_v 0]) (rest := []) hF hw (czX4_flightIs l hT X N h1) h zEf_0_0 (by decide) zC_0 (z_goodV qw_631 qw_632 qw_633 qw_15 qw_634) (by decide +kernel) ⟨Nat.le_of_ble_eq_true rfl, Nat.le_of_ble_eq_true rfl⟩ rfl hl.1 rfl (Nat.le_of_ble_eq_true rfl) dL_isDay_198 ⟨by show cells + 3 + 2 ≤ 480; omega, by show slots + 18 + 12 ≤ 2880; omega⟩ (fun h => h.elim) (fun H locs hw h => ?_)
            clear h1
            generalize g1 = g at *
            generalize o1.2 = r5 at *
            refine W.widen (k := cells + 5) (n := slots + 30) (by show cells + 3 + 2 ≤ cells + 5; omega) (by show slots + 18 + 12 ≤ slots + 30; omega) ?_
            refine zr_if_ne (tgt := 214) hF h dL_isDay_201 (by decide) (fun h => ?_) (fun h => ?_)
            · exact wL_isDay_j214 hF hT hr hK0 hK1 (by omega)  hw (lv_sub hl [0, 1] rfl) h
            · refine lv_aload_n hx hb dL_isDay_204 rfl (lv_at hl 0 rfl) ?_
              refine lv_iload_n hx hb dL_isDay_205 rfl (lv_at hl 1 rfl) ?_
              refine lv_bipush (v := Int32.ofInt (7)) hx hb dL_isDay_206 (by decide) ?_
              obtain ⟨o1, g1, h1, h⟩ := zbn_some h
              refine zw_callVi (n := 2) (As := [z_v x2, z_v 7]) (rest := []) hF hw (czX4_flightIs l hT X N h1) h zEf_0_0 (by decide) zC_0 (z_goodV qw_631 qw_632 qw_633 qw_15 qw_634) (by decide +kernel) ⟨Nat.le_of_ble_eq_true rfl, Nat.le_of_ble_eq_true rfl⟩ rfl hl.1 rfl (Nat.le_of_ble_eq_true rfl) dL_isDay_208 ⟨by show cells + 5 + 2 ≤ 480; omega, by show slots + 30 + 12 ≤ 2880; omega⟩ (fun h => h.elim) (fun H locs hw h => ?_)
              clear h1
              generalize g1 = g at *
              generalize o1.2 = r6 at *
              refine W.widen (k := cells + 7) (n := slots + 42) (by show cells + 5 + 2 ≤ cells + 7; omega) (by show slots + 30 + 12 ≤ slots + 42; omega) ?_
              refine zr_if_eq (tgt := 222) hF h dL_isDay_211 (by decide) (fun h => ?_) (fun h => ?_)
              · exact wL_isDay_j222 hF hT hr hK0 hK1 (by omega)  hw (lv_sub hl [] rfl) h
              · exact wL_isDay_j214 hF hT hr hK0 hK1 (by omega)  hw (lv_sub hl [0, 1] rfl) h
  · refine lv_iload hx hb dL_isDay_121 (lv_at hl 3 rfl) ?_
    refine lv_aload_n hx hb dL_isDay_123 rfl (lv_at hl 0 rfl) ?_
    refine lv_iload hx hb dL_isDay_124 (lv_at hl 5 rfl) ?_
    refine lv_iconst hx hb dL_isDay_126 rfl ?_
    obtain ⟨o1, g1, h1, h⟩ := zbn_some h
    refine zw_callVi (n := 2) (As := [z_v x6, z_v 0]) (rest := [z_v x4]) hF hw (czX4_companyIs l hT X N h1) h zEf_0_0 (by decide) zC_0 (z_goodV qw_402 qw_403 qw_404 qw_15 qw_405) (by decide +kernel) ⟨Nat.le_of_ble_eq_true rfl, Nat.le_of_ble_eq_true rfl⟩ rfl hl.1 rfl (Nat.le_of_ble_eq_true rfl) dL_isDay_127 ⟨by show cells + 2 ≤ 480; omega, by show slots + 12 ≤ 2880; omega⟩ (fun h => h.elim) (fun H locs hw h => ?_)
    clear h1
    generalize g1 = g at *
    generalize o1.2 = r7 at *
    refine W.widen (k := cells + 2) (n := slots + 12) (by show cells + 2 ≤ cells + 2; omega) (by show slots + 12 ≤ slots + 12; omega) ?_
    refine zr_iadd hF dL_isDay_130 ?_
    refine zr_let h (fun v8 h => ?_)
    refine lv_istore (lv' := [(4, z_v v8), (0, z_r N 0 0), (2, z_v x2), (3, z_v x3), (5, z_v x5), (6, z_v x6)]) hx hb dL_isDay_131 hl (by decide) rfl (fun ls hl => ?_)
    refine lv_iload hx hb dL_isDay_133 (lv_at hl 4 rfl) ?_
    refine lv_aload_n hx hb dL_isDay_135 rfl (lv_at hl 1 rfl) ?_
    refine lv_iload hx hb dL_isDay_136 (lv_at hl 5 rfl) ?_
    refine lv_iconst hx hb dL_isDay_138 rfl ?_
    obtain ⟨o1, g1, h1, h⟩ := zbn_some h
    refine zw_callVi (n := 2) (As := [z_v x6, z_v 2]) (rest := [z_v x5]) hF hw (czX4_companyIs l hT X N h1) h zEf_0_0 (by decide) zC_0 (z_goodV qw_402 qw_403 qw_404 qw_15 qw_405) (by decide +kernel) ⟨Nat.le_of_ble_eq_true rfl, Nat.le_of_ble_eq_true rfl⟩ rfl hl.1 rfl (Nat.le_of_ble_eq_true rfl) dL_isDay_139 ⟨by show cells + 2 + 2 ≤ 480; omega, by show slots + 12 + 12 ≤ 2880; omega⟩ (fun h => h.elim) (fun H locs hw h => ?_)
    clear h1
    generalize g1 = g at *
    generalize o1.2 = r9 at *
    refine W.widen (k := cells + 4) (n := slots + 24) (by show cells + 2 + 2 ≤ cells + 4; omega) (by show slots + 12 + 12 ≤ slots + 24; omega) ?_
    refine lv_aload_n hx hb dL_isDay_142 rfl (lv_at hl 1 rfl) ?_
    refine lv_iload hx hb dL_isDay_143 (lv_at hl 5 rfl) ?_
    refine lv_iconst hx hb dL_isDay_145 rfl ?_
    obtain ⟨o1, g1, h1, h⟩ := zbn_some h
    refine zw_callVi (n := 2) (As := [z_v x6, z_v 1]) (rest := [z_v r9, z_v x5]) hF hw (czX4_companyIs l hT X N h1) h zEf_0_0 (by decide) zC_0 (z_goodV qw_402 qw_403 qw_404 qw_15 qw_405) (by decide +kernel) ⟨Nat.le_of_ble_eq_true rfl, Nat.le_of_ble_eq_true rfl⟩ rfl hl.1 rfl (Nat.le_of_ble_eq_true rfl) dL_isDay_146 ⟨by show cells + 4 + 2 ≤ 480; omega, by show slots + 24 + 12 ≤ 2880; omega⟩ (fun h => h.elim) (fun H locs hw h => ?_)
    clear h1
    generalize g1 = g at *
    generalize o1.2 = r10 at *
    refine W.widen (k := cells + 6) (n := slots + 36) (by show cells + 4 + 2 ≤ cells + 6; omega) (by show slots + 24 + 12 ≤ slots + 36; omega) ?_
    refine zr_isub hF dL_isDay_149 ?_
    refine zr_iadd hF dL_isDay_150 ?_
    refine zr_let h (fun v11 h => ?_)
    refine lv_istore (lv' := [(5, z_v v11), (4, z_v v8), (0, z_r N 0 0), (2, z_v x2), (3, z_v x3), (6, z_v x6)]) hx hb dL_isDay_151 hl (by decide) rfl (fun ls hl => ?_)
    refine zr_iinc hF (lv' := fun v12 => [(6, z_v v12), (5, z_v v11), (4, z_v v8), (0, z_r N 0 0), (2, z_v x2), (3, z_v x3)]) h dL_isDay_153 hl (k := 5) rfl (by decide) (fun _ => rfl) (fun v12 ls hl h => ?_)
    refine lv_goto (tgt := 115) hx hb dL_isDay_156 (by decide) ?_
    exact hK1 _ _ x2 x3 v8 v11 v12 _ _ _ _ (by omega)  hw (lv_sub hl [3, 4, 5, 2, 1, 0] rfl) h
set_option maxHeartbeats 4000000 in
set_option maxRecDepth 100000 in
theorem wL_isDay_run {p : Program} {l : Launch} {e : Env} {s : State} {m : MethodId} {args : Array Value} {below : List Frame} {meth : Method} {c : Code} {X : zC} {N : zN} {r : Int} {g' : zG} (hF : zF p s m args meth c X cL_isDay 7 RL) (hT : l.stackTraces = false) (hr : meth.sig.returnType = (some .boolean)) {n0 : Nat} : ∀ n : Nat, (∀ (cells slots : Nat) (x2 : Int) (x3 : Int) (x4 : Int) (x5 : Int) (x6 : Int) (g : zG) (H : Heap) (locs : List Loc) (ls : Array Slot), (cells + 16 * n ≤ 480 ∧ slots + 96 * n ≤ 2880) → zH X N g s H locs → lv_has ls 7 [(0, z_r N 0 0), (1, z_r N 17 0), (2, z_v x2), (3, z_v x3), (4, z_v x4)] → sL_isDay_run n0 n 0 x2 x3 x4 x5 x6 g = some (r, g') → W p l e { frames := 8, cells := 480, slots := 2880, locals := 195 } s m args below meth c H locs cells slots (MQ below (zQi X N r g') args s 480 2880 (zA X)) (F0 m 5 ls [])) ∧ (∀ (cells slots : Nat) (x2 : Int) (x3 : Int) (x4 : Int) (x5 : Int) (x6 : Int) (g : zG) (H : Heap) (locs : List Loc) (ls : Array Slot), (cells + 16 * n ≤ 480 ∧ slots + 96 * n ≤ 2880) → zH X N g s H locs → lv_has ls 7 [(0, z_r N 0 0), (2, z_v x2), (3, z_v x3), (4, z_v x4), (5, z_v x5), (6, z_v x6)] → sL_isDay_run n0 n 1 x2 x3 x4 x5 x6 g = some (r, g') → W p l e { frames := 8, cells := 480, slots := 2880, locals := 195 } s m args below meth c H locs cells slots (MQ below (zQi X N r g') args s 480 2880 (zA X)) (F0 m 115 ls [])) := by
  intro n
  induction n with
  | zero => exact ⟨fun _ _ _ _ _ _ _ _ _ _ _ _ _ _  h => (by cases h), fun _ _ _ _ _ _ _ _ _ _ _ _ _ _  h => (by cases h)⟩
  | succ n ih => exact ⟨fun cells slots x2 x3 x4 x5 x6 g H locs ls hcs  hw hl h => wL_isDay_h5 hF hT hr ih.1 ih.2 (by omega)  hw hl h, fun cells slots x2 x3 x4 x5 x6 g H locs ls hcs  hw hl h => wL_isDay_h115 hF hT hr ih.1 ih.2 (by omega)  hw hl h⟩
set_option maxHeartbeats 4000000 in
set_option maxRecDepth 100000 in
theorem czL_isDay (l : Launch) (hT : l.stackTraces = false) (X : zC) (N : zN) {n : Nat} {x2 : Int} {g g' : zG} {r : Int} (h : sL_isDay n x2 g = some (r, g')) : zMC l yL_isDay cL_isDay 7 (some .boolean) { frames := 8, cells := 480, slots := 2880, locals := 195 } X N g [z_r N 0 0, z_r N 17 0, z_v x2] (zQi X N r g') := by
  refine z_cofW (own := RL) (by decide +kernel) rfl (Nat.le_of_ble_eq_true rfl) ?_
  intro p e s m args below meth c ls hF hr hw hl
  have hl : lv_has ls 7 [(0, z_r N 0 0), (1, z_r N 17 0), (2, z_v x2)] := hl
  have hx := hF.1.1
  have hb := hF.1.2.1
  generalize s.heap = H at hw ⊢
  generalize ([] : List Loc) = locs at hw ⊢
  have key : ∀ cells slots : Nat, cells + 480 ≤ 480 → slots + 2880 ≤ 2880 → W p l e { frames := 8, cells := 480, slots := 2880, locals := 195 } s m args below meth c H locs cells slots (MQ below (zQi X N r g') args s 480 2880 (zA X)) (F0 m 0 ls []) := by
    intro cells slots hc1 hc2
    have hKK := wL_isDay_run hF hT hr (g' := g') (X := X) (N := N) (n0 := n) (e := e) (below := below) (r := r) 30
    have hK0 := hKK.1
    have hK1 := hKK.2
    unfold sL_isDay at h
    refine lv_iconst hx hb dL_isDay_0 rfl ?_
    refine lv_istore_n (lv' := [(3, z_v 0), (0, z_r N 0 0), (1, z_r N 17 0), (2, z_v x2)]) hx hb dL_isDay_1 rfl hl (by decide) rfl (fun ls hl => ?_)
    refine lv_iconst hx hb dL_isDay_2 rfl ?_
    refine lv_istore (lv' := [(4, z_v 0), (3, z_v 0), (0, z_r N 0 0), (1, z_r N 17 0), (2, z_v x2)]) hx hb dL_isDay_3 hl (by decide) rfl (fun ls hl => ?_)
    exact hK0 _ _ x2 0 0 0 0 _ _ _ _ (by omega)  hw (lv_sub hl [2, 3, 4, 1, 0] rfl) h
  exact key 0 0 (by omega) (by omega)


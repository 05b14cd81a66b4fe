/-! the law's methods: a step -/
def sL_step_j209 (n : Nat) (x7 : Int) (x8 : Int) (t1 : Int) (t2 : Int) (t3 : Int) (g : zG) : Option (Int × zG) := zix t1 3 (zst g 17 0 (t1).toNat (t2 + t3) (fun g => zeq x8 (-200) (zix 0 3 (zeq (g 17 0 (0 : Int).toNat) 24 (zbo 1 (some (1, g))) (zbo 0 (some (0, g))))) (zix 0 3 (zeq x8 ((g 17 0 (0 : Int).toNat) - 1) (zbn (sX4_flightIs x8 4 g) (fun r1 g => zeq r1 x7 (zbn (sX4_flightIs x8 2 g) (fun r2 g => zeq r2 (-1) (zbn (sX4_flightIs x8 3 g) (fun r3 g => zeq r3 (-1) (zbn (sX4_due n x8 g) (fun r4 g => zeq r4 0 (zbo 1 (some (1, g))) (zbo 0 (some (0, g))))) (zbo 0 (some (0, g))))) (zbo 0 (some (0, g))))) (zbo 0 (some (0, g))))) (zbo 0 (some (0, g)))))))
def sL_step_j178 (n : Nat) (x4 : Int) (t0 : Int) (g : zG) : Option (Int × zG) := zdv x4 4 (zbd (sL_acts ((x4).tmod 4) t0 0 0 0 g) (fun r1 g => zix 0 3 (zlt r1 0 ((sL_step_j209 n t0 r1 0 (g 17 0 (0 : Int).toNat) 0 g)) ((sL_step_j209 n t0 r1 0 (g 17 0 (0 : Int).toNat) 1 g)))))
def sL_step_j152 (n : Nat) (x3 : Int) (x4 : Int) (g : zG) : Option (Int × zG) := zdv x3 4 (zeq ((x3).tmod 4) 0 (zdv x3 4 (zdv ((x3).tdiv 4) 1440 ((sL_step_j178 n x4 (((x3).tdiv 4).tmod 1440) g)))) (zdv x3 4 (zdv ((x3).tdiv 4) 40 ((sL_step_j178 n x4 (400 + (((x3).tdiv 4).tmod 40)) g)))))
def sL_step_j294 (n : Nat) (x4 : Int) (x5 : Int) (g : zG) : Option (Int × zG) := zbn (sX4_flightIs x5 5 g) (fun r1 g => zdv x4 6 (zdv x4 6 (zdv ((x4).tdiv 6) 50 (zdv x4 512 (zdv ((x4).tdiv 512) 120 (zbd (sL_acts x5 ((x4).tmod 6) (((x4).tdiv 6).tmod 50) (1 + (((x4).tdiv 512).tmod 120)) 1 g) (fun r2 g => zeq r2 (-200) (zbn (sX4_flightIs x5 5 g) (fun r8 g => zeq r8 r1 (zbo 1 (some (1, g))) (zbo 0 (some (0, g))))) (zeq r2 (r1 + 1) (zdv x4 6 (zbn (sX4_over x5 ((x4).tmod 6) g) (fun r3 g => zbn (sX4_flightIs x5 4 g) (fun r4 g => zdv x4 6 (zdv ((x4).tdiv 6) 50 (zeq r3 (r4 + (((x4).tdiv 6).tmod 50)) (zbn (sX4_flightIs x5 0 g) (fun r5 g => zeq r5 0 (zdv x4 6 (zdv x4 6 (zbn (sX4_over x5 ((x4).tmod 6) g) (fun r6 g => zbn (sX4_inside n ((x4).tmod 6) r6 g) (fun r7 g => zle r7 0 (zbo 0 (some (0, g))) (zbo 1 (some (1, g)))))))) (zbo 0 (some (0, g))))) (zbo 0 (some (0, g))))))))) (zbo 0 (some (0, g)))))))))))
def sL_step_j620 (n : Nat) (x13 : Int) (t0 : Int) (t1 : Int) (g : zG) : Option (Int × zG) := zeq t0 t1 (zbd (sL_areSlots n x13 g) (fun r1 g => zeq r1 0 (zbo 0 (some (0, g))) (zbo 1 (some (1, g))))) (zbo 0 (some (0, g)))
def sL_step_j542 (n : Nat) (x3 : Int) (x11 : Int) (x13 : Int) (t1 : Int) (t2 : Int) (t3 : Int) (g : zG) : Option (Int × zG) := zix t1 3 (zst g 17 0 (t1).toNat (t2 + t3) (fun g => zeq x13 (-200) (zix 1 3 (zeq (g 17 0 (1 : Int).toNat) 6 (zbo 1 (some (1, g))) (zbo 0 (some (0, g))))) (zix 1 3 (zeq x13 ((g 17 0 (1 : Int).toNat) - 1) (zbn (sX4_regulationIs n x13 5 g) (fun r1 g => zdv x3 4096 (zdv ((x3).tdiv 4096) 16 (zeq r1 (((x3).tdiv 4096).tmod 16) (zbn (sX4_slot x13 0 g) (fun r2 g => zdv x3 4096 (zdv ((x3).tdiv 4096) 16 (zeq (((x3).tdiv 4096).tmod 16) 0 ((sL_step_j620 n x13 r2 (-1) g)) ((sL_step_j620 n x13 r2 x11 g)))))) (zbo 0 (some (0, g))))))) (zbo 0 (some (0, g)))))))
def sL_step_j502 (n : Nat) (x3 : Int) (x4 : Int) (x11 : Int) (t0 : Int) (g : zG) : Option (Int × zG) := zdv x4 6 (zdv x3 4096 (zdv ((x3).tdiv 4096) 16 (zbd (sL_acts ((x4).tmod 6) x11 t0 (((x3).tdiv 4096).tmod 16) 2 g) (fun r1 g => zix 1 3 (zlt r1 0 ((sL_step_j542 n x3 x11 r1 1 (g 17 0 (1 : Int).toNat) 0 g)) ((sL_step_j542 n x3 x11 r1 1 (g 17 0 (1 : Int).toNat) 1 g)))))))
def sL_step_j468 (n : Nat) (x3 : Int) (x4 : Int) (t0 : Int) (g : zG) : Option (Int × zG) := zdv x4 60 (zle ((t0 + 1) + ((x4).tmod 60)) 1440 (zdv x4 60 ((sL_step_j502 n x3 x4 t0 ((t0 + 1) + ((x4).tmod 60)) g))) ((sL_step_j502 n x3 x4 t0 1440 g)))
def sL_step_j442 (n : Nat) (x3 : Int) (x4 : Int) (g : zG) : Option (Int × zG) := zdv x3 5 (zeq ((x3).tmod 5) 0 (zdv x3 5 (zdv ((x3).tdiv 5) 1440 ((sL_step_j468 n x3 x4 (((x3).tdiv 5).tmod 1440) g)))) (zdv x3 5 (zdv ((x3).tdiv 5) 60 ((sL_step_j468 n x3 x4 (390 + (((x3).tdiv 5).tmod 60)) g)))))
def sL_step_j734 (n : Nat) (g : zG) : Option (Int × zG) := zbo 1 (some (1, g))
def sL_step_j704 (n : Nat) (x4 : Int) (x5 : Int) (t0 : Int) (t1 : Int) (g : zG) : Option (Int × zG) := zeq t0 t1 (zdv x4 3 (zle ((x4).tmod 3) 0 (zbn (sX4_flightIs x5 2 g) (fun r1 g => zeq r1 (-1) (zbn (sX4_due n x5 g) (fun r2 g => zeq r2 0 ((sL_step_j734 n g)) (zbo 0 (some (0, g))))) (zbo 0 (some (0, g))))) ((sL_step_j734 n g)))) (zbo 0 (some (0, g)))
def sL_step_j653 (n : Nat) (x4 : Int) (x5 : Int) (t1 : Int) (t2 : Int) (g : zG) : Option (Int × zG) := zbd (sL_exempts t1 t2 g) (fun r1 g => zeq r1 (-200) (zbn (sX4_flightIs x5 0 g) (fun r3 g => zle r3 0 (zbo 0 (some (0, g))) (zbo 1 (some (1, g))))) (zbn (sX4_flightIs x5 7 g) (fun r2 g => zdv x4 3 (zeq ((x4).tmod 3) 0 ((sL_step_j704 n x4 x5 r2 1 g)) ((sL_step_j704 n x4 x5 r2 0 g))))))
def sL_step_j638 (n : Nat) (x4 : Int) (x5 : Int) (g : zG) : Option (Int × zG) := zdv x4 3 (zeq ((x4).tmod 3) 0 ((sL_step_j653 n x4 x5 x5 1 g)) ((sL_step_j653 n x4 x5 x5 0 g)))
def sL_step_j779 (n : Nat) (g : zG) : Option (Int × zG) := zbo 1 (some (1, g))
def sL_step_j740 (n : Nat) (x3 : Int) (x6 : Int) (g : zG) : Option (Int × zG) := zix 1 3 (zeq (g 17 0 (1 : Int).toNat) 0 ((sL_step_j779 n g)) (zdv x3 16 (zbd (sL_acts x6 ((x3).tmod 16) 0 0 3 g) (fun r1 g => zeq r1 (-200) ((sL_step_j779 n g)) (zbn (sX4_regulationIs n x6 5 g) (fun r2 g => zdv x3 16 (zeq r2 ((x3).tmod 16) ((sL_step_j779 n g)) (zbo 0 (some (0, g))))))))))
def sL_step_j848 (n : Nat) (g : zG) : Option (Int × zG) := zbo 1 (some (1, g))
def sL_step_j785 (n : Nat) (x3 : Int) (x5 : Int) (x6 : Int) (g : zG) : Option (Int × zG) := zix 1 3 (zeq (g 17 0 (1 : Int).toNat) 0 ((sL_step_j848 n g)) (zdv x3 4 (zle ((x3).tmod 4) 0 (zbd (sL_ends x6 g) (fun r1 g => zeq r1 0 ((sL_step_j848 n g)) (zbn (sX4_regulationIs n x6 0 g) (fun r2 g => zeq r2 0 (zbn (sX4_slot x6 0 g) (fun r3 g => zeq r3 (-1) (zbn (sX4_penalty n x5 x6 g) (fun r4 g => zeq r4 (-1) (zbd (sL_ends x6 g) (fun r5 g => zeq r5 0 ((sL_step_j848 n g)) (zbo 0 (some (0, g))))) (zbo 0 (some (0, g))))) (zbo 0 (some (0, g))))) (zbo 0 (some (0, g))))))) ((sL_step_j848 n g)))))
def sL_step_j867 (n : Nat) (x5 : Int) (t2 : Int) (g : zG) : Option (Int × zG) := zbd (sL_isDealt n t2 x5 g) (fun r1 g => zbo r1 (some (r1, g)))
def sL_step_j854 (n : Nat) (x3 : Int) (x5 : Int) (g : zG) : Option (Int × zG) := zdv x3 3 (zeq ((x3).tmod 3) 0 ((sL_step_j867 n x5 1 g)) ((sL_step_j867 n x5 0 g)))
def sL_step_j873 (n : Nat) (x4 : Int) (x5 : Int) (g : zG) : Option (Int × zG) := zbd (sL_isSwapped x5 x4 g) (fun r1 g => zbo r1 (some (r1, g)))
def sL_step_j959 (n : Nat) (g : zG) : Option (Int × zG) := zbo 1 (some (1, g))
def sL_step_j883 (n : Nat) (x3 : Int) (x4 : Int) (g : zG) : Option (Int × zG) := zix 2 3 (zix 2 3 (zst g 17 0 (2 : Int).toNat ((g 17 0 (2 : Int).toNat) + 1) (fun g => zdv x4 240 (zlet (1 + ((x4).tmod 240)) (fun v1 => zix 2 3 (zle (g 17 0 (2 : Int).toNat) 3 (zdv x3 6 (zbn (sX4_peak n ((x3).tmod 6) v1 g) (fun r2 g => zdv x3 6 (zbn (sX4_peakAnew n ((x3).tmod 6) v1 g) (fun r3 g => zeq r2 r3 (zdv x3 6 (zdv x4 1500 (zbn (sX4_load n ((x3).tmod 6) ((x4).tmod 1500) v1 g) (fun r4 g => zdv x3 6 (zbn (sX4_peakAnew n ((x3).tmod 6) v1 g) (fun r5 g => zle r4 r5 ((sL_step_j959 n g)) (zbo 0 (some (0, g))))))))) (zbo 0 (some (0, g)))))))) ((sL_step_j959 n g))))))))
def sL_step_j965 (n : Nat) (x3 : Int) (x4 : Int) (g : zG) : Option (Int × zG) := zbd (sX4_allDue n g) (fun r1 g => zdv x3 6 (zdv x4 60 (zdv x4 60 (zdv x4 64 (zdv ((x4).tdiv 64) 60 (zdv x4 4096 (zdv ((x4).tdiv 4096) 16 (zbn (sX4_would n ((x3).tmod 6) (390 + ((x4).tmod 60)) ((391 + ((x4).tmod 60)) + (((x4).tdiv 64).tmod 60)) (((x4).tdiv 4096).tmod 16) g) (fun r2 g => zlt r2 r1 (zbo 0 (some (0, g))) (zbd (sX4_allDue n g) (fun r3 g => zeq r3 r1 (zbo 1 (some (1, g))) (zbo 0 (some (0, g))))))))))))))
def sL_step_j1035 (n : Nat) (x4 : Int) (x5 : Int) (g : zG) : Option (Int × zG) := zbd (sL_isTold n x5 x4 g) (fun r1 g => zbo r1 (some (r1, g)))
def sL_step_j49 (n : Nat) (x3 : Int) (x4 : Int) (x5 : Int) (x6 : Int) (t0 : Int) (g : zG) : Option (Int × zG) := zeq t0 0 ((sL_step_j152 n x3 x4 g)) (zeq t0 1 ((sL_step_j152 n x3 x4 g)) (zeq t0 2 ((sL_step_j152 n x3 x4 g)) (zeq t0 3 ((sL_step_j294 n x4 x5 g)) (zeq t0 4 ((sL_step_j294 n x4 x5 g)) (zeq t0 5 ((sL_step_j294 n x4 x5 g)) (zeq t0 6 ((sL_step_j294 n x4 x5 g)) (zeq t0 7 ((sL_step_j294 n x4 x5 g)) (zeq t0 8 ((sL_step_j442 n x3 x4 g)) (zeq t0 9 ((sL_step_j442 n x3 x4 g)) (zeq t0 10 ((sL_step_j638 n x4 x5 g)) (zeq t0 11 ((sL_step_j740 n x3 x6 g)) (zeq t0 12 ((sL_step_j785 n x3 x5 x6 g)) (zeq t0 13 ((sL_step_j854 n x3 x5 g)) (zeq t0 14 ((sL_step_j854 n x3 x5 g)) (zeq t0 15 ((sL_step_j854 n x3 x5 g)) (zeq t0 16 ((sL_step_j854 n x3 x5 g)) (zeq t0 17 ((sL_step_j873 n x4 x5 g)) (zeq t0 18 ((sL_step_j873 n x4 x5 g)) (zeq t0 19 ((sL_step_j873 n x4 x5 g)) (zeq t0 20 ((sL_step_j883 n x3 x4 g)) (zeq t0 21 ((sL_step_j965 n x3 x4 g)) ((sL_step_j1035 n x4 x5 g)))))))))))))))))))))))
def sL_step_j33 (n : Nat) (x2 : Int) (x3 : Int) (x4 : Int) (x5 : Int) (t0 : Int) (g : zG) : Option (Int × zG) := zix 0 3 (zeq (g 17 0 (0 : Int).toNat) 0 ((sL_step_j49 n x3 x4 x5 t0 0 g)) (zdv x2 26 ((sL_step_j49 n x3 x4 x5 t0 ((x2).tmod 26) g))))
def sL_step_j15 (n : Nat) (x2 : Int) (x3 : Int) (x4 : Int) (t0 : Int) (g : zG) : Option (Int × zG) := zix 1 3 (zeq (g 17 0 (1 : Int).toNat) 0 ((sL_step_j33 n x2 x3 x4 t0 0 g)) (zix 1 3 (zdv x4 (g 17 0 (1 : Int).toNat) ((sL_step_j33 n x2 x3 x4 t0 ((x4).tmod (g 17 0 (1 : Int).toNat)) g)))))
def sL_step (n : Nat) (x2 : Int) (x3 : Int) (x4 : Int) (g : zG) : Option (Int × zG) := zix 0 3 (zeq (g 17 0 (0 : Int).toNat) 0 ((sL_step_j15 n x2 x3 x4 0 g)) (zix 0 3 (zdv x3 (g 17 0 (0 : Int).toNat) ((sL_step_j15 n x2 x3 x4 ((x3).tmod (g 17 0 (0 : Int).toNat)) g)))))
set_option maxHeartbeats 4000000 in
set_option maxRecDepth 100000 in
theorem wL_step_j209 {p : Program} {l : Launch} {e : Env} {s : State} {m : MethodId} {args : Array Value} {below : List Frame} {meth : Method} {c : Code} {X : zC} {N0 : zN} {N : zN} {r : Int} {g' : zG} (hF : zF p s m args meth c X cL_step 17 RL) (hT : l.stackTraces = false) (hr : meth.sig.returnType = (some .boolean)) (hsm : zSame N0 N) (hnp : zNp N) {n : Nat} {cells slots : Nat} (hcs : cells + 7 ≤ 310 ∧ slots + 42 ≤ 1860) {x7 : Int} {x8 : Int} {t1 : Int} {t2 : Int} {t3 : Int} {g : zG} {H : Heap} {locs : List Loc} {ls : Array Slot} (hw : zH X N g s H locs) (hl : lv_has ls 17 [(0, z_r N 0 0), (1, z_r N 17 0), (7, z_v x7), (8, z_v x8)]) (h : sL_step_j209 n x7 x8 t1 t2 t3 g = some (r, g')) : W p l e { frames := 10, cells := 310, slots := 1860, locals := 250 } s m args below meth c H locs cells slots (MQ below (zQn X N0 r g') args s 310 1860 (zA X)) (F0 m 209 ls [z_v t3, z_v t2, z_v t1, z_r N 17 0]) := by
  have hx := hF.1.1
  have hb := hF.1.2.1
  unfold sL_step_j209 at h
  refine zr_iadd hF dL_step_209 ?_
  refine zr_iast hF hw zEf_17_0 (by decide) h dL_step_210 (fun g H locs hw h => ?_)
  refine lv_iload hx hb dL_step_211 (lv_at hl 3 rfl) ?_
  refine lv_sipush (v := Int32.ofInt (-200)) hx hb dL_step_213 (by decide) ?_
  refine zr_icmp_ne (tgt := 235) hF h dL_step_216 (by decide) (fun h => ?_) (fun h => ?_)
  · refine lv_iload hx hb dL_step_235 (lv_at hl 3 rfl) ?_
    refine lv_aload_n hx hb dL_step_237 rfl (lv_at hl 1 rfl) ?_
    refine lv_iconst hx hb dL_step_238 rfl ?_
    refine zr_iald hF hw zEf_17_0 (by decide) h dL_step_239 (fun h => ?_)
    refine lv_iconst hx hb dL_step_240 rfl ?_
    refine zr_isub hF dL_step_241 ?_
    refine zr_icmp_ne (tgt := 292) hF h dL_step_242 (by decide) (fun h => ?_) (fun h => ?_)
    · refine lv_iconst hx hb dL_step_292 rfl ?_
      exact zp_zretn hF hr hsm hw h dL_step_293 ⟨by omega, by omega⟩
    · refine lv_aload_n hx hb dL_step_245 rfl (lv_at hl 0 rfl) ?_
      refine lv_iload hx hb dL_step_246 (lv_at hl 3 rfl) ?_
      refine lv_iconst hx hb dL_step_248 rfl ?_
      obtain ⟨o1, g1, h1, h⟩ := zbn_some h
      refine zw_callVi (n := 2) (As := [z_v x8, z_v 4]) (rest := []) hF hw (czX4_flightIs l hT X N h1) h zEf_0_0 (by decide) zC_0 (z_goodV qw_631 qw_632 qw_633 qw_15 qw_634) (by decide +kernel) ⟨Nat.le_of_ble_eq_true rfl, Nat.le_of_ble_eq_true rfl⟩ rfl hl.1 rfl (Nat.le_of_ble_eq_true rfl) dL_step_249 ⟨by show cells + 2 ≤ 310; omega, by show slots + 12 ≤ 1860; omega⟩ (fun h => h.elim) (fun H locs hw h => ?_)
      clear h1
      generalize g1 = g at *
      generalize o1.2 = r1 at *
      refine W.widen (k := cells + 2) (n := slots + 12) (by show cells + 2 ≤ cells + 2; omega) (by show slots + 12 ≤ slots + 12; omega) ?_
      refine lv_iload hx hb dL_step_252 (lv_at hl 2 rfl) ?_
      refine zr_icmp_ne (tgt := 292) hF h dL_step_254 (by decide) (fun h => ?_) (fun h => ?_)
      · refine lv_iconst hx hb dL_step_292 rfl ?_
        exact zp_zretn hF hr hsm hw h dL_step_293 ⟨by omega, by omega⟩
      · refine lv_aload_n hx hb dL_step_257 rfl (lv_at hl 0 rfl) ?_
        refine lv_iload hx hb dL_step_258 (lv_at hl 3 rfl) ?_
        refine lv_iconst hx hb dL_step_260 rfl ?_
        obtain ⟨o1, g1, h1, h⟩ := zbn_some h
        refine zw_callVi (n := 2) (As := [z_v x8, z_v 2]) (rest := []) hF hw (czX4_flightIs l hT X N h1) h zEf_0_0 (by decide) zC_0 (z_goodV qw_631 qw_632 qw_633 qw_15 qw_634) (by decide +kernel) ⟨Nat.le_of_ble_eq_true rfl, Nat.le_of_ble_eq_true rfl⟩ rfl hl.1 rfl (Nat.le_of_ble_eq_true rfl) dL_step_261 ⟨by show cells + 2 + 2 ≤ 310; omega, by show slots + 12 + 12 ≤ 1860; omega⟩ (fun h => h.elim) (fun H locs hw h => ?_)
        clear h1
        generalize g1 = g at *
        generalize o1.2 = r2 at *
        refine W.widen (k := cells + 4) (n := slots + 24) (by show cells + 2 + 2 ≤ cells + 4; omega) (by show slots + 12 + 12 ≤ slots + 24; omega) ?_
        refine lv_iconst hx hb dL_step_264 rfl ?_
        refine zr_icmp_ne (tgt := 292) hF h dL_step_265 (by decide) (fun h => ?_) (fun h => ?_)
        · refine lv_iconst hx hb dL_step_292 rfl ?_
          exact zp_zretn hF hr hsm hw h dL_step_293 ⟨by omega, by omega⟩
        · refine lv_aload_n hx hb dL_step_268 rfl (lv_at hl 0 rfl) ?_
          refine lv_iload hx hb dL_step_269 (lv_at hl 3 rfl) ?_
          refine lv_iconst hx hb dL_step_271 rfl ?_
          obtain ⟨o1, g1, h1, h⟩ := zbn_some h
          refine zw_callVi (n := 2) (As := [z_v x8, z_v 3]) (rest := []) hF hw (czX4_flightIs l hT X N h1) h zEf_0_0 (by decide) zC_0 (z_goodV qw_631 qw_632 qw_633 qw_15 qw_634) (by decide +kernel) ⟨Nat.le_of_ble_eq_true rfl, Nat.le_of_ble_eq_true rfl⟩ rfl hl.1 rfl (Nat.le_of_ble_eq_true rfl) dL_step_272 ⟨by show cells + 4 + 2 ≤ 310; omega, by show slots + 24 + 12 ≤ 1860; omega⟩ (fun h => h.elim) (fun H locs hw h => ?_)
          clear h1
          generalize g1 = g at *
          generalize o1.2 = r3 at *
          refine W.widen (k := cells + 6) (n := slots + 36) (by show cells + 4 + 2 ≤ cells + 6; omega) (by show slots + 24 + 12 ≤ slots + 36; omega) ?_
          refine lv_iconst hx hb dL_step_275 rfl ?_
          refine zr_icmp_ne (tgt := 292) hF h dL_step_276 (by decide) (fun h => ?_) (fun h => ?_)
          · refine lv_iconst hx hb dL_step_292 rfl ?_
            exact zp_zretn hF hr hsm hw h dL_step_293 ⟨by omega, by omega⟩
          · refine lv_aload_n hx hb dL_step_279 rfl (lv_at hl 0 rfl) ?_
            refine lv_iload hx hb dL_step_280 (lv_at hl 3 rfl) ?_
            obtain ⟨o1, g1, h1, h⟩ := zbn_some h
            refine zw_callVi (n := 1) (As := [z_v x8]) (rest := []) hF hw (czX4_due l hT X N h1) h zEf_0_0 (by decide) zC_0 (z_goodV qw_636 qw_637 qw_638 qw_15 qw_639) (by decide +kernel) ⟨Nat.le_of_ble_eq_true rfl, Nat.le_of_ble_eq_true rfl⟩ rfl hl.1 rfl (Nat.le_of_ble_eq_true rfl) dL_step_282 ⟨by show cells + 6 + 1 ≤ 310; omega, by show slots + 36 + 6 ≤ 1860; omega⟩ (fun h => h.elim) (fun H locs hw h => ?_)
            clear h1
            generalize g1 = g at *
            generalize o1.2 = r4 at *
            refine W.widen (k := cells + 7) (n := slots + 42) (by show cells + 6 + 1 ≤ cells + 7; omega) (by show slots + 36 + 6 ≤ slots + 42; omega) ?_
            refine zr_if_ne (tgt := 292) hF h dL_step_285 (by decide) (fun h => ?_) (fun h => ?_)
            · refine lv_iconst hx hb dL_step_292 rfl ?_
              exact zp_zretn hF hr hsm hw h dL_step_293 ⟨by omega, by omega⟩
            · refine lv_iconst hx hb dL_step_288 rfl ?_
              refine lv_goto (tgt := 293) hx hb dL_step_289 (by decide) ?_
              exact zp_zretn hF hr hsm hw h dL_step_293 ⟨by omega, by omega⟩
  · refine lv_aload_n hx hb dL_step_219 rfl (lv_at hl 1 rfl) ?_
    refine lv_iconst hx hb dL_step_220 rfl ?_
    refine zr_iald hF hw zEf_17_0 (by decide) h dL_step_221 (fun h => ?_)
    refine lv_bipush (v := Int32.ofInt (24)) hx hb dL_step_222 (by decide) ?_
    refine zr_icmp_ne (tgt := 231) hF h dL_step_224 (by decide) (fun h => ?_) (fun h => ?_)
    · refine lv_iconst hx hb dL_step_231 rfl ?_
      refine lv_goto (tgt := 293) hx hb dL_step_232 (by decide) ?_
      exact zp_zretn hF hr hsm hw h dL_step_293 ⟨by omega, by omega⟩
    · refine lv_iconst hx hb dL_step_227 rfl ?_
      refine lv_goto (tgt := 293) hx hb dL_step_228 (by decide) ?_
      exact zp_zretn hF hr hsm hw h dL_step_293 ⟨by omega, by omega⟩
set_option maxHeartbeats 4000000 in
set_option maxRecDepth 100000 in
theorem wL_step_j178 {p : Program} {l : Launch} {e : Env} {s : State} {m : MethodId} {args : Array Value} {below : List Frame} {meth : Method} {c : Code} {X : zC} {N0 : zN} {N : zN} {r : Int} {g' : zG} (hF : zF p s m args meth c X cL_step 17 RL) (hT : l.stackTraces = false) (hr : meth.sig.returnType = (some .boolean)) (hsm : zSame N0 N) (hnp : zNp N) {n : Nat} {cells slots : Nat} (hcs : cells + 13 ≤ 310 ∧ slots + 122 ≤ 1860) {x4 : Int} {t0 : Int} {g : zG} {H : Heap} {locs : List Loc} {ls : Array Slot} (hw : zH X N g s H locs) (hl : lv_has ls 17 [(0, z_r N 0 0), (1, z_r N 17 0), (4, z_v x4)]) (h : sL_step_j178 n x4 t0 g = some (r, g')) : W p l e { frames := 10, cells := 310, slots := 1860, locals := 250 } s m args below meth c H locs cells slots (MQ below (zQn X N0 r g') args s 310 1860 (zA X)) (F0 m 178 ls [z_v t0]) := by
  have hx := hF.1.1
  have hb := hF.1.2.1
  unfold sL_step_j178 at h
  refine lv_istore (lv' := [(7, z_v t0), (0, z_r N 0 0), (1, z_r N 17 0), (4, z_v x4)]) hx hb dL_step_178 hl (by decide) rfl (fun ls hl => ?_)
  refine lv_aload_n hx hb dL_step_180 rfl (lv_at hl 1 rfl) ?_
  refine lv_iload hx hb dL_step_181 (lv_at hl 3 rfl) ?_
  refine lv_iconst hx hb dL_step_183 rfl ?_
  refine zr_irem hF h dL_step_184 (fun h => ?_)
  refine lv_iload hx hb dL_step_185 (lv_at hl 0 rfl) ?_
  refine lv_iconst hx hb dL_step_187 rfl ?_
  refine lv_iconst hx hb dL_step_188 rfl ?_
  refine lv_iconst hx hb dL_step_189 rfl ?_
  obtain ⟨r1, g1, h1, h⟩ := zbd_some h
  refine zp_callWn (n := 6) (As := [z_r N 0 0, z_v ((x4).tmod 4), z_v t0, z_v 0, z_v 0, z_v 0]) (rest := []) hF hw (czL_acts l hT X N hnp h1) (z_goodSW qw_432 qw_433 qw_14 qw_434) (by decide +kernel) ⟨Nat.le_of_ble_eq_true rfl, Nat.le_of_ble_eq_true rfl⟩ rfl hl.1 rfl (Nat.le_of_ble_eq_true rfl) dL_step_190 ⟨by show cells + 6 ≤ 310; omega, by show slots + 80 ≤ 1860; omega⟩ (fun N H locs hsm1 hw => ?_)
  clear h1
  generalize g1 = g at *
  have hl : lv_has ls 17 [(7, z_v t0), (0, z_r N 0 0), (1, z_r N 17 0), (4, z_v x4)] := by rw [z_e0 hsm1, z_e17 hsm1]; exact hl
  have hnp := hsm1.2 hnp
  have hsm := hsm.tr hsm1
  clear hsm1
  refine W.widen (k := cells + 6) (n := slots + 80) (by show cells + 6 ≤ cells + 6; omega) (by show slots + 80 ≤ slots + 80; omega) ?_
  refine lv_istore (lv' := [(8, z_v r1), (7, z_v t0), (0, z_r N 0 0), (1, z_r N 17 0), (4, z_v x4)]) hx hb dL_step_193 hl (by decide) rfl (fun ls hl => ?_)
  refine lv_aload_n hx hb dL_step_195 rfl (lv_at hl 3 rfl) ?_
  refine lv_iconst hx hb dL_step_196 rfl ?_
  refine lv_dup2_11 hx hb dL_step_197 rfl rfl ?_
  refine zr_iald hF hw zEf_17_0 (by decide) h dL_step_198 (fun h => ?_)
  refine lv_iload hx hb dL_step_199 (lv_at hl 0 rfl) ?_
  refine zr_if_ge (tgt := 208) hF h dL_step_201 (by decide) (fun h => ?_) (fun h => ?_)
  · refine lv_iconst hx hb dL_step_208 rfl ?_
    exact wL_step_j209 hF hT hr hsm hnp (by omega)  hw (lv_sub hl [2, 3, 1, 0] rfl) h
  · refine lv_iconst hx hb dL_step_204 rfl ?_
    refine lv_goto (tgt := 209) hx hb dL_step_205 (by decide) ?_
    exact wL_step_j209 hF hT hr hsm hnp (by omega)  hw (lv_sub hl [2, 3, 1, 0] rfl) h
set_option maxHeartbeats 4000000 in
set_option maxRecDepth 100000 in
theorem wL_step_j152 {p : Program} {l : Launch} {e : Env} {s : State} {m : MethodId} {args : Array Value} {below : List Frame} {meth : Method} {c : Code} {X : zC} {N0 : zN} {N : zN} {r : Int} {g' : zG} (hF : zF p s m args meth c X cL_step 17 RL) (hT : l.stackTraces = false) (hr : meth.sig.returnType = (some .boolean)) (hsm : zSame N0 N) (hnp : zNp N) {n : Nat} {cells slots : Nat} (hcs : cells + 13 ≤ 310 ∧ slots + 122 ≤ 1860) {x3 : Int} {x4 : Int} {g : zG} {H : Heap} {locs : List Loc} {ls : Array Slot} (hw : zH X N g s H locs) (hl : lv_has ls 17 [(0, z_r N 0 0), (1, z_r N 17 0), (3, z_v x3), (4, z_v x4)]) (h : sL_step_j152 n x3 x4 g = some (r, g')) : W p l e { frames := 10, cells := 310, slots := 1860, locals := 250 } s m args below meth c H locs cells slots (MQ below (zQn X N0 r g') args s 310 1860 (zA X)) (F0 m 152 ls []) := by
  have hx := hF.1.1
  have hb := hF.1.2.1
  unfold sL_step_j152 at h
  refine lv_iload_n hx hb dL_step_152 rfl (lv_at hl 2 rfl) ?_
  refine lv_iconst hx hb dL_step_153 rfl ?_
  refine zr_irem hF h dL_step_154 (fun h => ?_)
  refine zr_if_ne (tgt := 168) hF h dL_step_155 (by decide) (fun h => ?_) (fun h => ?_)
  · refine lv_sipush (v := Int32.ofInt (400)) hx hb dL_step_168 (by decide) ?_
    refine lv_iload_n hx hb dL_step_171 rfl (lv_at hl 2 rfl) ?_
    refine lv_iconst hx hb dL_step_172 rfl ?_
    refine zr_idiv hF h dL_step_173 (fun h => ?_)
    refine lv_bipush (v := Int32.ofInt (40)) hx hb dL_step_174 (by decide) ?_
    refine zr_irem hF h dL_step_176 (fun h => ?_)
    refine zr_iadd hF dL_step_177 ?_
    exact wL_step_j178 hF hT hr hsm hnp (by omega)  hw (lv_sub hl [0, 1, 3] rfl) h
  · refine lv_iload_n hx hb dL_step_158 rfl (lv_at hl 2 rfl) ?_
    refine lv_iconst hx hb dL_step_159 rfl ?_
    refine zr_idiv hF h dL_step_160 (fun h => ?_)
    refine lv_sipush (v := Int32.ofInt (1440)) hx hb dL_step_161 (by decide) ?_
    refine zr_irem hF h dL_step_164 (fun h => ?_)
    refine lv_goto (tgt := 178) hx hb dL_step_165 (by decide) ?_
    exact wL_step_j178 hF hT hr hsm hnp (by omega)  hw (lv_sub hl [0, 1, 3] rfl) h
set_option maxHeartbeats 4000000 in
set_option maxRecDepth 100000 in
theorem wL_step_j294 {p : Program} {l : Launch} {e : Env} {s : State} {m : MethodId} {args : Array Value} {below : List Frame} {meth : Method} {c : Code} {X : zC} {N0 : zN} {N : zN} {r : Int} {g' : zG} (hF : zF p s m args meth c X cL_step 17 RL) (hT : l.stackTraces = false) (hr : meth.sig.returnType = (some .boolean)) (hsm : zSame N0 N) (hnp : zNp N) {n : Nat} {cells slots : Nat} (hcs : cells + 18 ≤ 310 ∧ slots + 152 ≤ 1860) {x4 : Int} {x5 : Int} {g : zG} {H : Heap} {locs : List Loc} {ls : Array Slot} (hw : zH X N g s H locs) (hl : lv_has ls 17 [(0, z_r N 0 0), (4, z_v x4), (5, z_v x5)]) (h : sL_step_j294 n x4 x5 g = some (r, g')) : W p l e { frames := 10, cells := 310, slots := 1860, locals := 250 } s m args below meth c H locs cells slots (MQ below (zQn X N0 r g') args s 310 1860 (zA X)) (F0 m 294 ls []) := by
  have hx := hF.1.1
  have hb := hF.1.2.1
  unfold sL_step_j294 at h
  refine lv_aload_n hx hb dL_step_294 rfl (lv_at hl 0 rfl) ?_
  refine lv_iload hx hb dL_step_295 (lv_at hl 2 rfl) ?_
  refine lv_iconst hx hb dL_step_297 rfl ?_
  obtain ⟨o1, g1, h1, h⟩ := zbn_some h
  refine zw_callVi (n := 2) (As := [z_v x5, z_v 5]) (rest := []) hF hw (czX4_flightIs l hT X N h1) h zEf_0_0 (by decide) zC_0 (z_goodV qw_631 qw_632 qw_633 qw_15 qw_634) (by decide +kernel) ⟨Nat.le_of_ble_eq_true rfl, Nat.le_of_ble_eq_true rfl⟩ rfl hl.1 rfl (Nat.le_of_ble_eq_true rfl) dL_step_298 ⟨by show cells + 2 ≤ 310; omega, by show slots + 12 ≤ 1860; omega⟩ (fun h => h.elim) (fun H locs hw h => ?_)
  clear h1
  generalize g1 = g at *
  generalize o1.2 = r1 at *
  refine W.widen (k := cells + 2) (n := slots + 12) (by show cells + 2 ≤ cells + 2; omega) (by show slots + 12 ≤ slots + 12; omega) ?_
  refine lv_istore (lv' := [(9, z_v r1), (0, z_r N 0 0), (4, z_v x4), (5, z_v x5)]) hx hb dL_step_301 hl (by decide) rfl (fun ls hl => ?_)
  refine lv_aload_n hx hb dL_step_303 rfl (lv_at hl 1 rfl) ?_
  refine lv_iload hx hb dL_step_304 (lv_at hl 3 rfl) ?_
  refine lv_iload hx hb dL_step_306 (lv_at hl 2 rfl) ?_
  refine lv_bipush (v := Int32.ofInt (6)) hx hb dL_step_308 (by decide) ?_
  refine zr_irem hF h dL_step_310 (fun h => ?_)
  refine lv_iload hx hb dL_step_311 (lv_at hl 2 rfl) ?_
  refine lv_bipush (v := Int32.ofInt (6)) hx hb dL_step_313 (by decide) ?_
  refine zr_idiv hF h dL_step_315 (fun h => ?_)
  refine lv_bipush (v := Int32.ofInt (50)) hx hb dL_step_316 (by decide) ?_
  refine zr_irem hF h dL_step_318 (fun h => ?_)
  refine lv_iconst hx hb dL_step_319 rfl ?_
  refine lv_iload hx hb dL_step_320 (lv_at hl 2 rfl) ?_
  refine lv_sipush (v := Int32.ofInt (512)) hx hb dL_step_322 (by decide) ?_
  refine zr_idiv hF h dL_step_325 (fun h => ?_)
  refine lv_bipush (v := Int32.ofInt (120)) hx hb dL_step_326 (by decide) ?_
  refine zr_irem hF h dL_step_328 (fun h => ?_)
  refine zr_iadd hF dL_step_329 ?_
  refine lv_iconst hx hb dL_step_330 rfl ?_
  obtain ⟨r2, g1, h1, h⟩ := zbd_some h
  refine zp_callWn (n := 6) (As := [z_r N 0 0, z_v x5, z_v ((x4).tmod 6), z_v (((x4).tdiv 6).tmod 50), z_v (1 + (((x4).tdiv 512).tmod 120)), z_v 1]) (rest := []) hF hw (czL_acts l hT X N hnp h1) (z_goodSW qw_432 qw_433 qw_14 qw_434) (by decide +kernel) ⟨Nat.le_of_ble_eq_true rfl, Nat.le_of_ble_eq_true rfl⟩ rfl hl.1 rfl (Nat.le_of_ble_eq_true rfl) dL_step_331 ⟨by show cells + 2 + 6 ≤ 310; omega, by show slots + 12 + 80 ≤ 1860; omega⟩ (fun N H locs hsm1 hw => ?_)
  clear h1
  generalize g1 = g at *
  have hl : lv_has ls 17 [(9, z_v r1), (0, z_r N 0 0), (4, z_v x4), (5, z_v x5)] := by rw [z_e0 hsm1]; exact hl
  have hnp := hsm1.2 hnp
  have hsm := hsm.tr hsm1
  clear hsm1
  refine W.widen (k := cells + 8) (n := slots + 92) (by show cells + 2 + 6 ≤ cells + 8; omega) (by show slots + 12 + 80 ≤ slots + 92; omega) ?_
  refine lv_istore (lv' := [(10, z_v r2), (9, z_v r1), (0, z_r N 0 0), (4, z_v x4), (5, z_v x5)]) hx hb dL_step_334 hl (by decide) rfl (fun ls hl => ?_)
  refine lv_iload hx hb dL_step_336 (lv_at hl 0 rfl) ?_
  refine lv_sipush (v := Int32.ofInt (-200)) hx hb dL_step_338 (by decide) ?_
  refine zr_icmp_ne (tgt := 364) hF h dL_step_341 (by decide) (fun h => ?_) (fun h => ?_)
  · refine lv_iload hx hb dL_step_364 (lv_at hl 0 rfl) ?_
    refine lv_iload hx hb dL_step_366 (lv_at hl 1 rfl) ?_
    refine lv_iconst hx hb dL_step_368 rfl ?_
    refine zr_iadd hF dL_step_369 ?_
    refine zr_icmp_ne (tgt := 440) hF h dL_step_370 (by decide) (fun h => ?_) (fun h => ?_)
    · refine lv_iconst hx hb dL_step_440 rfl ?_
      exact zp_zretn hF hr hsm hw h dL_step_441 ⟨by omega, by omega⟩
    · refine lv_aload_n hx hb dL_step_373 rfl (lv_at hl 2 rfl) ?_
      refine lv_iload hx hb dL_step_374 (lv_at hl 4 rfl) ?_
      refine lv_iload hx hb dL_step_376 (lv_at hl 3 rfl) ?_
      refine lv_bipush (v := Int32.ofInt (6)) hx hb dL_step_378 (by decide) ?_
      refine zr_irem hF h dL_step_380 (fun h => ?_)
      obtain ⟨o1, g1, h1, h⟩ := zbn_some h
      refine zw_callVi (n := 2) (As := [z_v x5, z_v ((x4).tmod 6)]) (rest := []) hF hw (czX4_over l hT X N h1) h zEf_0_0 (by decide) zC_0 (z_goodV qw_640 qw_641 qw_642 qw_15 qw_643) (by decide +kernel) ⟨Nat.le_of_ble_eq_true rfl, Nat.le_of_ble_eq_true rfl⟩ rfl hl.1 rfl (Nat.le_of_ble_eq_true rfl) dL_step_381 ⟨by show cells + 8 + 2 ≤ 310; omega, by show slots + 92 + 12 ≤ 1860; omega⟩ (fun h => h.elim) (fun H locs hw h => ?_)
      clear h1
      generalize g1 = g at *
      generalize o1.2 = r3 at *
      refine W.widen (k := cells + 10) (n := slots + 104) (by show cells + 8 + 2 ≤ cells + 10; omega) (by show slots + 92 + 12 ≤ slots + 104; omega) ?_
      refine lv_aload_n hx hb dL_step_384 rfl (lv_at hl 2 rfl) ?_
      refine lv_iload hx hb dL_step_385 (lv_at hl 4 rfl) ?_
      refine lv_iconst hx hb dL_step_387 rfl ?_
      obtain ⟨o1, g1, h1, h⟩ := zbn_some h
      refine zw_callVi (n := 2) (As := [z_v x5, z_v 4]) (rest := [z_v r3]) hF hw (czX4_flightIs l hT X N h1) h zEf_0_0 (by decide) zC_0 (z_goodV qw_631 qw_632 qw_633 qw_15 qw_634) (by decide +kernel) ⟨Nat.le_of_ble_eq_true rfl, Nat.le_of_ble_eq_true rfl⟩ rfl hl.1 rfl (Nat.le_of_ble_eq_true rfl) dL_step_388 ⟨by show cells + 10 + 2 ≤ 310; omega, by show slots + 104 + 12 ≤ 1860; omega⟩ (fun h => h.elim) (fun H locs hw h => ?_)
      clear h1
      generalize g1 = g at *
      generalize o1.2 = r4 at *
      refine W.widen (k := cells + 12) (n := slots + 116) (by show cells + 10 + 2 ≤ cells + 12; omega) (by show slots + 104 + 12 ≤ slots + 116; omega) ?_
      refine lv_iload hx hb dL_step_391 (lv_at hl 3 rfl) ?_
      refine lv_bipush (v := Int32.ofInt (6)) hx hb dL_step_393 (by decide) ?_
      refine zr_idiv hF h dL_step_395 (fun h => ?_)
      refine lv_bipush (v := Int32.ofInt (50)) hx hb dL_step_396 (by decide) ?_
      refine zr_irem hF h dL_step_398 (fun h => ?_)
      refine zr_iadd hF dL_step_399 ?_
      refine zr_icmp_ne (tgt := 440) hF h dL_step_400 (by decide) (fun h => ?_) (fun h => ?_)
      · refine lv_iconst hx hb dL_step_440 rfl ?_
        exact zp_zretn hF hr hsm hw h dL_step_441 ⟨by omega, by omega⟩
      · refine lv_aload_n hx hb dL_step_403 rfl (lv_at hl 2 rfl) ?_
        refine lv_iload hx hb dL_step_404 (lv_at hl 4 rfl) ?_
        refine lv_iconst hx hb dL_step_406 rfl ?_
        obtain ⟨o1, g1, h1, h⟩ := zbn_some h
        refine zw_callVi (n := 2) (As := [z_v x5, z_v 0]) (rest := []) hF hw (czX4_flightIs l hT X N h1) h zEf_0_0 (by decide) zC_0 (z_goodV qw_631 qw_632 qw_633 qw_15 qw_634) (by decide +kernel) ⟨Nat.le_of_ble_eq_true rfl, Nat.le_of_ble_eq_true rfl⟩ rfl hl.1 rfl (Nat.le_of_ble_eq_true rfl) dL_step_407 ⟨by show cells + 12 + 2 ≤ 310; omega, by show slots + 116 + 12 ≤ 1860; omega⟩ (fun h => h.elim) (fun H locs hw h => ?_)
        clear h1
        generalize g1 = g at *
        generalize o1.2 = r5 at *
        refine W.widen (k := cells + 14) (n := slots + 128) (by show cells + 12 + 2 ≤ cells + 14; omega) (by show slots + 116 + 12 ≤ slots + 128; omega) ?_
        refine zr_if_ne (tgt := 440) hF h dL_step_410 (by decide) (fun h => ?_) (fun h => ?_)
        · refine lv_iconst hx hb dL_step_440 rfl ?_
          exact zp_zretn hF hr hsm hw h dL_step_441 ⟨by omega, by omega⟩
        · refine lv_aload_n hx hb dL_step_413 rfl (lv_at hl 2 rfl) ?_
          refine lv_iload hx hb dL_step_414 (lv_at hl 3 rfl) ?_
          refine lv_bipush (v := Int32.ofInt (6)) hx hb dL_step_416 (by decide) ?_
          refine zr_irem hF h dL_step_418 (fun h => ?_)
          refine lv_aload_n hx hb dL_step_419 rfl (lv_at hl 2 rfl) ?_
          refine lv_iload hx hb dL_step_420 (lv_at hl 4 rfl) ?_
          refine lv_iload hx hb dL_step_422 (lv_at hl 3 rfl) ?_
          refine lv_bipush (v := Int32.ofInt (6)) hx hb dL_step_424 (by decide) ?_
          refine zr_irem hF h dL_step_426 (fun h => ?_)
          obtain ⟨o1, g1, h1, h⟩ := zbn_some h
          refine zw_callVi (n := 2) (As := [z_v x5, z_v ((x4).tmod 6)]) (rest := [z_v ((x4).tmod 6), z_r N 0 0]) hF hw (czX4_over l hT X N h1) h zEf_0_0 (by decide) zC_0 (z_goodV qw_640 qw_641 qw_642 qw_15 qw_643) (by decide +kernel) ⟨Nat.le_of_ble_eq_true rfl, Nat.le_of_ble_eq_true rfl⟩ rfl hl.1 rfl (Nat.le_of_ble_eq_true rfl) dL_step_427 ⟨by show cells + 14 + 2 ≤ 310; omega, by show slots + 128 + 12 ≤ 1860; omega⟩ (fun h => h.elim) (fun H locs hw h => ?_)
          clear h1
          generalize g1 = g at *
          generalize o1.2 = r6 at *
          refine W.widen (k := cells + 16) (n := slots + 140) (by show cells + 14 + 2 ≤ cells + 16; omega) (by show slots + 128 + 12 ≤ slots + 140; omega) ?_
          obtain ⟨o1, g1, h1, h⟩ := zbn_some h
          refine zw_callVi (n := 2) (As := [z_v ((x4).tmod 6), z_v r6]) (rest := []) hF hw (czX4_inside l hT X N h1) h zEf_0_0 (by decide) zC_0 (z_goodV qw_644 qw_645 qw_646 qw_15 qw_647) (by decide +kernel) ⟨Nat.le_of_ble_eq_true rfl, Nat.le_of_ble_eq_true rfl⟩ rfl hl.1 rfl (Nat.le_of_ble_eq_true rfl) dL_step_430 ⟨by show cells + 16 + 2 ≤ 310; omega, by show slots + 140 + 12 ≤ 1860; omega⟩ (fun h => h.elim) (fun H locs hw h => ?_)
          clear h1
          generalize g1 = g at *
          generalize o1.2 = r7 at *
          refine W.widen (k := cells + 18) (n := slots + 152) (by show cells + 16 + 2 ≤ cells + 18; omega) (by show slots + 140 + 12 ≤ slots + 152; omega) ?_
          refine zr_if_le (tgt := 440) hF h dL_step_433 (by decide) (fun h => ?_) (fun h => ?_)
          · refine lv_iconst hx hb dL_step_440 rfl ?_
            exact zp_zretn hF hr hsm hw h dL_step_441 ⟨by omega, by omega⟩
          · refine lv_iconst hx hb dL_step_436 rfl ?_
            refine lv_goto (tgt := 441) hx hb dL_step_437 (by decide) ?_
            exact zp_zretn hF hr hsm hw h dL_step_441 ⟨by omega, by omega⟩
  · refine lv_aload_n hx hb dL_step_344 rfl (lv_at hl 2 rfl) ?_
    refine lv_iload hx hb dL_step_345 (lv_at hl 4 rfl) ?_
    refine lv_iconst hx hb dL_step_347 rfl ?_
    obtain ⟨o1, g1, h1, h⟩ := zbn_some h
    refine zw_callVi (n := 2) (As := [z_v x5, z_v 5]) (rest := []) hF hw (czX4_flightIs l hT X N h1) h zEf_0_0 (by decide) zC_0 (z_goodV qw_631 qw_632 qw_633 qw_15 qw_634) (by decide +kernel) ⟨Nat.le_of_ble_eq_true rfl, Nat.le_of_ble_eq_true rfl⟩ rfl hl.1 rfl (Nat.le_of_ble_eq_true rfl) dL_step_348 ⟨by show cells + 8 + 2 ≤ 310; omega, by show slots + 92 + 12 ≤ 1860; omega⟩ (fun h => h.elim) (fun H locs hw h => ?_)
    clear h1
    generalize g1 = g at *
    generalize o1.2 = r8 at *
    refine W.widen (k := cells + 10) (n := slots + 104) (by show cells + 8 + 2 ≤ cells + 10; omega) (by show slots + 92 + 12 ≤ slots + 104; omega) ?_
    refine lv_iload hx hb dL_step_351 (lv_at hl 1 rfl) ?_
    refine zr_icmp_ne (tgt := 360) hF h dL_step_353 (by decide) (fun h => ?_) (fun h => ?_)
    · refine lv_iconst hx hb dL_step_360 rfl ?_
      refine lv_goto (tgt := 441) hx hb dL_step_361 (by decide) ?_
      exact zp_zretn hF hr hsm hw h dL_step_441 ⟨by omega, by omega⟩
    · refine lv_iconst hx hb dL_step_356 rfl ?_
      refine lv_goto (tgt := 441) hx hb dL_step_357 (by decide) ?_
      exact zp_zretn hF hr hsm hw h dL_step_441 ⟨by omega, by omega⟩
set_option maxHeartbeats 4000000 in
set_option maxRecDepth 100000 in
theorem wL_step_j620 {p : Program} {l : Launch} {e : Env} {s : State} {m : MethodId} {args : Array Value} {below : List Frame} {meth : Method} {c : Code} {X : zC} {N0 : zN} {N : zN} {r : Int} {g' : zG} (hF : zF p s m args meth c X cL_step 17 RL) (hT : l.stackTraces = false) (hr : meth.sig.returnType = (some .boolean)) (hsm : zSame N0 N) (hnp : zNp N) {n : Nat} {cells slots : Nat} (hcs : cells + 124 ≤ 310 ∧ slots + 744 ≤ 1860) {x13 : Int} {t0 : Int} {t1 : Int} {g : zG} {H : Heap} {locs : List Loc} {ls : Array Slot} (hw : zH X N g s H locs) (hl : lv_has ls 17 [(0, z_r N 0 0), (13, z_v x13)]) (h : sL_step_j620 n x13 t0 t1 g = some (r, g')) : W p l e { frames := 10, cells := 310, slots := 1860, locals := 250 } s m args below meth c H locs cells slots (MQ below (zQn X N0 r g') args s 310 1860 (zA X)) (F0 m 620 ls [z_v t1, z_v t0]) := by
  have hx := hF.1.1
  have hb := hF.1.2.1
  unfold sL_step_j620 at h
  refine zr_icmp_ne (tgt := 636) hF h dL_step_620 (by decide) (fun h => ?_) (fun h => ?_)
  · refine lv_iconst hx hb dL_step_636 rfl ?_
    exact zp_zretn hF hr hsm hw h dL_step_637 ⟨by omega, by omega⟩
  · refine lv_aload_n hx hb dL_step_623 rfl (lv_at hl 0 rfl) ?_
    refine lv_iload hx hb dL_step_624 (lv_at hl 1 rfl) ?_
    obtain ⟨r1, g1, h1, h⟩ := zbd_some h
    refine zp_callC (n := 2) (As := [z_r N 0 0, z_v x13]) (rest := []) hF hw (czL_areSlots l hT X N h1) (z_goodS qw_674 qw_675 qw_14 qw_676) (by decide +kernel) ⟨Nat.le_of_ble_eq_true rfl, Nat.le_of_ble_eq_true rfl⟩ rfl hl.1 rfl (Nat.le_of_ble_eq_true rfl) dL_step_626 ⟨by show cells + 124 ≤ 310; omega, by show slots + 744 ≤ 1860; omega⟩ (fun H locs hw => ?_)
    clear h1
    generalize g1 = g at *
    refine W.widen (k := cells + 124) (n := slots + 744) (by show cells + 124 ≤ cells + 124; omega) (by show slots + 744 ≤ slots + 744; omega) ?_
    refine zr_if_eq (tgt := 636) hF h dL_step_629 (by decide) (fun h => ?_) (fun h => ?_)
    · refine lv_iconst hx hb dL_step_636 rfl ?_
      exact zp_zretn hF hr hsm hw h dL_step_637 ⟨by omega, by omega⟩
    · refine lv_iconst hx hb dL_step_632 rfl ?_
      refine lv_goto (tgt := 637) hx hb dL_step_633 (by decide) ?_
      exact zp_zretn hF hr hsm hw h dL_step_637 ⟨by omega, by omega⟩
set_option maxHeartbeats 4000000 in
set_option maxRecDepth 100000 in
theorem wL_step_j542 {p : Program} {l : Launch} {e : Env} {s : State} {m : MethodId} {args : Array Value} {below : List Frame} {meth : Method} {c : Code} {X : zC} {N0 : zN} {N : zN} {r : Int} {g' : zG} (hF : zF p s m args meth c X cL_step 17 RL) (hT : l.stackTraces = false) (hr : meth.sig.returnType = (some .boolean)) (hsm : zSame N0 N) (hnp : zNp N) {n : Nat} {cells slots : Nat} (hcs : cells + 128 ≤ 310 ∧ slots + 768 ≤ 1860) {x3 : Int} {x11 : Int} {x13 : Int} {t1 : Int} {t2 : Int} {t3 : Int} {g : zG} {H : Heap} {locs : List Loc} {ls : Array Slot} (hw : zH X N g s H locs) (hl : lv_has ls 17 [(0, z_r N 0 0), (1, z_r N 17 0), (3, z_v x3), (11, z_v x11), (13, z_v x13)]) (h : sL_step_j542 n x3 x11 x13 t1 t2 t3 g = some (r, g')) : W p l e { frames := 10, cells := 310, slots := 1860, locals := 250 } s m args below meth c H locs cells slots (MQ below (zQn X N0 r g') args s 310 1860 (zA X)) (F0 m 542 ls [z_v t3, z_v t2, z_v t1, z_r N 17 0]) := by
  have hx := hF.1.1
  have hb := hF.1.2.1
  unfold sL_step_j542 at h
  refine zr_iadd hF dL_step_542 ?_
  refine zr_iast hF hw zEf_17_0 (by decide) h dL_step_543 (fun g H locs hw h => ?_)
  refine lv_iload hx hb dL_step_544 (lv_at hl 4 rfl) ?_
  refine lv_sipush (v := Int32.ofInt (-200)) hx hb dL_step_546 (by decide) ?_
  refine zr_icmp_ne (tgt := 568) hF h dL_step_549 (by decide) (fun h => ?_) (fun h => ?_)
  · refine lv_iload hx hb dL_step_568 (lv_at hl 4 rfl) ?_
    refine lv_aload_n hx hb dL_step_570 rfl (lv_at hl 1 rfl) ?_
    refine lv_iconst hx hb dL_step_571 rfl ?_
    refine zr_iald hF hw zEf_17_0 (by decide) h dL_step_572 (fun h => ?_)
    refine lv_iconst hx hb dL_step_573 rfl ?_
    refine zr_isub hF dL_step_574 ?_
    refine zr_icmp_ne (tgt := 636) hF h dL_step_575 (by decide) (fun h => ?_) (fun h => ?_)
    · refine lv_iconst hx hb dL_step_636 rfl ?_
      exact zp_zretn hF hr hsm hw h dL_step_637 ⟨by omega, by omega⟩
    · refine lv_aload_n hx hb dL_step_578 rfl (lv_at hl 0 rfl) ?_
      refine lv_iload hx hb dL_step_579 (lv_at hl 4 rfl) ?_
      refine lv_iconst hx hb dL_step_581 rfl ?_
      obtain ⟨o1, g1, h1, h⟩ := zbn_some h
      refine zw_callVi (n := 2) (As := [z_v x13, z_v 5]) (rest := []) hF hw (czX4_regulationIs l hT X N h1) h zEf_0_0 (by decide) zC_0 (z_goodV qw_658 qw_659 qw_660 qw_15 qw_661) (by decide +kernel) ⟨Nat.le_of_ble_eq_true rfl, Nat.le_of_ble_eq_true rfl⟩ rfl hl.1 rfl (Nat.le_of_ble_eq_true rfl) dL_step_582 ⟨by show cells + 2 ≤ 310; omega, by show slots + 12 ≤ 1860; omega⟩ (fun h => h.elim) (fun H locs hw h => ?_)
      clear h1
      generalize g1 = g at *
      generalize o1.2 = r1 at *
      refine W.widen (k := cells + 2) (n := slots + 12) (by show cells + 2 ≤ cells + 2; omega) (by show slots + 12 ≤ slots + 12; omega) ?_
      refine lv_iload_n hx hb dL_step_585 rfl (lv_at hl 2 rfl) ?_
      refine lv_sipush (v := Int32.ofInt (4096)) hx hb dL_step_586 (by decide) ?_
      refine zr_idiv hF h dL_step_589 (fun h => ?_)
      refine lv_bipush (v := Int32.ofInt (16)) hx hb dL_step_590 (by decide) ?_
      refine zr_irem hF h dL_step_592 (fun h => ?_)
      refine zr_icmp_ne (tgt := 636) hF h dL_step_593 (by decide) (fun h => ?_) (fun h => ?_)
      · refine lv_iconst hx hb dL_step_636 rfl ?_
        exact zp_zretn hF hr hsm hw h dL_step_637 ⟨by omega, by omega⟩
      · refine lv_aload_n hx hb dL_step_596 rfl (lv_at hl 0 rfl) ?_
        refine lv_iload hx hb dL_step_597 (lv_at hl 4 rfl) ?_
        refine lv_iconst hx hb dL_step_599 rfl ?_
        obtain ⟨o1, g1, h1, h⟩ := zbn_some h
        refine zw_callVi (n := 2) (As := [z_v x13, z_v 0]) (rest := []) hF hw (czX4_slot l hT X N h1) h zEf_0_0 (by decide) zC_0 (z_goodV qw_667 qw_668 qw_669 qw_15 qw_670) (by decide +kernel) ⟨Nat.le_of_ble_eq_true rfl, Nat.le_of_ble_eq_true rfl⟩ rfl hl.1 rfl (Nat.le_of_ble_eq_true rfl) dL_step_600 ⟨by show cells + 2 + 2 ≤ 310; omega, by show slots + 12 + 12 ≤ 1860; omega⟩ (fun h => h.elim) (fun H locs hw h => ?_)
        clear h1
        generalize g1 = g at *
        generalize o1.2 = r2 at *
        refine W.widen (k := cells + 4) (n := slots + 24) (by show cells + 2 + 2 ≤ cells + 4; omega) (by show slots + 12 + 12 ≤ slots + 24; omega) ?_
        refine lv_iload_n hx hb dL_step_603 rfl (lv_at hl 2 rfl) ?_
        refine lv_sipush (v := Int32.ofInt (4096)) hx hb dL_step_604 (by decide) ?_
        refine zr_idiv hF h dL_step_607 (fun h => ?_)
        refine lv_bipush (v := Int32.ofInt (16)) hx hb dL_step_608 (by decide) ?_
        refine zr_irem hF h dL_step_610 (fun h => ?_)
        refine zr_if_ne (tgt := 618) hF h dL_step_611 (by decide) (fun h => ?_) (fun h => ?_)
        · refine lv_iload hx hb dL_step_618 (lv_at hl 3 rfl) ?_
          exact wL_step_j620 hF hT hr hsm hnp (by omega)  hw (lv_sub hl [0, 4] rfl) h
        · refine lv_iconst hx hb dL_step_614 rfl ?_
          refine lv_goto (tgt := 620) hx hb dL_step_615 (by decide) ?_
          exact wL_step_j620 hF hT hr hsm hnp (by omega)  hw (lv_sub hl [0, 4] rfl) h
  · refine lv_aload_n hx hb dL_step_552 rfl (lv_at hl 1 rfl) ?_
    refine lv_iconst hx hb dL_step_553 rfl ?_
    refine zr_iald hF hw zEf_17_0 (by decide) h dL_step_554 (fun h => ?_)
    refine lv_bipush (v := Int32.ofInt (6)) hx hb dL_step_555 (by decide) ?_
    refine zr_icmp_ne (tgt := 564) hF h dL_step_557 (by decide) (fun h => ?_) (fun h => ?_)
    · refine lv_iconst hx hb dL_step_564 rfl ?_
      refine lv_goto (tgt := 637) hx hb dL_step_565 (by decide) ?_
      exact zp_zretn hF hr hsm hw h dL_step_637 ⟨by omega, by omega⟩
    · refine lv_iconst hx hb dL_step_560 rfl ?_
      refine lv_goto (tgt := 637) hx hb dL_step_561 (by decide) ?_
      exact zp_zretn hF hr hsm hw h dL_step_637 ⟨by omega, by omega⟩
set_option maxHeartbeats 4000000 in
set_option maxRecDepth 100000 in
theorem wL_step_j502 {p : Program} {l : Launch} {e : Env} {s : State} {m : MethodId} {args : Array Value} {below : List Frame} {meth : Method} {c : Code} {X : zC} {N0 : zN} {N : zN} {r : Int} {g' : zG} (hF : zF p s m args meth c X cL_step 17 RL) (hT : l.stackTraces = false) (hr : meth.sig.returnType = (some .boolean)) (hsm : zSame N0 N) (hnp : zNp N) {n : Nat} {cells slots : Nat} (hcs : cells + 134 ≤ 310 ∧ slots + 848 ≤ 1860) {x3 : Int} {x4 : Int} {x11 : Int} {t0 : Int} {g : zG} {H : Heap} {locs : List Loc} {ls : Array Slot} (hw : zH X N g s H locs) (hl : lv_has ls 17 [(0, z_r N 0 0), (1, z_r N 17 0), (3, z_v x3), (4, z_v x4), (11, z_v x11)]) (h : sL_step_j502 n x3 x4 x11 t0 g = some (r, g')) : W p l e { frames := 10, cells := 310, slots := 1860, locals := 250 } s m args below meth c H locs cells slots (MQ below (zQn X N0 r g') args s 310 1860 (zA X)) (F0 m 502 ls [z_v t0]) := by
  have hx := hF.1.1
  have hb := hF.1.2.1
  unfold sL_step_j502 at h
  refine lv_istore (lv' := [(12, z_v t0), (0, z_r N 0 0), (1, z_r N 17 0), (3, z_v x3), (4, z_v x4), (11, z_v x11)]) hx hb dL_step_502 hl (by decide) rfl (fun ls hl => ?_)
  refine lv_aload_n hx hb dL_step_504 rfl (lv_at hl 1 rfl) ?_
  refine lv_iload hx hb dL_step_505 (lv_at hl 4 rfl) ?_
  refine lv_bipush (v := Int32.ofInt (6)) hx hb dL_step_507 (by decide) ?_
  refine zr_irem hF h dL_step_509 (fun h => ?_)
  refine lv_iload hx hb dL_step_510 (lv_at hl 5 rfl) ?_
  refine lv_iload hx hb dL_step_512 (lv_at hl 0 rfl) ?_
  refine lv_iload_n hx hb dL_step_514 rfl (lv_at hl 3 rfl) ?_
  refine lv_sipush (v := Int32.ofInt (4096)) hx hb dL_step_515 (by decide) ?_
  refine zr_idiv hF h dL_step_518 (fun h => ?_)
  refine lv_bipush (v := Int32.ofInt (16)) hx hb dL_step_519 (by decide) ?_
  refine zr_irem hF h dL_step_521 (fun h => ?_)
  refine lv_iconst hx hb dL_step_522 rfl ?_
  obtain ⟨r1, g1, h1, h⟩ := zbd_some h
  refine zp_callWn (n := 6) (As := [z_r N 0 0, z_v ((x4).tmod 6), z_v x11, z_v t0, z_v (((x3).tdiv 4096).tmod 16), z_v 2]) (rest := []) hF hw (czL_acts l hT X N hnp h1) (z_goodSW qw_432 qw_433 qw_14 qw_434) (by decide +kernel) ⟨Nat.le_of_ble_eq_true rfl, Nat.le_of_ble_eq_true rfl⟩ rfl hl.1 rfl (Nat.le_of_ble_eq_true rfl) dL_step_523 ⟨by show cells + 6 ≤ 310; omega, by show slots + 80 ≤ 1860; omega⟩ (fun N H locs hsm1 hw => ?_)
  clear h1
  generalize g1 = g at *
  have hl : lv_has ls 17 [(12, z_v t0), (0, z_r N 0 0), (1, z_r N 17 0), (3, z_v x3), (4, z_v x4), (11, z_v x11)] := by rw [z_e0 hsm1, z_e17 hsm1]; exact hl
  have hnp := hsm1.2 hnp
  have hsm := hsm.tr hsm1
  clear hsm1
  refine W.widen (k := cells + 6) (n := slots + 80) (by show cells + 6 ≤ cells + 6; omega) (by show slots + 80 ≤ slots + 80; omega) ?_
  refine lv_istore (lv' := [(13, z_v r1), (12, z_v t0), (0, z_r N 0 0), (1, z_r N 17 0), (3, z_v x3), (4, z_v x4), (11, z_v x11)]) hx hb dL_step_526 hl (by decide) rfl (fun ls hl => ?_)
  refine lv_aload_n hx hb dL_step_528 rfl (lv_at hl 3 rfl) ?_
  refine lv_iconst hx hb dL_step_529 rfl ?_
  refine lv_dup2_11 hx hb dL_step_530 rfl rfl ?_
  refine zr_iald hF hw zEf_17_0 (by decide) h dL_step_531 (fun h => ?_)
  refine lv_iload hx hb dL_step_532 (lv_at hl 0 rfl) ?_
  refine zr_if_ge (tgt := 541) hF h dL_step_534 (by decide) (fun h => ?_) (fun h => ?_)
  · refine lv_iconst hx hb dL_step_541 rfl ?_
    exact wL_step_j542 hF hT hr hsm hnp (by omega)  hw (lv_sub hl [2, 3, 4, 6, 0] rfl) h
  · refine lv_iconst hx hb dL_step_537 rfl ?_
    refine lv_goto (tgt := 542) hx hb dL_step_538 (by decide) ?_
    exact wL_step_j542 hF hT hr hsm hnp (by omega)  hw (lv_sub hl [2, 3, 4, 6, 0] rfl) h
set_option maxHeartbeats 4000000 in
set_option maxRecDepth 100000 in
theorem wL_step_j468 {p : Program} {l : Launch} {e : Env} {s : State} {m : MethodId} {args : Array Value} {below : List Frame} {meth : Method} {c : Code} {X : zC} {N0 : zN} {N : zN} {r : Int} {g' : zG} (hF : zF p s m args meth c X cL_step 17 RL) (hT : l.stackTraces = false) (hr : meth.sig.returnType = (some .boolean)) (hsm : zSame N0 N) (hnp : zNp N) {n : Nat} {cells slots : Nat} (hcs : cells + 134 ≤ 310 ∧ slots + 848 ≤ 1860) {x3 : Int} {x4 : Int} {t0 : Int} {g : zG} {H : Heap} {locs : List Loc} {ls : Array Slot} (hw : zH X N g s H locs) (hl : lv_has ls 17 [(0, z_r N 0 0), (1, z_r N 17 0), (3, z_v x3), (4, z_v x4)]) (h : sL_step_j468 n x3 x4 t0 g = some (r, g')) : W p l e { frames := 10, cells := 310, slots := 1860, locals := 250 } s m args below meth c H locs cells slots (MQ below (zQn X N0 r g') args s 310 1860 (zA X)) (F0 m 468 ls [z_v t0]) := by
  have hx := hF.1.1
  have hb := hF.1.2.1
  unfold sL_step_j468 at h
  refine lv_istore (lv' := [(11, z_v t0), (0, z_r N 0 0), (1, z_r N 17 0), (3, z_v x3), (4, z_v x4)]) hx hb dL_step_468 hl (by decide) rfl (fun ls hl => ?_)
  refine lv_iload hx hb dL_step_470 (lv_at hl 0 rfl) ?_
  refine lv_iconst hx hb dL_step_472 rfl ?_
  refine zr_iadd hF dL_step_473 ?_
  refine lv_iload hx hb dL_step_474 (lv_at hl 4 rfl) ?_
  refine lv_bipush (v := Int32.ofInt (60)) hx hb dL_step_476 (by decide) ?_
  refine zr_irem hF h dL_step_478 (fun h => ?_)
  refine zr_iadd hF dL_step_479 ?_
  refine lv_sipush (v := Int32.ofInt (1440)) hx hb dL_step_480 (by decide) ?_
  refine zr_icmp_le (tgt := 492) hF h dL_step_483 (by decide) (fun h => ?_) (fun h => ?_)
  · refine lv_iload hx hb dL_step_492 (lv_at hl 0 rfl) ?_
    refine lv_iconst hx hb dL_step_494 rfl ?_
    refine zr_iadd hF dL_step_495 ?_
    refine lv_iload hx hb dL_step_496 (lv_at hl 4 rfl) ?_
    refine lv_bipush (v := Int32.ofInt (60)) hx hb dL_step_498 (by decide) ?_
    refine zr_irem hF h dL_step_500 (fun h => ?_)
    refine zr_iadd hF dL_step_501 ?_
    exact wL_step_j502 hF hT hr hsm hnp (by omega)  hw (lv_sub hl [1, 2, 3, 4, 0] rfl) h
  · refine lv_sipush (v := Int32.ofInt (1440)) hx hb dL_step_486 (by decide) ?_
    refine lv_goto (tgt := 502) hx hb dL_step_489 (by decide) ?_
    exact wL_step_j502 hF hT hr hsm hnp (by omega)  hw (lv_sub hl [1, 2, 3, 4, 0] rfl) h
set_option maxHeartbeats 4000000 in
set_option maxRecDepth 100000 in
theorem wL_step_j442 {p : Program} {l : Launch} {e : Env} {s : State} {m : MethodId} {args : Array Value} {below : List Frame} {meth : Method} {c : Code} {X : zC} {N0 : zN} {N : zN} {r : Int} {g' : zG} (hF : zF p s m args meth c X cL_step 17 RL) (hT : l.stackTraces = false) (hr : meth.sig.returnType = (some .boolean)) (hsm : zSame N0 N) (hnp : zNp N) {n : Nat} {cells slots : Nat} (hcs : cells + 134 ≤ 310 ∧ slots + 848 ≤ 1860) {x3 : Int} {x4 : Int} {g : zG} {H : Heap} {locs : List Loc} {ls : Array Slot} (hw : zH X N g s H locs) (hl : lv_has ls 17 [(0, z_r N 0 0), (1, z_r N 17 0), (3, z_v x3), (4, z_v x4)]) (h : sL_step_j442 n x3 x4 g = some (r, g')) : W p l e { frames := 10, cells := 310, slots := 1860, locals := 250 } s m args below meth c H locs cells slots (MQ below (zQn X N0 r g') args s 310 1860 (zA X)) (F0 m 442 ls []) := by
  have hx := hF.1.1
  have hb := hF.1.2.1
  unfold sL_step_j442 at h
  refine lv_iload_n hx hb dL_step_442 rfl (lv_at hl 2 rfl) ?_
  refine lv_iconst hx hb dL_step_443 rfl ?_
  refine zr_irem hF h dL_step_444 (fun h => ?_)
  refine zr_if_ne (tgt := 458) hF h dL_step_445 (by decide) (fun h => ?_) (fun h => ?_)
  · refine lv_sipush (v := Int32.ofInt (390)) hx hb dL_step_458 (by decide) ?_
    refine lv_iload_n hx hb dL_step_461 rfl (lv_at hl 2 rfl) ?_
    refine lv_iconst hx hb dL_step_462 rfl ?_
    refine zr_idiv hF h dL_step_463 (fun h => ?_)
    refine lv_bipush (v := Int32.ofInt (60)) hx hb dL_step_464 (by decide) ?_
    refine zr_irem hF h dL_step_466 (fun h => ?_)
    refine zr_iadd hF dL_step_467 ?_
    exact wL_step_j468 hF hT hr hsm hnp (by omega)  hw (lv_sub hl [0, 1, 2, 3] rfl) h
  · refine lv_iload_n hx hb dL_step_448 rfl (lv_at hl 2 rfl) ?_
    refine lv_iconst hx hb dL_step_449 rfl ?_
    refine zr_idiv hF h dL_step_450 (fun h => ?_)
    refine lv_sipush (v := Int32.ofInt (1440)) hx hb dL_step_451 (by decide) ?_
    refine zr_irem hF h dL_step_454 (fun h => ?_)
    refine lv_goto (tgt := 468) hx hb dL_step_455 (by decide) ?_
    exact wL_step_j468 hF hT hr hsm hnp (by omega)  hw (lv_sub hl [0, 1, 2, 3] rfl) h
set_option maxHeartbeats 4000000 in
set_option maxRecDepth 100000 in
theorem wL_step_j734 {p : Program} {l : Launch} {e : Env} {s : State} {m : MethodId} {args : Array Value} {below : List Frame} {meth : Method} {c : Code} {X : zC} {N0 : zN} {N : zN} {r : Int} {g' : zG} (hF : zF p s m args meth c X cL_step 17 RL) (hT : l.stackTraces = false) (hr : meth.sig.returnType = (some .boolean)) (hsm : zSame N0 N) (hnp : zNp N) {n : Nat} {cells slots : Nat} (hcs : cells + 0 ≤ 310 ∧ slots + 0 ≤ 1860) {g : zG} {H : Heap} {locs : List Loc} {ls : Array Slot} (hw : zH X N g s H locs) (hl : lv_has ls 17 []) (h : sL_step_j734 n g = some (r, g')) : W p l e { frames := 10, cells := 310, slots := 1860, locals := 250 } s m args below meth c H locs cells slots (MQ below (zQn X N0 r g') args s 310 1860 (zA X)) (F0 m 734 ls []) := by
  have hx := hF.1.1
  have hb := hF.1.2.1
  unfold sL_step_j734 at h
  refine lv_iconst hx hb dL_step_734 rfl ?_
  refine lv_goto (tgt := 739) hx hb dL_step_735 (by decide) ?_
  exact zp_zretn hF hr hsm hw h dL_step_739 ⟨by omega, by omega⟩
set_option maxHeartbeats 4000000 in
set_option maxRecDepth 100000 in
theorem wL_step_j704 {p : Program} {l : Launch} {e : Env} {s : State} {m : MethodId} {args : Array Value} {below : List Frame} {meth : Method} {c : Code} {X : zC} {N0 : zN} {N : zN} {r : Int} {g' : zG} (hF : zF p s m args meth c X cL_step 17 RL) (hT : l.stackTraces = false) (hr : meth.sig.returnType = (some .boolean)) (hsm : zSame N0 N) (hnp : zNp N) {n : Nat} {cells slots : Nat} (hcs : cells + 3 ≤ 310 ∧ slots + 18 ≤ 1860) {x4 : Int} {x5 : Int} {t0 : Int} {t1 : Int} {g : zG} {H : Heap} {locs : List Loc} {ls : Array Slot} (hw : zH X N g s H locs) (hl : lv_has ls 17 [(0, z_r N 0 0), (4, z_v x4), (5, z_v x5)]) (h : sL_step_j704 n x4 x5 t0 t1 g = some (r, g')) : W p l e { frames := 10, cells := 310, slots := 1860, locals := 250 } s m args below meth c H locs cells slots (MQ below (zQn X N0 r g') args s 310 1860 (zA X)) (F0 m 704 ls [z_v t1, z_v t0]) := by
  have hx := hF.1.1
  have hb := hF.1.2.1
  unfold sL_step_j704 at h
  refine zr_icmp_ne (tgt := 738) hF h dL_step_704 (by decide) (fun h => ?_) (fun h => ?_)
  · refine lv_iconst hx hb dL_step_738 rfl ?_
    exact zp_zretn hF hr hsm hw h dL_step_739 ⟨by omega, by omega⟩
  · refine lv_iload hx hb dL_step_707 (lv_at hl 1 rfl) ?_
    refine lv_iconst hx hb dL_step_709 rfl ?_
    refine zr_irem hF h dL_step_710 (fun h => ?_)
    refine zr_if_gt (tgt := 734) hF h dL_step_711 (by decide) (fun h => ?_) (fun h => ?_)
    · exact wL_step_j734 hF hT hr hsm hnp (by omega)  hw (lv_sub hl [] rfl) h
    · refine lv_aload_n hx hb dL_step_714 rfl (lv_at hl 0 rfl) ?_
      refine lv_iload hx hb dL_step_715 (lv_at hl 2 rfl) ?_
      refine lv_iconst hx hb dL_step_717 rfl ?_
      obtain ⟨o1, g1, h1, h⟩ := zbn_some h
      refine zw_callVi (n := 2) (As := [z_v x5, z_v 2]) (rest := []) hF hw (czX4_flightIs l hT X N h1) h zEf_0_0 (by decide) zC_0 (z_goodV qw_631 qw_632 qw_633 qw_15 qw_634) (by decide +kernel) ⟨Nat.le_of_ble_eq_true rfl, Nat.le_of_ble_eq_true rfl⟩ rfl hl.1 rfl (Nat.le_of_ble_eq_true rfl) dL_step_718 ⟨by show cells + 2 ≤ 310; omega, by show slots + 12 ≤ 1860; omega⟩ (fun h => h.elim) (fun H locs hw h => ?_)
      clear h1
      generalize g1 = g at *
      generalize o1.2 = r1 at *
      refine W.widen (k := cells + 2) (n := slots + 12) (by show cells + 2 ≤ cells + 2; omega) (by show slots + 12 ≤ slots + 12; omega) ?_
      refine lv_iconst hx hb dL_step_721 rfl ?_
      refine zr_icmp_ne (tgt := 738) hF h dL_step_722 (by decide) (fun h => ?_) (fun h => ?_)
      · refine lv_iconst hx hb dL_step_738 rfl ?_
        exact zp_zretn hF hr hsm hw h dL_step_739 ⟨by omega, by omega⟩
      · refine lv_aload_n hx hb dL_step_725 rfl (lv_at hl 0 rfl) ?_
        refine lv_iload hx hb dL_step_726 (lv_at hl 2 rfl) ?_
        obtain ⟨o1, g1, h1, h⟩ := zbn_some h
        refine zw_callVi (n := 1) (As := [z_v x5]) (rest := []) hF hw (czX4_due l hT X N h1) h zEf_0_0 (by decide) zC_0 (z_goodV qw_636 qw_637 qw_638 qw_15 qw_639) (by decide +kernel) ⟨Nat.le_of_ble_eq_true rfl, Nat.le_of_ble_eq_true rfl⟩ rfl hl.1 rfl (Nat.le_of_ble_eq_true rfl) dL_step_728 ⟨by show cells + 2 + 1 ≤ 310; omega, by show slots + 12 + 6 ≤ 1860; omega⟩ (fun h => h.elim) (fun H locs hw h => ?_)
        clear h1
        generalize g1 = g at *
        generalize o1.2 = r2 at *
        refine W.widen (k := cells + 3) (n := slots + 18) (by show cells + 2 + 1 ≤ cells + 3; omega) (by show slots + 12 + 6 ≤ slots + 18; omega) ?_
        refine zr_if_ne (tgt := 738) hF h dL_step_731 (by decide) (fun h => ?_) (fun h => ?_)
        · refine lv_iconst hx hb dL_step_738 rfl ?_
          exact zp_zretn hF hr hsm hw h dL_step_739 ⟨by omega, by omega⟩
        · exact wL_step_j734 hF hT hr hsm hnp (by omega)  hw (lv_sub hl [] rfl) h
set_option maxHeartbeats 4000000 in
set_option maxRecDepth 100000 in
theorem wL_step_j653 {p : Program} {l : Launch} {e : Env} {s : State} {m : MethodId} {args : Array Value} {below : List Frame} {meth : Method} {c : Code} {X : zC} {N0 : zN} {N : zN} {r : Int} {g' : zG} (hF : zF p s m args meth c X cL_step 17 RL) (hT : l.stackTraces = false) (hr : meth.sig.returnType = (some .boolean)) (hsm : zSame N0 N) (hnp : zNp N) {n : Nat} {cells slots : Nat} (hcs : cells + 7 ≤ 310 ∧ slots + 42 ≤ 1860) {x4 : Int} {x5 : Int} {t1 : Int} {t2 : Int} {g : zG} {H : Heap} {locs : List Loc} {ls : Array Slot} (hw : zH X N g s H locs) (hl : lv_has ls 17 [(0, z_r N 0 0), (4, z_v x4), (5, z_v x5)]) (h : sL_step_j653 n x4 x5 t1 t2 g = some (r, g')) : W p l e { frames := 10, cells := 310, slots := 1860, locals := 250 } s m args below meth c H locs cells slots (MQ below (zQn X N0 r g') args s 310 1860 (zA X)) (F0 m 653 ls [z_v t2, z_v t1, z_r N 0 0]) := by
  have hx := hF.1.1
  have hb := hF.1.2.1
  unfold sL_step_j653 at h
  obtain ⟨r1, g1, h1, h⟩ := zbd_some h
  refine zp_callW (n := 3) (As := [z_r N 0 0, z_v t1, z_v t2]) (rest := []) hF hw (czL_exempts l hT X N h1) (z_goodSW qw_677 qw_678 qw_14 qw_679) (by decide +kernel) ⟨Nat.le_of_ble_eq_true rfl, Nat.le_of_ble_eq_true rfl⟩ rfl hl.1 rfl (Nat.le_of_ble_eq_true rfl) dL_step_653 ⟨by show cells + 2 ≤ 310; omega, by show slots + 12 ≤ 1860; omega⟩ (fun H locs hw => ?_)
  clear h1
  generalize g1 = g at *
  refine W.widen (k := cells + 2) (n := slots + 12) (by show cells + 2 ≤ cells + 2; omega) (by show slots + 12 ≤ slots + 12; omega) ?_
  refine lv_istore (lv' := [(14, z_v r1), (0, z_r N 0 0), (4, z_v x4), (5, z_v x5)]) hx hb dL_step_656 hl (by decide) rfl (fun ls hl => ?_)
  refine lv_iload hx hb dL_step_658 (lv_at hl 0 rfl) ?_
  refine lv_sipush (v := Int32.ofInt (-200)) hx hb dL_step_660 (by decide) ?_
  refine zr_icmp_ne (tgt := 684) hF h dL_step_663 (by decide) (fun h => ?_) (fun h => ?_)
  · refine lv_aload_n hx hb dL_step_684 rfl (lv_at hl 1 rfl) ?_
    refine lv_iload hx hb dL_step_685 (lv_at hl 3 rfl) ?_
    refine lv_bipush (v := Int32.ofInt (7)) hx hb dL_step_687 (by decide) ?_
    obtain ⟨o1, g1, h1, h⟩ := zbn_some h
    refine zw_callVi (n := 2) (As := [z_v x5, z_v 7]) (rest := []) hF hw (czX4_flightIs l hT X N h1) h zEf_0_0 (by decide) zC_0 (z_goodV qw_631 qw_632 qw_633 qw_15 qw_634) (by decide +kernel) ⟨Nat.le_of_ble_eq_true rfl, Nat.le_of_ble_eq_true rfl⟩ rfl hl.1 rfl (Nat.le_of_ble_eq_true rfl) dL_step_689 ⟨by show cells + 2 + 2 ≤ 310; omega, by show slots + 12 + 12 ≤ 1860; omega⟩ (fun h => h.elim) (fun H locs hw h => ?_)
    clear h1
    generalize g1 = g at *
    generalize o1.2 = r2 at *
    refine W.widen (k := cells + 4) (n := slots + 24) (by show cells + 2 + 2 ≤ cells + 4; omega) (by show slots + 12 + 12 ≤ slots + 24; omega) ?_
    refine lv_iload hx hb dL_step_692 (lv_at hl 2 rfl) ?_
    refine lv_iconst hx hb dL_step_694 rfl ?_
    refine zr_irem hF h dL_step_695 (fun h => ?_)
    refine zr_if_ne (tgt := 703) hF h dL_step_696 (by decide) (fun h => ?_) (fun h => ?_)
    · refine lv_iconst hx hb dL_step_703 rfl ?_
      exact wL_step_j704 hF hT hr hsm hnp (by omega)  hw (lv_sub hl [1, 2, 3] rfl) h
    · refine lv_iconst hx hb dL_step_699 rfl ?_
      refine lv_goto (tgt := 704) hx hb dL_step_700 (by decide) ?_
      exact wL_step_j704 hF hT hr hsm hnp (by omega)  hw (lv_sub hl [1, 2, 3] rfl) h
  · refine lv_aload_n hx hb dL_step_666 rfl (lv_at hl 1 rfl) ?_
    refine lv_iload hx hb dL_step_667 (lv_at hl 3 rfl) ?_
    refine lv_iconst hx hb dL_step_669 rfl ?_
    obtain ⟨o1, g1, h1, h⟩ := zbn_some h
    refine zw_callVi (n := 2) (As := [z_v x5, z_v 0]) (rest := []) hF hw (czX4_flightIs l hT X N h1) h zEf_0_0 (by decide) zC_0 (z_goodV qw_631 qw_632 qw_633 qw_15 qw_634) (by decide +kernel) ⟨Nat.le_of_ble_eq_true rfl, Nat.le_of_ble_eq_true rfl⟩ rfl hl.1 rfl (Nat.le_of_ble_eq_true rfl) dL_step_670 ⟨by show cells + 2 + 2 ≤ 310; omega, by show slots + 12 + 12 ≤ 1860; omega⟩ (fun h => h.elim) (fun H locs hw h => ?_)
    clear h1
    generalize g1 = g at *
    generalize o1.2 = r3 at *
    refine W.widen (k := cells + 4) (n := slots + 24) (by show cells + 2 + 2 ≤ cells + 4; omega) (by show slots + 12 + 12 ≤ slots + 24; omega) ?_
    refine zr_if_le (tgt := 680) hF h dL_step_673 (by decide) (fun h => ?_) (fun h => ?_)
    · refine lv_iconst hx hb dL_step_680 rfl ?_
      refine lv_goto (tgt := 739) hx hb dL_step_681 (by decide) ?_
      exact zp_zretn hF hr hsm hw h dL_step_739 ⟨by omega, by omega⟩
    · refine lv_iconst hx hb dL_step_676 rfl ?_
      refine lv_goto (tgt := 739) hx hb dL_step_677 (by decide) ?_
      exact zp_zretn hF hr hsm hw h dL_step_739 ⟨by omega, by omega⟩
set_option maxHeartbeats 4000000 in
set_option maxRecDepth 100000 in
theorem wL_step_j638 {p : Program} {l : Launch} {e : Env} {s : State} {m : MethodId} {args : Array Value} {below : List Frame} {meth : Method} {c : Code} {X : zC} {N0 : zN} {N : zN} {r : Int} {g' : zG} (hF : zF p s m args meth c X cL_step 17 RL) (hT : l.stackTraces = false) (hr : meth.sig.returnType = (some .boolean)) (hsm : zSame N0 N) (hnp : zNp N) {n : Nat} {cells slots : Nat} (hcs : cells + 7 ≤ 310 ∧ slots + 42 ≤ 1860) {x4 : Int} {x5 : Int} {g : zG} {H : Heap} {locs : List Loc} {ls : Array Slot} (hw : zH X N g s H locs) (hl : lv_has ls 17 [(0, z_r N 0 0), (4, z_v x4), (5, z_v x5)]) (h : sL_step_j638 n x4 x5 g = some (r, g')) : W p l e { frames := 10, cells := 310, slots := 1860, locals := 250 } s m args below meth c H locs cells slots (MQ below (zQn X N0 r g') args s 310 1860 (zA X)) (F0 m 638 ls []) := by
  have hx := hF.1.1
  have hb := hF.1.2.1
  unfold sL_step_j638 at h
  refine lv_aload_n hx hb dL_step_638 rfl (lv_at hl 0 rfl) ?_
  refine lv_iload hx hb dL_step_639 (lv_at hl 2 rfl) ?_
  refine lv_iload hx hb dL_step_641 (lv_at hl 1 rfl) ?_
  refine lv_iconst hx hb dL_step_643 rfl ?_
  refine zr_irem hF h dL_step_644 (fun h => ?_)
  refine zr_if_ne (tgt := 652) hF h dL_step_645 (by decide) (fun h => ?_) (fun h => ?_)
  · refine lv_iconst hx hb dL_step_652 rfl ?_
    exact wL_step_j653 hF hT hr hsm hnp (by omega)  hw (lv_sub hl [0, 1, 2] rfl) h
  · refine lv_iconst hx hb dL_step_648 rfl ?_
    refine lv_goto (tgt := 653) hx hb dL_step_649 (by decide) ?_
    exact wL_step_j653 hF hT hr hsm hnp (by omega)  hw (lv_sub hl [0, 1, 2] rfl) h
set_option maxHeartbeats 4000000 in
set_option maxRecDepth 100000 in
theorem wL_step_j779 {p : Program} {l : Launch} {e : Env} {s : State} {m : MethodId} {args : Array Value} {below : List Frame} {meth : Method} {c : Code} {X : zC} {N0 : zN} {N : zN} {r : Int} {g' : zG} (hF : zF p s m args meth c X cL_step 17 RL) (hT : l.stackTraces = false) (hr : meth.sig.returnType = (some .boolean)) (hsm : zSame N0 N) (hnp : zNp N) {n : Nat} {cells slots : Nat} (hcs : cells + 0 ≤ 310 ∧ slots + 0 ≤ 1860) {g : zG} {H : Heap} {locs : List Loc} {ls : Array Slot} (hw : zH X N g s H locs) (hl : lv_has ls 17 []) (h : sL_step_j779 n g = some (r, g')) : W p l e { frames := 10, cells := 310, slots := 1860, locals := 250 } s m args below meth c H locs cells slots (MQ below (zQn X N0 r g') args s 310 1860 (zA X)) (F0 m 779 ls []) := by
  have hx := hF.1.1
  have hb := hF.1.2.1
  unfold sL_step_j779 at h
  refine lv_iconst hx hb dL_step_779 rfl ?_
  refine lv_goto (tgt := 784) hx hb dL_step_780 (by decide) ?_
  exact zp_zretn hF hr hsm hw h dL_step_784 ⟨by omega, by omega⟩
set_option maxHeartbeats 4000000 in
set_option maxRecDepth 100000 in
theorem wL_step_j740 {p : Program} {l : Launch} {e : Env} {s : State} {m : MethodId} {args : Array Value} {below : List Frame} {meth : Method} {c : Code} {X : zC} {N0 : zN} {N : zN} {r : Int} {g' : zG} (hF : zF p s m args meth c X cL_step 17 RL) (hT : l.stackTraces = false) (hr : meth.sig.returnType = (some .boolean)) (hsm : zSame N0 N) (hnp : zNp N) {n : Nat} {cells slots : Nat} (hcs : cells + 8 ≤ 310 ∧ slots + 92 ≤ 1860) {x3 : Int} {x6 : Int} {g : zG} {H : Heap} {locs : List Loc} {ls : Array Slot} (hw : zH X N g s H locs) (hl : lv_has ls 17 [(0, z_r N 0 0), (1, z_r N 17 0), (3, z_v x3), (6, z_v x6)]) (h : sL_step_j740 n x3 x6 g = some (r, g')) : W p l e { frames := 10, cells := 310, slots := 1860, locals := 250 } s m args below meth c H locs cells slots (MQ below (zQn X N0 r g') args s 310 1860 (zA X)) (F0 m 740 ls []) := by
  have hx := hF.1.1
  have hb := hF.1.2.1
  unfold sL_step_j740 at h
  refine lv_aload_n hx hb dL_step_740 rfl (lv_at hl 1 rfl) ?_
  refine lv_iconst hx hb dL_step_741 rfl ?_
  refine zr_iald hF hw zEf_17_0 (by decide) h dL_step_742 (fun h => ?_)
  refine zr_if_eq (tgt := 779) hF h dL_step_743 (by decide) (fun h => ?_) (fun h => ?_)
  · exact wL_step_j779 hF hT hr hsm hnp (by omega)  hw (lv_sub hl [] rfl) h
  · refine lv_aload_n hx hb dL_step_746 rfl (lv_at hl 0 rfl) ?_
    refine lv_iload hx hb dL_step_747 (lv_at hl 3 rfl) ?_
    refine lv_iload_n hx hb dL_step_749 rfl (lv_at hl 2 rfl) ?_
    refine lv_bipush (v := Int32.ofInt (16)) hx hb dL_step_750 (by decide) ?_
    refine zr_irem hF h dL_step_752 (fun h => ?_)
    refine lv_iconst hx hb dL_step_753 rfl ?_
    refine lv_iconst hx hb dL_step_754 rfl ?_
    refine lv_iconst hx hb dL_step_755 rfl ?_
    obtain ⟨r1, g1, h1, h⟩ := zbd_some h
    refine zp_callWn (n := 6) (As := [z_r N 0 0, z_v x6, z_v ((x3).tmod 16), z_v 0, z_v 0, z_v 3]) (rest := []) hF hw (czL_acts l hT X N hnp h1) (z_goodSW qw_432 qw_433 qw_14 qw_434) (by decide +kernel) ⟨Nat.le_of_ble_eq_true rfl, Nat.le_of_ble_eq_true rfl⟩ rfl hl.1 rfl (Nat.le_of_ble_eq_true rfl) dL_step_756 ⟨by show cells + 6 ≤ 310; omega, by show slots + 80 ≤ 1860; omega⟩ (fun N H locs hsm1 hw => ?_)
    clear h1
    generalize g1 = g at *
    have hl : lv_has ls 17 [(0, z_r N 0 0), (1, z_r N 17 0), (3, z_v x3), (6, z_v x6)] := by rw [z_e0 hsm1, z_e17 hsm1]; exact hl
    have hnp := hsm1.2 hnp
    have hsm := hsm.tr hsm1
    clear hsm1
    refine W.widen (k := cells + 6) (n := slots + 80) (by show cells + 6 ≤ cells + 6; omega) (by show slots + 80 ≤ slots + 80; omega) ?_
    refine lv_sipush (v := Int32.ofInt (-200)) hx hb dL_step_759 (by decide) ?_
    refine zr_icmp_eq (tgt := 779) hF h dL_step_762 (by decide) (fun h => ?_) (fun h => ?_)
    · exact wL_step_j779 hF hT hr hsm hnp (by omega)  hw (lv_sub hl [] rfl) h
    · refine lv_aload_n hx hb dL_step_765 rfl (lv_at hl 0 rfl) ?_
      refine lv_iload hx hb dL_step_766 (lv_at hl 3 rfl) ?_
      refine lv_iconst hx hb dL_step_768 rfl ?_
      obtain ⟨o1, g1, h1, h⟩ := zbn_some h
      refine zw_callVi (n := 2) (As := [z_v x6, z_v 5]) (rest := []) hF hw (czX4_regulationIs l hT X N h1) h zEf_0_0 (by decide) zC_0 (z_goodV qw_658 qw_659 qw_660 qw_15 qw_661) (by decide +kernel) ⟨Nat.le_of_ble_eq_true rfl, Nat.le_of_ble_eq_true rfl⟩ rfl hl.1 rfl (Nat.le_of_ble_eq_true rfl) dL_step_769 ⟨by show cells + 6 + 2 ≤ 310; omega, by show slots + 80 + 12 ≤ 1860; omega⟩ (fun h => h.elim) (fun H locs hw h => ?_)
      clear h1
      generalize g1 = g at *
      generalize o1.2 = r2 at *
      refine W.widen (k := cells + 8) (n := slots + 92) (by show cells + 6 + 2 ≤ cells + 8; omega) (by show slots + 80 + 12 ≤ slots + 92; omega) ?_
      refine lv_iload_n hx hb dL_step_772 rfl (lv_at hl 2 rfl) ?_
      refine lv_bipush (v := Int32.ofInt (16)) hx hb dL_step_773 (by decide) ?_
      refine zr_irem hF h dL_step_775 (fun h => ?_)
      refine zr_icmp_ne (tgt := 783) hF h dL_step_776 (by decide) (fun h => ?_) (fun h => ?_)
      · refine lv_iconst hx hb dL_step_783 rfl ?_
        exact zp_zretn hF hr hsm hw h dL_step_784 ⟨by omega, by omega⟩
      · exact wL_step_j779 hF hT hr hsm hnp (by omega)  hw (lv_sub hl [] rfl) h
set_option maxHeartbeats 4000000 in
set_option maxRecDepth 100000 in
theorem wL_step_j848 {p : Program} {l : Launch} {e : Env} {s : State} {m : MethodId} {args : Array Value} {below : List Frame} {meth : Method} {c : Code} {X : zC} {N0 : zN} {N : zN} {r : Int} {g' : zG} (hF : zF p s m args meth c X cL_step 17 RL) (hT : l.stackTraces = false) (hr : meth.sig.returnType = (some .boolean)) (hsm : zSame N0 N) (hnp : zNp N) {n : Nat} {cells slots : Nat} (hcs : cells + 0 ≤ 310 ∧ slots + 0 ≤ 1860) {g : zG} {H : Heap} {locs : List Loc} {ls : Array Slot} (hw : zH X N g s H locs) (hl : lv_has ls 17 []) (h : sL_step_j848 n g = some (r, g')) : W p l e { frames := 10, cells := 310, slots := 1860, locals := 250 } s m args below meth c H locs cells slots (MQ below (zQn X N0 r g') args s 310 1860 (zA X)) (F0 m 848 ls []) := by
  have hx := hF.1.1
  have hb := hF.1.2.1
  unfold sL_step_j848 at h
  refine lv_iconst hx hb dL_step_848 rfl ?_
  refine lv_goto (tgt := 853) hx hb dL_step_849 (by decide) ?_
  exact zp_zretn hF hr hsm hw h dL_step_853 ⟨by omega, by omega⟩
set_option maxHeartbeats 4000000 in
set_option maxRecDepth 100000 in
theorem wL_step_j785 {p : Program} {l : Launch} {e : Env} {s : State} {m : MethodId} {args : Array Value} {below : List Frame} {meth : Method} {c : Code} {X : zC} {N0 : zN} {N : zN} {r : Int} {g' : zG} (hF : zF p s m args meth c X cL_step 17 RL) (hT : l.stackTraces = false) (hr : meth.sig.returnType = (some .boolean)) (hsm : zSame N0 N) (hnp : zNp N) {n : Nat} {cells slots : Nat} (hcs : cells + 10 ≤ 310 ∧ slots + 60 ≤ 1860) {x3 : Int} {x5 : Int} {x6 : Int} {g : zG} {H : Heap} {locs : List Loc} {ls : Array Slot} (hw : zH X N g s H locs) (hl : lv_has ls 17 [(0, z_r N 0 0), (1, z_r N 17 0), (3, z_v x3), (5, z_v x5), (6, z_v x6)]) (h : sL_step_j785 n x3 x5 x6 g = some (r, g')) : W p l e { frames := 10, cells := 310, slots := 1860, locals := 250 } s m args below meth c H locs cells slots (MQ below (zQn X N0 r g') args s 310 1860 (zA X)) (F0 m 785 ls []) := by
  have hx := hF.1.1
  have hb := hF.1.2.1
  unfold sL_step_j785 at h
  refine lv_aload_n hx hb dL_step_785 rfl (lv_at hl 1 rfl) ?_
  refine lv_iconst hx hb dL_step_786 rfl ?_
  refine zr_iald hF hw zEf_17_0 (by decide) h dL_step_787 (fun h => ?_)
  refine zr_if_eq (tgt := 848) hF h dL_step_788 (by decide) (fun h => ?_) (fun h => ?_)
  · exact wL_step_j848 hF hT hr hsm hnp (by omega)  hw (lv_sub hl [] rfl) h
  · refine lv_iload_n hx hb dL_step_791 rfl (lv_at hl 2 rfl) ?_
    refine lv_iconst hx hb dL_step_792 rfl ?_
    refine zr_irem hF h dL_step_793 (fun h => ?_)
    refine zr_if_gt (tgt := 848) hF h dL_step_794 (by decide) (fun h => ?_) (fun h => ?_)
    · exact wL_step_j848 hF hT hr hsm hnp (by omega)  hw (lv_sub hl [] rfl) h
    · refine lv_aload_n hx hb dL_step_797 rfl (lv_at hl 0 rfl) ?_
      refine lv_iload hx hb dL_step_798 (lv_at hl 4 rfl) ?_
      obtain ⟨r1, g1, h1, h⟩ := zbd_some h
      refine zp_callW (n := 2) (As := [z_r N 0 0, z_v x6]) (rest := []) hF hw (czL_ends l hT X N h1) (z_goodSW qw_686 qw_687 qw_14 qw_688) (by decide +kernel) ⟨Nat.le_of_ble_eq_true rfl, Nat.le_of_ble_eq_true rfl⟩ rfl hl.1 rfl (Nat.le_of_ble_eq_true rfl) dL_step_800 ⟨by show cells + 2 ≤ 310; omega, by show slots + 12 ≤ 1860; omega⟩ (fun H locs hw => ?_)
      clear h1
      generalize g1 = g at *
      refine W.widen (k := cells + 2) (n := slots + 12) (by show cells + 2 ≤ cells + 2; omega) (by show slots + 12 ≤ slots + 12; omega) ?_
      refine zr_if_eq (tgt := 848) hF h dL_step_803 (by decide) (fun h => ?_) (fun h => ?_)
      · exact wL_step_j848 hF hT hr hsm hnp (by omega)  hw (lv_sub hl [] rfl) h
      · refine lv_aload_n hx hb dL_step_806 rfl (lv_at hl 0 rfl) ?_
        refine lv_iload hx hb dL_step_807 (lv_at hl 4 rfl) ?_
        refine lv_iconst hx hb dL_step_809 rfl ?_
        obtain ⟨o1, g1, h1, h⟩ := zbn_some h
        refine zw_callVi (n := 2) (As := [z_v x6, z_v 0]) (rest := []) hF hw (czX4_regulationIs l hT X N h1) h zEf_0_0 (by decide) zC_0 (z_goodV qw_658 qw_659 qw_660 qw_15 qw_661) (by decide +kernel) ⟨Nat.le_of_ble_eq_true rfl, Nat.le_of_ble_eq_true rfl⟩ rfl hl.1 rfl (Nat.le_of_ble_eq_true rfl) dL_step_810 ⟨by show cells + 2 + 2 ≤ 310; omega, by show slots + 12 + 12 ≤ 1860; omega⟩ (fun h => h.elim) (fun H locs hw h => ?_)
        clear h1
        generalize g1 = g at *
        generalize o1.2 = r2 at *
        refine W.widen (k := cells + 4) (n := slots + 24) (by show cells + 2 + 2 ≤ cells + 4; omega) (by show slots + 12 + 12 ≤ slots + 24; omega) ?_
        refine zr_if_ne (tgt := 852) hF h dL_step_813 (by decide) (fun h => ?_) (fun h => ?_)
        · refine lv_iconst hx hb dL_step_852 rfl ?_
          exact zp_zretn hF hr hsm hw h dL_step_853 ⟨by omega, by omega⟩
        · refine lv_aload_n hx hb dL_step_816 rfl (lv_at hl 0 rfl) ?_
          refine lv_iload hx hb dL_step_817 (lv_at hl 4 rfl) ?_
          refine lv_iconst hx hb dL_step_819 rfl ?_
          obtain ⟨o1, g1, h1, h⟩ := zbn_some h
          refine zw_callVi (n := 2) (As := [z_v x6, z_v 0]) (rest := []) hF hw (czX4_slot l hT X N h1) h zEf_0_0 (by decide) zC_0 (z_goodV qw_667 qw_668 qw_669 qw_15 qw_670) (by decide +kernel) ⟨Nat.le_of_ble_eq_true rfl, Nat.le_of_ble_eq_true rfl⟩ rfl hl.1 rfl (Nat.le_of_ble_eq_true rfl) dL_step_820 ⟨by show cells + 4 + 2 ≤ 310; omega, by show slots + 24 + 12 ≤ 1860; omega⟩ (fun h => h.elim) (fun H locs hw h => ?_)
          clear h1
          generalize g1 = g at *
          generalize o1.2 = r3 at *
          refine W.widen (k := cells + 6) (n := slots + 36) (by show cells + 4 + 2 ≤ cells + 6; omega) (by show slots + 24 + 12 ≤ slots + 36; omega) ?_
          refine lv_iconst hx hb dL_step_823 rfl ?_
          refine zr_icmp_ne (tgt := 852) hF h dL_step_824 (by decide) (fun h => ?_) (fun h => ?_)
          · refine lv_iconst hx hb dL_step_852 rfl ?_
            exact zp_zretn hF hr hsm hw h dL_step_853 ⟨by omega, by omega⟩
          · refine lv_aload_n hx hb dL_step_827 rfl (lv_at hl 0 rfl) ?_
            refine lv_iload hx hb dL_step_828 (lv_at hl 3 rfl) ?_
            refine lv_iload hx hb dL_step_830 (lv_at hl 4 rfl) ?_
            obtain ⟨o1, g1, h1, h⟩ := zbn_some h
            refine zw_callVi (n := 2) (As := [z_v x5, z_v x6]) (rest := []) hF hw (czX4_penalty l hT X N h1) h zEf_0_0 (by decide) zC_0 (z_goodV qw_693 qw_694 qw_695 qw_15 qw_696) (by decide +kernel) ⟨Nat.le_of_ble_eq_true rfl, Nat.le_of_ble_eq_true rfl⟩ rfl hl.1 rfl (Nat.le_of_ble_eq_true rfl) dL_step_832 ⟨by show cells + 6 + 2 ≤ 310; omega, by show slots + 36 + 12 ≤ 1860; omega⟩ (fun h => h.elim) (fun H locs hw h => ?_)
            clear h1
            generalize g1 = g at *
            generalize o1.2 = r4 at *
            refine W.widen (k := cells + 8) (n := slots + 48) (by show cells + 6 + 2 ≤ cells + 8; omega) (by show slots + 36 + 12 ≤ slots + 48; omega) ?_
            refine lv_iconst hx hb dL_step_835 rfl ?_
            refine zr_icmp_ne (tgt := 852) hF h dL_step_836 (by decide) (fun h => ?_) (fun h => ?_)
            · refine lv_iconst hx hb dL_step_852 rfl ?_
              exact zp_zretn hF hr hsm hw h dL_step_853 ⟨by omega, by omega⟩
            · refine lv_aload_n hx hb dL_step_839 rfl (lv_at hl 0 rfl) ?_
              refine lv_iload hx hb dL_step_840 (lv_at hl 4 rfl) ?_
              obtain ⟨r5, g1, h1, h⟩ := zbd_some h
              refine zp_callW (n := 2) (As := [z_r N 0 0, z_v x6]) (rest := []) hF hw (czL_ends l hT X N h1) (z_goodSW qw_686 qw_687 qw_14 qw_688) (by decide +kernel) ⟨Nat.le_of_ble_eq_true rfl, Nat.le_of_ble_eq_true rfl⟩ rfl hl.1 rfl (Nat.le_of_ble_eq_true rfl) dL_step_842 ⟨by show cells + 8 + 2 ≤ 310; omega, by show slots + 48 + 12 ≤ 1860; omega⟩ (fun H locs hw => ?_)
              clear h1
              generalize g1 = g at *
              refine W.widen (k := cells + 10) (n := slots + 60) (by show cells + 8 + 2 ≤ cells + 10; omega) (by show slots + 48 + 12 ≤ slots + 60; omega) ?_
              refine zr_if_ne (tgt := 852) hF h dL_step_845 (by decide) (fun h => ?_) (fun h => ?_)
              · refine lv_iconst hx hb dL_step_852 rfl ?_
                exact zp_zretn hF hr hsm hw h dL_step_853 ⟨by omega, by omega⟩
              · exact wL_step_j848 hF hT hr hsm hnp (by omega)  hw (lv_sub hl [] rfl) h
set_option maxHeartbeats 4000000 in
set_option maxRecDepth 100000 in
theorem wL_step_j867 {p : Program} {l : Launch} {e : Env} {s : State} {m : MethodId} {args : Array Value} {below : List Frame} {meth : Method} {c : Code} {X : zC} {N0 : zN} {N : zN} {r : Int} {g' : zG} (hF : zF p s m args meth c X cL_step 17 RL) (hT : l.stackTraces = false) (hr : meth.sig.returnType = (some .boolean)) (hsm : zSame N0 N) (hnp : zNp N) {n : Nat} {cells slots : Nat} (hcs : cells + 310 ≤ 310 ∧ slots + 1860 ≤ 1860) {x5 : Int} {t2 : Int} {g : zG} {H : Heap} {locs : List Loc} {ls : Array Slot} (hw : zH X N g s H locs) (hl : lv_has ls 17 [(5, z_v x5)]) (h : sL_step_j867 n x5 t2 g = some (r, g')) : W p l e { frames := 10, cells := 310, slots := 1860, locals := 250 } s m args below meth c H locs cells slots (MQ below (zQn X N0 r g') args s 310 1860 (zA X)) (F0 m 867 ls [z_v t2, z_r N 17 0, z_r N 0 0]) := by
  have hx := hF.1.1
  have hb := hF.1.2.1
  unfold sL_step_j867 at h
  refine lv_iload hx hb dL_step_867 (lv_at hl 0 rfl) ?_
  obtain ⟨r1, g1, h1, h⟩ := zbd_some h
  refine zp_callC (n := 4) (As := [z_r N 0 0, z_r N 17 0, z_v t2, z_v x5]) (rest := []) hF hw (czL_isDealt l hT X N h1) (z_goodS qw_697 qw_698 qw_14 qw_699) (by decide +kernel) ⟨Nat.le_of_ble_eq_true rfl, Nat.le_of_ble_eq_true rfl⟩ rfl hl.1 rfl (Nat.le_of_ble_eq_true rfl) dL_step_869 ⟨by show cells + 310 ≤ 310; omega, by show slots + 1860 ≤ 1860; omega⟩ (fun H locs hw => ?_)
  clear h1
  generalize g1 = g at *
  refine W.widen (k := cells + 310) (n := slots + 1860) (by show cells + 310 ≤ cells + 310; omega) (by show slots + 1860 ≤ slots + 1860; omega) ?_
  exact zp_zretn hF hr hsm hw h dL_step_872 ⟨by omega, by omega⟩
set_option maxHeartbeats 4000000 in
set_option maxRecDepth 100000 in
theorem wL_step_j854 {p : Program} {l : Launch} {e : Env} {s : State} {m : MethodId} {args : Array Value} {below : List Frame} {meth : Method} {c : Code} {X : zC} {N0 : zN} {N : zN} {r : Int} {g' : zG} (hF : zF p s m args meth c X cL_step 17 RL) (hT : l.stackTraces = false) (hr : meth.sig.returnType = (some .boolean)) (hsm : zSame N0 N) (hnp : zNp N) {n : Nat} {cells slots : Nat} (hcs : cells + 310 ≤ 310 ∧ slots + 1860 ≤ 1860) {x3 : Int} {x5 : Int} {g : zG} {H : Heap} {locs : List Loc} {ls : Array Slot} (hw : zH X N g s H locs) (hl : lv_has ls 17 [(0, z_r N 0 0), (1, z_r N 17 0), (3, z_v x3), (5, z_v x5)]) (h : sL_step_j854 n x3 x5 g = some (r, g')) : W p l e { frames := 10, cells := 310, slots := 1860, locals := 250 } s m args below meth c H locs cells slots (MQ below (zQn X N0 r g') args s 310 1860 (zA X)) (F0 m 854 ls []) := by
  have hx := hF.1.1
  have hb := hF.1.2.1
  unfold sL_step_j854 at h
  refine lv_aload_n hx hb dL_step_854 rfl (lv_at hl 0 rfl) ?_
  refine lv_aload_n hx hb dL_step_855 rfl (lv_at hl 1 rfl) ?_
  refine lv_iload_n hx hb dL_step_856 rfl (lv_at hl 2 rfl) ?_
  refine lv_iconst hx hb dL_step_857 rfl ?_
  refine zr_irem hF h dL_step_858 (fun h => ?_)
  refine zr_if_ne (tgt := 866) hF h dL_step_859 (by decide) (fun h => ?_) (fun h => ?_)
  · refine lv_iconst hx hb dL_step_866 rfl ?_
    exact wL_step_j867 hF hT hr hsm hnp (by omega)  hw (lv_sub hl [3] rfl) h
  · refine lv_iconst hx hb dL_step_862 rfl ?_
    refine lv_goto (tgt := 867) hx hb dL_step_863 (by decide) ?_
    exact wL_step_j867 hF hT hr hsm hnp (by omega)  hw (lv_sub hl [3] rfl) h
set_option maxHeartbeats 4000000 in
set_option maxRecDepth 100000 in
theorem wL_step_j873 {p : Program} {l : Launch} {e : Env} {s : State} {m : MethodId} {args : Array Value} {below : List Frame} {meth : Method} {c : Code} {X : zC} {N0 : zN} {N : zN} {r : Int} {g' : zG} (hF : zF p s m args meth c X cL_step 17 RL) (hT : l.stackTraces = false) (hr : meth.sig.returnType = (some .boolean)) (hsm : zSame N0 N) (hnp : zNp N) {n : Nat} {cells slots : Nat} (hcs : cells + 32 ≤ 310 ∧ slots + 192 ≤ 1860) {x4 : Int} {x5 : Int} {g : zG} {H : Heap} {locs : List Loc} {ls : Array Slot} (hw : zH X N g s H locs) (hl : lv_has ls 17 [(0, z_r N 0 0), (1, z_r N 17 0), (4, z_v x4), (5, z_v x5)]) (h : sL_step_j873 n x4 x5 g = some (r, g')) : W p l e { frames := 10, cells := 310, slots := 1860, locals := 250 } s m args below meth c H locs cells slots (MQ below (zQn X N0 r g') args s 310 1860 (zA X)) (F0 m 873 ls []) := by
  have hx := hF.1.1
  have hb := hF.1.2.1
  unfold sL_step_j873 at h
  refine lv_aload_n hx hb dL_step_873 rfl (lv_at hl 0 rfl) ?_
  refine lv_aload_n hx hb dL_step_874 rfl (lv_at hl 1 rfl) ?_
  refine lv_iload hx hb dL_step_875 (lv_at hl 3 rfl) ?_
  refine lv_iload hx hb dL_step_877 (lv_at hl 2 rfl) ?_
  obtain ⟨r1, g1, h1, h⟩ := zbd_some h
  refine zp_callC (n := 4) (As := [z_r N 0 0, z_r N 17 0, z_v x5, z_v x4]) (rest := []) hF hw (czL_isSwapped l hT X N h1) (z_goodS qw_713 qw_714 qw_14 qw_715) (by decide +kernel) ⟨Nat.le_of_ble_eq_true rfl, Nat.le_of_ble_eq_true rfl⟩ rfl hl.1 rfl (Nat.le_of_ble_eq_true rfl) dL_step_879 ⟨by show cells + 32 ≤ 310; omega, by show slots + 192 ≤ 1860; omega⟩ (fun H locs hw => ?_)
  clear h1
  generalize g1 = g at *
  refine W.widen (k := cells + 32) (n := slots + 192) (by show cells + 32 ≤ cells + 32; omega) (by show slots + 192 ≤ slots + 192; omega) ?_
  exact zp_zretn hF hr hsm hw h dL_step_882 ⟨by omega, by omega⟩
set_option maxHeartbeats 4000000 in
set_option maxRecDepth 100000 in
theorem wL_step_j959 {p : Program} {l : Launch} {e : Env} {s : State} {m : MethodId} {args : Array Value} {below : List Frame} {meth : Method} {c : Code} {X : zC} {N0 : zN} {N : zN} {r : Int} {g' : zG} (hF : zF p s m args meth c X cL_step 17 RL) (hT : l.stackTraces = false) (hr : meth.sig.returnType = (some .boolean)) (hsm : zSame N0 N) (hnp : zNp N) {n : Nat} {cells slots : Nat} (hcs : cells + 0 ≤ 310 ∧ slots + 0 ≤ 1860) {g : zG} {H : Heap} {locs : List Loc} {ls : Array Slot} (hw : zH X N g s H locs) (hl : lv_has ls 17 []) (h : sL_step_j959 n g = some (r, g')) : W p l e { frames := 10, cells := 310, slots := 1860, locals := 250 } s m args below meth c H locs cells slots (MQ below (zQn X N0 r g') args s 310 1860 (zA X)) (F0 m 959 ls []) := by
  have hx := hF.1.1
  have hb := hF.1.2.1
  unfold sL_step_j959 at h
  refine lv_iconst hx hb dL_step_959 rfl ?_
  refine lv_goto (tgt := 964) hx hb dL_step_960 (by decide) ?_
  exact zp_zretn hF hr hsm hw h dL_step_964 ⟨by omega, by omega⟩
set_option maxHeartbeats 4000000 in
set_option maxRecDepth 100000 in
theorem wL_step_j883 {p : Program} {l : Launch} {e : Env} {s : State} {m : MethodId} {args : Array Value} {below : List Frame} {meth : Method} {c : Code} {X : zC} {N0 : zN} {N : zN} {r : Int} {g' : zG} (hF : zF p s m args meth c X cL_step 17 RL) (hT : l.stackTraces = false) (hr : meth.sig.returnType = (some .boolean)) (hsm : zSame N0 N) (hnp : zNp N) {n : Nat} {cells slots : Nat} (hcs : cells + 9 ≤ 310 ∧ slots + 54 ≤ 1860) {x3 : Int} {x4 : Int} {g : zG} {H : Heap} {locs : List Loc} {ls : Array Slot} (hw : zH X N g s H locs) (hl : lv_has ls 17 [(0, z_r N 0 0), (1, z_r N 17 0), (3, z_v x3), (4, z_v x4)]) (h : sL_step_j883 n x3 x4 g = some (r, g')) : W p l e { frames := 10, cells := 310, slots := 1860, locals := 250 } s m args below meth c H locs cells slots (MQ below (zQn X N0 r g') args s 310 1860 (zA X)) (F0 m 883 ls []) := by
  have hx := hF.1.1
  have hb := hF.1.2.1
  unfold sL_step_j883 at h
  refine lv_aload_n hx hb dL_step_883 rfl (lv_at hl 1 rfl) ?_
  refine lv_iconst hx hb dL_step_884 rfl ?_
  refine lv_dup2_11 hx hb dL_step_885 rfl rfl ?_
  refine zr_iald hF hw zEf_17_0 (by decide) h dL_step_886 (fun h => ?_)
  refine lv_iconst hx hb dL_step_887 rfl ?_
  refine zr_iadd hF dL_step_888 ?_
  refine zr_iast hF hw zEf_17_0 (by decide) h dL_step_889 (fun g H locs hw h => ?_)
  refine lv_iconst hx hb dL_step_890 rfl ?_
  refine lv_iload hx hb dL_step_891 (lv_at hl 3 rfl) ?_
  refine lv_sipush (v := Int32.ofInt (240)) hx hb dL_step_893 (by decide) ?_
  refine zr_irem hF h dL_step_896 (fun h => ?_)
  refine zr_iadd hF dL_step_897 ?_
  refine zr_let h (fun v1 h => ?_)
  refine lv_istore (lv' := [(15, z_v v1), (0, z_r N 0 0), (1, z_r N 17 0), (3, z_v x3), (4, z_v x4)]) hx hb dL_step_898 hl (by decide) rfl (fun ls hl => ?_)
  refine lv_aload_n hx hb dL_step_900 rfl (lv_at hl 2 rfl) ?_
  refine lv_iconst hx hb dL_step_901 rfl ?_
  refine zr_iald hF hw zEf_17_0 (by decide) h dL_step_902 (fun h => ?_)
  refine lv_iconst hx hb dL_step_903 rfl ?_
  refine zr_icmp_gt (tgt := 959) hF h dL_step_904 (by decide) (fun h => ?_) (fun h => ?_)
  · exact wL_step_j959 hF hT hr hsm hnp (by omega)  hw (lv_sub hl [] rfl) h
  · refine lv_aload_n hx hb dL_step_907 rfl (lv_at hl 1 rfl) ?_
    refine lv_iload_n hx hb dL_step_908 rfl (lv_at hl 3 rfl) ?_
    refine lv_bipush (v := Int32.ofInt (6)) hx hb dL_step_909 (by decide) ?_
    refine zr_irem hF h dL_step_911 (fun h => ?_)
    refine lv_iload hx hb dL_step_912 (lv_at hl 0 rfl) ?_
    obtain ⟨o1, g1, h1, h⟩ := zbn_some h
    refine zw_callVi (n := 2) (As := [z_v ((x3).tmod 6), z_v v1]) (rest := []) hF hw (czX4_peak l hT X N h1) h zEf_0_0 (by decide) zC_0 (z_goodV qw_732 qw_733 qw_734 qw_15 qw_735) (by decide +kernel) ⟨Nat.le_of_ble_eq_true rfl, Nat.le_of_ble_eq_true rfl⟩ rfl hl.1 rfl (Nat.le_of_ble_eq_true rfl) dL_step_914 ⟨by show cells + 2 ≤ 310; omega, by show slots + 12 ≤ 1860; omega⟩ (fun h => h.elim) (fun H locs hw h => ?_)
    clear h1
    generalize g1 = g at *
    generalize o1.2 = r2 at *
    refine W.widen (k := cells + 2) (n := slots + 12) (by show cells + 2 ≤ cells + 2; omega) (by show slots + 12 ≤ slots + 12; omega) ?_
    refine lv_aload_n hx hb dL_step_917 rfl (lv_at hl 1 rfl) ?_
    refine lv_iload_n hx hb dL_step_918 rfl (lv_at hl 3 rfl) ?_
    refine lv_bipush (v := Int32.ofInt (6)) hx hb dL_step_919 (by decide) ?_
    refine zr_irem hF h dL_step_921 (fun h => ?_)
    refine lv_iload hx hb dL_step_922 (lv_at hl 0 rfl) ?_
    obtain ⟨o1, g1, h1, h⟩ := zbn_some h
    refine zw_callVi (n := 2) (As := [z_v ((x3).tmod 6), z_v v1]) (rest := [z_v r2]) hF hw (czX4_peakAnew l hT X N h1) h zEf_0_0 (by decide) zC_0 (z_goodV qw_273 qw_274 qw_275 qw_15 qw_276) (by decide +kernel) ⟨Nat.le_of_ble_eq_true rfl, Nat.le_of_ble_eq_true rfl⟩ rfl hl.1 rfl (Nat.le_of_ble_eq_true rfl) dL_step_924 ⟨by show cells + 2 + 2 ≤ 310; omega, by show slots + 12 + 12 ≤ 1860; omega⟩ (fun h => h.elim) (fun H locs hw h => ?_)
    clear h1
    generalize g1 = g at *
    generalize o1.2 = r3 at *
    refine W.widen (k := cells + 4) (n := slots + 24) (by show cells + 2 + 2 ≤ cells + 4; omega) (by show slots + 12 + 12 ≤ slots + 24; omega) ?_
    refine zr_icmp_ne (tgt := 963) hF h dL_step_927 (by decide) (fun h => ?_) (fun h => ?_)
    · refine lv_iconst hx hb dL_step_963 rfl ?_
      exact zp_zretn hF hr hsm hw h dL_step_964 ⟨by omega, by omega⟩
    · refine lv_aload_n hx hb dL_step_930 rfl (lv_at hl 1 rfl) ?_
      refine lv_iload_n hx hb dL_step_931 rfl (lv_at hl 3 rfl) ?_
      refine lv_bipush (v := Int32.ofInt (6)) hx hb dL_step_932 (by decide) ?_
      refine zr_irem hF h dL_step_934 (fun h => ?_)
      refine lv_iload hx hb dL_step_935 (lv_at hl 4 rfl) ?_
      refine lv_sipush (v := Int32.ofInt (1500)) hx hb dL_step_937 (by decide) ?_
      refine zr_irem hF h dL_step_940 (fun h => ?_)
      refine lv_iload hx hb dL_step_941 (lv_at hl 0 rfl) ?_
      obtain ⟨o1, g1, h1, h⟩ := zbn_some h
      refine zw_callVi (n := 3) (As := [z_v ((x3).tmod 6), z_v ((x4).tmod 1500), z_v v1]) (rest := []) hF hw (czX4_load l hT X N h1) h zEf_0_0 (by decide) zC_0 (z_goodV qw_136 qw_137 qw_138 qw_15 qw_139) (by decide +kernel) ⟨Nat.le_of_ble_eq_true rfl, Nat.le_of_ble_eq_true rfl⟩ rfl hl.1 rfl (Nat.le_of_ble_eq_true rfl) dL_step_943 ⟨by show cells + 4 + 3 ≤ 310; omega, by show slots + 24 + 18 ≤ 1860; omega⟩ (fun h => h.elim) (fun H locs hw h => ?_)
      clear h1
      generalize g1 = g at *
      generalize o1.2 = r4 at *
      refine W.widen (k := cells + 7) (n := slots + 42) (by show cells + 4 + 3 ≤ cells + 7; omega) (by show slots + 24 + 18 ≤ slots + 42; omega) ?_
      refine lv_aload_n hx hb dL_step_946 rfl (lv_at hl 1 rfl) ?_
      refine lv_iload_n hx hb dL_step_947 rfl (lv_at hl 3 rfl) ?_
      refine lv_bipush (v := Int32.ofInt (6)) hx hb dL_step_948 (by decide) ?_
      refine zr_irem hF h dL_step_950 (fun h => ?_)
      refine lv_iload hx hb dL_step_951 (lv_at hl 0 rfl) ?_
      obtain ⟨o1, g1, h1, h⟩ := zbn_some h
      refine zw_callVi (n := 2) (As := [z_v ((x3).tmod 6), z_v v1]) (rest := [z_v r4]) hF hw (czX4_peakAnew l hT X N h1) h zEf_0_0 (by decide) zC_0 (z_goodV qw_273 qw_274 qw_275 qw_15 qw_276) (by decide +kernel) ⟨Nat.le_of_ble_eq_true rfl, Nat.le_of_ble_eq_true rfl⟩ rfl hl.1 rfl (Nat.le_of_ble_eq_true rfl) dL_step_953 ⟨by show cells + 7 + 2 ≤ 310; omega, by show slots + 42 + 12 ≤ 1860; omega⟩ (fun h => h.elim) (fun H locs hw h => ?_)
      clear h1
      generalize g1 = g at *
      generalize o1.2 = r5 at *
      refine W.widen (k := cells + 9) (n := slots + 54) (by show cells + 7 + 2 ≤ cells + 9; omega) (by show slots + 42 + 12 ≤ slots + 54; omega) ?_
      refine zr_icmp_gt (tgt := 963) hF h dL_step_956 (by decide) (fun h => ?_) (fun h => ?_)
      · refine lv_iconst hx hb dL_step_963 rfl ?_
        exact zp_zretn hF hr hsm hw h dL_step_964 ⟨by omega, by omega⟩
      · exact wL_step_j959 hF hT hr hsm hnp (by omega)  hw (lv_sub hl [] rfl) h
set_option maxHeartbeats 4000000 in
set_option maxRecDepth 100000 in
theorem wL_step_j965 {p : Program} {l : Launch} {e : Env} {s : State} {m : MethodId} {args : Array Value} {below : List Frame} {meth : Method} {c : Code} {X : zC} {N0 : zN} {N : zN} {r : Int} {g' : zG} (hF : zF p s m args meth c X cL_step 17 RL) (hT : l.stackTraces = false) (hr : meth.sig.returnType = (some .boolean)) (hsm : zSame N0 N) (hnp : zNp N) {n : Nat} {cells slots : Nat} (hcs : cells + 6 ≤ 310 ∧ slots + 80 ≤ 1860) {x3 : Int} {x4 : Int} {g : zG} {H : Heap} {locs : List Loc} {ls : Array Slot} (hw : zH X N g s H locs) (hl : lv_has ls 17 [(0, z_r N 0 0), (3, z_v x3), (4, z_v x4)]) (h : sL_step_j965 n x3 x4 g = some (r, g')) : W p l e { frames := 10, cells := 310, slots := 1860, locals := 250 } s m args below meth c H locs cells slots (MQ below (zQn X N0 r g') args s 310 1860 (zA X)) (F0 m 965 ls []) := by
  have hx := hF.1.1
  have hb := hF.1.2.1
  unfold sL_step_j965 at h
  refine lv_aload_n hx hb dL_step_965 rfl (lv_at hl 0 rfl) ?_
  obtain ⟨r1, g1, h1, h⟩ := zbd_some h
  refine zr_callVi (n := 0) (As := []) (rest := []) hF hw (czX4_allDue l X N h1) zEf_0_0 (by decide) zC_0 (z_goodV qw_280 qw_281 qw_282 qw_15 qw_283) (by decide +kernel) ⟨Nat.le_of_ble_eq_true rfl, Nat.le_of_ble_eq_true rfl⟩ ⟨rfl, rfl⟩ rfl hl.1 rfl (Nat.le_of_ble_eq_true rfl) dL_step_966 ⟨by show cells ≤ 310; omega, by show slots ≤ 1860; omega⟩ (fun H locs hw => ?_)
  clear h1
  generalize g1 = g at *
  refine lv_istore (lv' := [(16, z_v r1), (0, z_r N 0 0), (3, z_v x3), (4, z_v x4)]) hx hb dL_step_969 hl (by decide) rfl (fun ls hl => ?_)
  refine lv_aload_n hx hb dL_step_971 rfl (lv_at hl 1 rfl) ?_
  refine lv_iload_n hx hb dL_step_972 rfl (lv_at hl 2 rfl) ?_
  refine lv_bipush (v := Int32.ofInt (6)) hx hb dL_step_973 (by decide) ?_
  refine zr_irem hF h dL_step_975 (fun h => ?_)
  refine lv_sipush (v := Int32.ofInt (390)) hx hb dL_step_976 (by decide) ?_
  refine lv_iload hx hb dL_step_979 (lv_at hl 3 rfl) ?_
  refine lv_bipush (v := Int32.ofInt (60)) hx hb dL_step_981 (by decide) ?_
  refine zr_irem hF h dL_step_983 (fun h => ?_)
  refine zr_iadd hF dL_step_984 ?_
  refine lv_sipush (v := Int32.ofInt (391)) hx hb dL_step_985 (by decide) ?_
  refine lv_iload hx hb dL_step_988 (lv_at hl 3 rfl) ?_
  refine lv_bipush (v := Int32.ofInt (60)) hx hb dL_step_990 (by decide) ?_
  refine zr_irem hF h dL_step_992 (fun h => ?_)
  refine zr_iadd hF dL_step_993 ?_
  refine lv_iload hx hb dL_step_994 (lv_at hl 3 rfl) ?_
  refine lv_bipush (v := Int32.ofInt (64)) hx hb dL_step_996 (by decide) ?_
  refine zr_idiv hF h dL_step_998 (fun h => ?_)
  refine lv_bipush (v := Int32.ofInt (60)) hx hb dL_step_999 (by decide) ?_
  refine zr_irem hF h dL_step_1001 (fun h => ?_)
  refine zr_iadd hF dL_step_1002 ?_
  refine lv_iload hx hb dL_step_1003 (lv_at hl 3 rfl) ?_
  refine lv_sipush (v := Int32.ofInt (4096)) hx hb dL_step_1005 (by decide) ?_
  refine zr_idiv hF h dL_step_1008 (fun h => ?_)
  refine lv_bipush (v := Int32.ofInt (16)) hx hb dL_step_1009 (by decide) ?_
  refine zr_irem hF h dL_step_1011 (fun h => ?_)
  obtain ⟨o1, g1, h1, h⟩ := zbn_some h
  refine zw_callVi (n := 4) (As := [z_v ((x3).tmod 6), z_v (390 + ((x4).tmod 60)), z_v ((391 + ((x4).tmod 60)) + (((x4).tdiv 64).tmod 60)), z_v (((x4).tdiv 4096).tmod 16)]) (rest := []) hF hw (czX4_would l hT X N hnp h1) h zEf_0_0 (by decide) zC_0 (z_goodV qw_747 qw_748 qw_749 qw_15 qw_750) (by decide +kernel) ⟨Nat.le_of_ble_eq_true rfl, Nat.le_of_ble_eq_true rfl⟩ rfl hl.1 rfl (Nat.le_of_ble_eq_true rfl) dL_step_1012 ⟨by show cells + 6 ≤ 310; omega, by show slots + 80 ≤ 1860; omega⟩ (fun h => h.elim) (fun H locs hw h => ?_)
  clear h1
  generalize g1 = g at *
  generalize o1.2 = r2 at *
  refine W.widen (k := cells + 6) (n := slots + 80) (by show cells + 6 ≤ cells + 6; omega) (by show slots + 80 ≤ slots + 80; omega) ?_
  refine lv_iload hx hb dL_step_1015 (lv_at hl 0 rfl) ?_
  refine zr_icmp_lt (tgt := 1033) hF h dL_step_1017 (by decide) (fun h => ?_) (fun h => ?_)
  · refine lv_iconst hx hb dL_step_1033 rfl ?_
    exact zp_zretn hF hr hsm hw h dL_step_1034 ⟨by omega, by omega⟩
  · refine lv_aload_n hx hb dL_step_1020 rfl (lv_at hl 1 rfl) ?_
    obtain ⟨r3, g1, h1, h⟩ := zbd_some h
    refine zr_callVi (n := 0) (As := []) (rest := []) hF hw (czX4_allDue l X N h1) zEf_0_0 (by decide) zC_0 (z_goodV qw_280 qw_281 qw_282 qw_15 qw_283) (by decide +kernel) ⟨Nat.le_of_ble_eq_true rfl, Nat.le_of_ble_eq_true rfl⟩ ⟨rfl, rfl⟩ rfl hl.1 rfl (Nat.le_of_ble_eq_true rfl) dL_step_1021 ⟨by show cells + 6 ≤ 310; omega, by show slots + 80 ≤ 1860; omega⟩ (fun H locs hw => ?_)
    clear h1
    generalize g1 = g at *
    refine lv_iload hx hb dL_step_1024 (lv_at hl 0 rfl) ?_
    refine zr_icmp_ne (tgt := 1033) hF h dL_step_1026 (by decide) (fun h => ?_) (fun h => ?_)
    · refine lv_iconst hx hb dL_step_1033 rfl ?_
      exact zp_zretn hF hr hsm hw h dL_step_1034 ⟨by omega, by omega⟩
    · refine lv_iconst hx hb dL_step_1029 rfl ?_
      refine lv_goto (tgt := 1034) hx hb dL_step_1030 (by decide) ?_
      exact zp_zretn hF hr hsm hw h dL_step_1034 ⟨by omega, by omega⟩
set_option maxHeartbeats 4000000 in
set_option maxRecDepth 100000 in
theorem wL_step_j1035 {p : Program} {l : Launch} {e : Env} {s : State} {m : MethodId} {args : Array Value} {below : List Frame} {meth : Method} {c : Code} {X : zC} {N0 : zN} {N : zN} {r : Int} {g' : zG} (hF : zF p s m args meth c X cL_step 17 RL) (hT : l.stackTraces = false) (hr : meth.sig.returnType = (some .boolean)) (hsm : zSame N0 N) (hnp : zNp N) {n : Nat} {cells slots : Nat} (hcs : cells + 24 ≤ 310 ∧ slots + 144 ≤ 1860) {x4 : Int} {x5 : Int} {g : zG} {H : Heap} {locs : List Loc} {ls : Array Slot} (hw : zH X N g s H locs) (hl : lv_has ls 17 [(0, z_r N 0 0), (4, z_v x4), (5, z_v x5)]) (h : sL_step_j1035 n x4 x5 g = some (r, g')) : W p l e { frames := 10, cells := 310, slots := 1860, locals := 250 } s m args below meth c H locs cells slots (MQ below (zQn X N0 r g') args s 310 1860 (zA X)) (F0 m 1035 ls []) := by
  have hx := hF.1.1
  have hb := hF.1.2.1
  unfold sL_step_j1035 at h
  refine lv_aload_n hx hb dL_step_1035 rfl (lv_at hl 0 rfl) ?_
  refine lv_iload hx hb dL_step_1036 (lv_at hl 2 rfl) ?_
  refine lv_iload hx hb dL_step_1038 (lv_at hl 1 rfl) ?_
  obtain ⟨r1, g1, h1, h⟩ := zbd_some h
  refine zp_callC (n := 3) (As := [z_r N 0 0, z_v x5, z_v x4]) (rest := []) hF hw (czL_isTold l hT X N h1) (z_goodS qw_751 qw_752 qw_14 qw_753) (by decide +kernel) ⟨Nat.le_of_ble_eq_true rfl, Nat.le_of_ble_eq_true rfl⟩ rfl hl.1 rfl (Nat.le_of_ble_eq_true rfl) dL_step_1040 ⟨by show cells + 24 ≤ 310; omega, by show slots + 144 ≤ 1860; omega⟩ (fun H locs hw => ?_)
  clear h1
  generalize g1 = g at *
  refine W.widen (k := cells + 24) (n := slots + 144) (by show cells + 24 ≤ cells + 24; omega) (by show slots + 144 ≤ slots + 144; omega) ?_
  exact zp_zretn hF hr hsm hw h dL_step_1043 ⟨by omega, by omega⟩
set_option maxHeartbeats 4000000 in
set_option maxRecDepth 100000 in
theorem wL_step_j49 {p : Program} {l : Launch} {e : Env} {s : State} {m : MethodId} {args : Array Value} {below : List Frame} {meth : Method} {c : Code} {X : zC} {N0 : zN} {N : zN} {r : Int} {g' : zG} (hF : zF p s m args meth c X cL_step 17 RL) (hT : l.stackTraces = false) (hr : meth.sig.returnType = (some .boolean)) (hsm : zSame N0 N) (hnp : zNp N) {n : Nat} {cells slots : Nat} (hcs : cells + 310 ≤ 310 ∧ slots + 1860 ≤ 1860) {x3 : Int} {x4 : Int} {x5 : Int} {x6 : Int} {t0 : Int} {g : zG} {H : Heap} {locs : List Loc} {ls : Array Slot} (hw : zH X N g s H locs) (hl : lv_has ls 17 [(0, z_r N 0 0), (1, z_r N 17 0), (3, z_v x3), (4, z_v x4), (5, z_v x5), (6, z_v x6)]) (h : sL_step_j49 n x3 x4 x5 x6 t0 g = some (r, g')) : W p l e { frames := 10, cells := 310, slots := 1860, locals := 250 } s m args below meth c H locs cells slots (MQ below (zQn X N0 r g') args s 310 1860 (zA X)) (F0 m 49 ls [z_v t0]) := by
  have hx := hF.1.1
  have hb := hF.1.2.1
  unfold sL_step_j49 at h
  refine zr_case h (fun c49_0 h => ?_) (fun c49_0 hz h => ?_)
  · rw [c49_0]
    refine lv_tableIn (tgt := 152) hx hb dL_step_49 (by decide) (by decide) rfl (by decide) ?_
    exact wL_step_j152 hF hT hr hsm hnp (by omega)  hw (lv_sub hl [0, 1, 2, 3] rfl) h
  refine zr_case h (fun c49_1 h => ?_) (fun c49_1 hz h => ?_)
  · rw [c49_1]
    refine lv_tableIn (tgt := 152) hx hb dL_step_49 (by decide) (by decide) rfl (by decide) ?_
    exact wL_step_j152 hF hT hr hsm hnp (by omega)  hw (lv_sub hl [0, 1, 2, 3] rfl) h
  refine zr_case h (fun c49_2 h => ?_) (fun c49_2 hz h => ?_)
  · rw [c49_2]
    refine lv_tableIn (tgt := 152) hx hb dL_step_49 (by decide) (by decide) rfl (by decide) ?_
    exact wL_step_j152 hF hT hr hsm hnp (by omega)  hw (lv_sub hl [0, 1, 2, 3] rfl) h
  refine zr_case h (fun c49_3 h => ?_) (fun c49_3 hz h => ?_)
  · rw [c49_3]
    refine lv_tableIn (tgt := 294) hx hb dL_step_49 (by decide) (by decide) rfl (by decide) ?_
    exact wL_step_j294 hF hT hr hsm hnp (by omega)  hw (lv_sub hl [0, 3, 4] rfl) h
  refine zr_case h (fun c49_4 h => ?_) (fun c49_4 hz h => ?_)
  · rw [c49_4]
    refine lv_tableIn (tgt := 294) hx hb dL_step_49 (by decide) (by decide) rfl (by decide) ?_
    exact wL_step_j294 hF hT hr hsm hnp (by omega)  hw (lv_sub hl [0, 3, 4] rfl) h
  refine zr_case h (fun c49_5 h => ?_) (fun c49_5 hz h => ?_)
  · rw [c49_5]
    refine lv_tableIn (tgt := 294) hx hb dL_step_49 (by decide) (by decide) rfl (by decide) ?_
    exact wL_step_j294 hF hT hr hsm hnp (by omega)  hw (lv_sub hl [0, 3, 4] rfl) h
  refine zr_case h (fun c49_6 h => ?_) (fun c49_6 hz h => ?_)
  · rw [c49_6]
    refine lv_tableIn (tgt := 294) hx hb dL_step_49 (by decide) (by decide) rfl (by decide) ?_
    exact wL_step_j294 hF hT hr hsm hnp (by omega)  hw (lv_sub hl [0, 3, 4] rfl) h
  refine zr_case h (fun c49_7 h => ?_) (fun c49_7 hz h => ?_)
  · rw [c49_7]
    refine lv_tableIn (tgt := 294) hx hb dL_step_49 (by decide) (by decide) rfl (by decide) ?_
    exact wL_step_j294 hF hT hr hsm hnp (by omega)  hw (lv_sub hl [0, 3, 4] rfl) h
  refine zr_case h (fun c49_8 h => ?_) (fun c49_8 hz h => ?_)
  · rw [c49_8]
    refine lv_tableIn (tgt := 442) hx hb dL_step_49 (by decide) (by decide) rfl (by decide) ?_
    exact wL_step_j442 hF hT hr hsm hnp (by omega)  hw (lv_sub hl [0, 1, 2, 3] rfl) h
  refine zr_case h (fun c49_9 h => ?_) (fun c49_9 hz h => ?_)
  · rw [c49_9]
    refine lv_tableIn (tgt := 442) hx hb dL_step_49 (by decide) (by decide) rfl (by decide) ?_
    exact wL_step_j442 hF hT hr hsm hnp (by omega)  hw (lv_sub hl [0, 1, 2, 3] rfl) h
  refine zr_case h (fun c49_10 h => ?_) (fun c49_10 hz h => ?_)
  · rw [c49_10]
    refine lv_tableIn (tgt := 638) hx hb dL_step_49 (by decide) (by decide) rfl (by decide) ?_
    exact wL_step_j638 hF hT hr hsm hnp (by omega)  hw (lv_sub hl [0, 3, 4] rfl) h
  refine zr_case h (fun c49_11 h => ?_) (fun c49_11 hz h => ?_)
  · rw [c49_11]
    refine lv_tableIn (tgt := 740) hx hb dL_step_49 (by decide) (by decide) rfl (by decide) ?_
    exact wL_step_j740 hF hT hr hsm hnp (by omega)  hw (lv_sub hl [0, 1, 2, 5] rfl) h
  refine zr_case h (fun c49_12 h => ?_) (fun c49_12 hz h => ?_)
  · rw [c49_12]
    refine lv_tableIn (tgt := 785) hx hb dL_step_49 (by decide) (by decide) rfl (by decide) ?_
    exact wL_step_j785 hF hT hr hsm hnp (by omega)  hw (lv_sub hl [0, 1, 2, 4, 5] rfl) h
  refine zr_case h (fun c49_13 h => ?_) (fun c49_13 hz h => ?_)
  · rw [c49_13]
    refine lv_tableIn (tgt := 854) hx hb dL_step_49 (by decide) (by decide) rfl (by decide) ?_
    exact wL_step_j854 hF hT hr hsm hnp (by omega)  hw (lv_sub hl [0, 1, 2, 4] rfl) h
  refine zr_case h (fun c49_14 h => ?_) (fun c49_14 hz h => ?_)
  · rw [c49_14]
    refine lv_tableIn (tgt := 854) hx hb dL_step_49 (by decide) (by decide) rfl (by decide) ?_
    exact wL_step_j854 hF hT hr hsm hnp (by omega)  hw (lv_sub hl [0, 1, 2, 4] rfl) h
  refine zr_case h (fun c49_15 h => ?_) (fun c49_15 hz h => ?_)
  · rw [c49_15]
    refine lv_tableIn (tgt := 854) hx hb dL_step_49 (by decide) (by decide) rfl (by decide) ?_
    exact wL_step_j854 hF hT hr hsm hnp (by omega)  hw (lv_sub hl [0, 1, 2, 4] rfl) h
  refine zr_case h (fun c49_16 h => ?_) (fun c49_16 hz h => ?_)
  · rw [c49_16]
    refine lv_tableIn (tgt := 854) hx hb dL_step_49 (by decide) (by decide) rfl (by decide) ?_
    exact wL_step_j854 hF hT hr hsm hnp (by omega)  hw (lv_sub hl [0, 1, 2, 4] rfl) h
  refine zr_case h (fun c49_17 h => ?_) (fun c49_17 hz h => ?_)
  · rw [c49_17]
    refine lv_tableIn (tgt := 873) hx hb dL_step_49 (by decide) (by decide) rfl (by decide) ?_
    exact wL_step_j873 hF hT hr hsm hnp (by omega)  hw (lv_sub hl [0, 1, 3, 4] rfl) h
  refine zr_case h (fun c49_18 h => ?_) (fun c49_18 hz h => ?_)
  · rw [c49_18]
    refine lv_tableIn (tgt := 873) hx hb dL_step_49 (by decide) (by decide) rfl (by decide) ?_
    exact wL_step_j873 hF hT hr hsm hnp (by omega)  hw (lv_sub hl [0, 1, 3, 4] rfl) h
  refine zr_case h (fun c49_19 h => ?_) (fun c49_19 hz h => ?_)
  · rw [c49_19]
    refine lv_tableIn (tgt := 873) hx hb dL_step_49 (by decide) (by decide) rfl (by decide) ?_
    exact wL_step_j873 hF hT hr hsm hnp (by omega)  hw (lv_sub hl [0, 1, 3, 4] rfl) h
  refine zr_case h (fun c49_20 h => ?_) (fun c49_20 hz h => ?_)
  · rw [c49_20]
    refine lv_tableIn (tgt := 883) hx hb dL_step_49 (by decide) (by decide) rfl (by decide) ?_
    exact wL_step_j883 hF hT hr hsm hnp (by omega)  hw (lv_sub hl [0, 1, 2, 3] rfl) h
  refine zr_case h (fun c49_21 h => ?_) (fun c49_21 hz h => ?_)
  · rw [c49_21]
    refine lv_tableIn (tgt := 965) hx hb dL_step_49 (by decide) (by decide) rfl (by decide) ?_
    exact wL_step_j965 hF hT hr hsm hnp (by omega)  hw (lv_sub hl [0, 2, 3] rfl) h
  refine lv_tableOut (tgt := 1035) hx hb dL_step_49 (by rw [Int32.toInt_ofInt_of_le (by omega) (by omega)]; omega) (by decide) ?_
  exact wL_step_j1035 hF hT hr hsm hnp (by omega)  hw (lv_sub hl [0, 3, 4] rfl) h
set_option maxHeartbeats 4000000 in
set_option maxRecDepth 100000 in
theorem wL_step_j33 {p : Program} {l : Launch} {e : Env} {s : State} {m : MethodId} {args : Array Value} {below : List Frame} {meth : Method} {c : Code} {X : zC} {N0 : zN} {N : zN} {r : Int} {g' : zG} (hF : zF p s m args meth c X cL_step 17 RL) (hT : l.stackTraces = false) (hr : meth.sig.returnType = (some .boolean)) (hsm : zSame N0 N) (hnp : zNp N) {n : Nat} {cells slots : Nat} (hcs : cells + 310 ≤ 310 ∧ slots + 1860 ≤ 1860) {x2 : Int} {x3 : Int} {x4 : Int} {x5 : Int} {t0 : Int} {g : zG} {H : Heap} {locs : List Loc} {ls : Array Slot} (hw : zH X N g s H locs) (hl : lv_has ls 17 [(0, z_r N 0 0), (1, z_r N 17 0), (2, z_v x2), (3, z_v x3), (4, z_v x4), (5, z_v x5)]) (h : sL_step_j33 n x2 x3 x4 x5 t0 g = some (r, g')) : W p l e { frames := 10, cells := 310, slots := 1860, locals := 250 } s m args below meth c H locs cells slots (MQ below (zQn X N0 r g') args s 310 1860 (zA X)) (F0 m 33 ls [z_v t0]) := by
  have hx := hF.1.1
  have hb := hF.1.2.1
  unfold sL_step_j33 at h
  refine lv_istore (lv' := [(6, z_v t0), (0, z_r N 0 0), (1, z_r N 17 0), (2, z_v x2), (3, z_v x3), (4, z_v x4), (5, z_v x5)]) hx hb dL_step_33 hl (by decide) rfl (fun ls hl => ?_)
  refine lv_aload_n hx hb dL_step_35 rfl (lv_at hl 2 rfl) ?_
  refine lv_iconst hx hb dL_step_36 rfl ?_
  refine zr_iald hF hw zEf_17_0 (by decide) h dL_step_37 (fun h => ?_)
  refine zr_if_ne (tgt := 45) hF h dL_step_38 (by decide) (fun h => ?_) (fun h => ?_)
  · refine lv_iload_n hx hb dL_step_45 rfl (lv_at hl 3 rfl) ?_
    refine lv_bipush (v := Int32.ofInt (26)) hx hb dL_step_46 (by decide) ?_
    refine zr_irem hF h dL_step_48 (fun h => ?_)
    exact wL_step_j49 hF hT hr hsm hnp (by omega)  hw (lv_sub hl [1, 2, 4, 5, 6, 0] rfl) h
  · refine lv_iconst hx hb dL_step_41 rfl ?_
    refine lv_goto (tgt := 49) hx hb dL_step_42 (by decide) ?_
    exact wL_step_j49 hF hT hr hsm hnp (by omega)  hw (lv_sub hl [1, 2, 4, 5, 6, 0] rfl) h
set_option maxHeartbeats 4000000 in
set_option maxRecDepth 100000 in
theorem wL_step_j15 {p : Program} {l : Launch} {e : Env} {s : State} {m : MethodId} {args : Array Value} {below : List Frame} {meth : Method} {c : Code} {X : zC} {N0 : zN} {N : zN} {r : Int} {g' : zG} (hF : zF p s m args meth c X cL_step 17 RL) (hT : l.stackTraces = false) (hr : meth.sig.returnType = (some .boolean)) (hsm : zSame N0 N) (hnp : zNp N) {n : Nat} {cells slots : Nat} (hcs : cells + 310 ≤ 310 ∧ slots + 1860 ≤ 1860) {x2 : Int} {x3 : Int} {x4 : Int} {t0 : Int} {g : zG} {H : Heap} {locs : List Loc} {ls : Array Slot} (hw : zH X N g s H locs) (hl : lv_has ls 17 [(0, z_r N 0 0), (1, z_r N 17 0), (2, z_v x2), (3, z_v x3), (4, z_v x4)]) (h : sL_step_j15 n x2 x3 x4 t0 g = some (r, g')) : W p l e { frames := 10, cells := 310, slots := 1860, locals := 250 } s m args below meth c H locs cells slots (MQ below (zQn X N0 r g') args s 310 1860 (zA X)) (F0 m 15 ls [z_v t0]) := by
  have hx := hF.1.1
  have hb := hF.1.2.1
  unfold sL_step_j15 at h
  refine lv_istore (lv' := [(5, z_v t0), (0, z_r N 0 0), (1, z_r N 17 0), (2, z_v x2), (3, z_v x3), (4, z_v x4)]) hx hb dL_step_15 hl (by decide) rfl (fun ls hl => ?_)
  refine lv_aload_n hx hb dL_step_17 rfl (lv_at hl 2 rfl) ?_
  refine lv_iconst hx hb dL_step_18 rfl ?_
  refine zr_iald hF hw zEf_17_0 (by decide) h dL_step_19 (fun h => ?_)
  refine zr_if_ne (tgt := 27) hF h dL_step_20 (by decide) (fun h => ?_) (fun h => ?_)
  · refine lv_iload hx hb dL_step_27 (lv_at hl 5 rfl) ?_
    refine lv_aload_n hx hb dL_step_29 rfl (lv_at hl 2 rfl) ?_
    refine lv_iconst hx hb dL_step_30 rfl ?_
    refine zr_iald hF hw zEf_17_0 (by decide) h dL_step_31 (fun h => ?_)
    refine zr_irem hF h dL_step_32 (fun h => ?_)
    exact wL_step_j33 hF hT hr hsm hnp (by omega)  hw (lv_sub hl [1, 2, 3, 4, 5, 0] rfl) h
  · refine lv_iconst hx hb dL_step_23 rfl ?_
    refine lv_goto (tgt := 33) hx hb dL_step_24 (by decide) ?_
    exact wL_step_j33 hF hT hr hsm hnp (by omega)  hw (lv_sub hl [1, 2, 3, 4, 5, 0] rfl) h
set_option maxHeartbeats 4000000 in
set_option maxRecDepth 100000 in
theorem czL_step (l : Launch) (hT : l.stackTraces = false) (X : zC) (N : zN) {n : Nat} {x2 : Int} {x3 : Int} {x4 : Int} {g g' : zG} {r : Int} (hnp : zNp N) (h : sL_step n x2 x3 x4 g = some (r, g')) : zMC l yL_step cL_step 17 (some .boolean) { frames := 10, cells := 310, slots := 1860, locals := 250 } X N g [z_r N 0 0, z_r N 17 0, z_v x2, z_v x3, z_v x4] (zQn X N r g') := by
  refine z_cofW (own := RL) (by decide +kernel) rfl (Nat.le_of_ble_eq_true rfl) ?_
  intro p e s m args below meth c ls hF hr hw hl
  have hl : lv_has ls 17 [(0, z_r N 0 0), (1, z_r N 17 0), (2, z_v x2), (3, z_v x3), (4, z_v x4)] := hl
  have hx := hF.1.1
  have hb := hF.1.2.1
  obtain ⟨N0, hN0⟩ : ∃ N0 : zN, N0 = N := ⟨_, rfl⟩
  have hsm : zSame N0 N := by rw [hN0]; exact zSame.rf
  generalize s.heap = H at hw ⊢
  generalize ([] : List Loc) = locs at hw ⊢
  have key : ∀ cells slots : Nat, cells + 310 ≤ 310 → slots + 1860 ≤ 1860 → W p l e { frames := 10, cells := 310, slots := 1860, locals := 250 } s m args below meth c H locs cells slots (MQ below (zQn X N0 r g') args s 310 1860 (zA X)) (F0 m 0 ls []) := by
    intro cells slots hc1 hc2
    clear hN0
    unfold sL_step at h
    refine lv_aload_n hx hb dL_step_0 rfl (lv_at hl 1 rfl) ?_
    refine lv_iconst hx hb dL_step_1 rfl ?_
    refine zr_iald hF hw zEf_17_0 (by decide) h dL_step_2 (fun h => ?_)
    refine zr_if_ne (tgt := 10) hF h dL_step_3 (by decide) (fun h => ?_) (fun h => ?_)
    · refine lv_iload_n hx hb dL_step_10 rfl (lv_at hl 3 rfl) ?_
      refine lv_aload_n hx hb dL_step_11 rfl (lv_at hl 1 rfl) ?_
      refine lv_iconst hx hb dL_step_12 rfl ?_
      refine zr_iald hF hw zEf_17_0 (by decide) h dL_step_13 (fun h => ?_)
      refine zr_irem hF h dL_step_14 (fun h => ?_)
      exact wL_step_j15 hF hT hr hsm hnp (by omega)  hw (lv_sub hl [0, 1, 2, 3, 4] rfl) h
    · refine lv_iconst hx hb dL_step_6 rfl ?_
      refine lv_goto (tgt := 15) hx hb dL_step_7 (by decide) ?_
      exact wL_step_j15 hF hT hr hsm hnp (by omega)  hw (lv_sub hl [0, 1, 2, 3, 4] rfl) h
  rw [hN0] at key
  exact key 0 0 (by omega) (by omega)


/-! the law's small methods -/
def sL_swaps (x1 : Int) (x2 : Int) (g : zG) : Option (Int × zG) := zbk 3 (fun g => zbo 0 (some (0, g))) 2 (fun g => zbo 0 (some (0, g))) (sX4_swap x1 x2 g) (fun _ g => zbo 1 (some (1, g)))
def sL_acts (x1 : Int) (x2 : Int) (x3 : Int) (x4 : Int) (x5 : Int) (g : zG) : Option (Int × zG) := zeq x5 0 (zbk 3 (fun g => some ((-200), g)) 0 (fun g => none) (sX4_flight x1 x2 g) (fun r4 g => some (r4, g))) (zeq x5 1 (zbk 3 (fun g => some ((-200), g)) 0 (fun g => none) (sX4_entry x1 x2 x3 x4 g) (fun r3 g => some (r3, g))) (zeq x5 2 (zbk 3 (fun g => some ((-200), g)) 0 (fun g => none) (sX4_regulation x1 x2 x3 x4 g) (fun r2 g => some (r2, g))) (zbk 3 (fun g => some ((-200), g)) 0 (fun g => none) (sX4_rate x1 x2 g) (fun r1 g => some (r1, g)))))
def sL_ends (x1 : Int) (g : zG) : Option (Int × zG) := zbk 3 (fun g => zbo 0 (some (0, g))) 0 (fun g => none) (sX4_end x1 g) (fun _ g => zbo 1 (some (1, g)))
def sL_exempts (x1 : Int) (x2 : Int) (g : zG) : Option (Int × zG) := zbk 3 (fun g => some ((-200), g)) 0 (fun g => none) (sX4_exempt x1 x2 g) (fun r1 g => zeq r1 0 (some (0, g)) (some (1, g)))
set_option maxHeartbeats 4000000 in
set_option maxRecDepth 100000 in
theorem czL_swaps (l : Launch) (hT : l.stackTraces = false) (X : zC) (N : zN) {x1 : Int} {x2 : Int} {g g' : zG} {r : Int} (h : sL_swaps x1 x2 g = some (r, g')) : zMW l yL_swaps cL_swaps 4 (some .boolean) [(0, 7, 8, 16), (0, 7, 11, 18)] { frames := 8, cells := 4, slots := 24, locals := 138 } X N g [z_r N 0 0, z_v x1, z_v x2] (zQi X N r g') := by
  refine z_wofW (own := RL) (by decide +kernel) rfl (Nat.le_of_ble_eq_true rfl) ?_
  intro p e s m args below meth c ls hF hr htab hw hl
  have hl : lv_has ls 4 [(0, z_r N 0 0), (1, z_v x1), (2, z_v x2)] := hl
  have hx := hF.1.1
  have hb := hF.1.2.1
  generalize s.heap = H at hw ⊢
  generalize ([] : List Loc) = locs at hw ⊢
  have key : ∀ cells slots : Nat, cells + 4 ≤ 4 → slots + 24 ≤ 24 → W p l e { frames := 8, cells := 4, slots := 24, locals := 138 } s m args below meth c H locs cells slots (MQ below (zQi X N r g') args s 4 24 (zA X)) (F0 m 0 ls []) := by
    intro cells slots hc1 hc2
    unfold sL_swaps at h
    refine lv_aload_n hx hb dL_swaps_0 rfl (lv_at hl 0 rfl) ?_
    refine lv_iload_n hx hb dL_swaps_1 rfl (lv_at hl 1 rfl) ?_
    refine lv_iload_n hx hb dL_swaps_2 rfl (lv_at hl 2 rfl) ?_
    obtain ⟨o1, g1, h1, h⟩ := zbk_some h
    refine zw_callVv (n := 2) (As := [z_v x1, z_v x2]) (rest := []) hF hw (czX4_swap l hT X N h1) h zEf_0_0 (by decide) zC_0 (z_goodV qw_720 qw_721 qw_722 qw_15 qw_723) (by decide +kernel) ⟨Nat.le_of_ble_eq_true rfl, Nat.le_of_ble_eq_true rfl⟩ rfl hl.1 rfl (Nat.le_of_ble_eq_true rfl) dL_swaps_3 ⟨by show cells + 4 ≤ 4; omega, by show slots + 24 ≤ 24; omega⟩ (fun h H locs ce q9 hw hce hcv hcl => ?_) (fun H locs hw h => ?_)
    · have htab := htab
      rcases h with ⟨hj, h⟩ | ⟨hj, h⟩
      · rw [hj] at hcl
        skip
        refine vx_catch (E := zXn 3) (name := "java/lang/IllegalStateException") hF.1.2.2.2.1 [] ⟨0, 7, 8, 16⟩ [⟨0, 7, 11, 18⟩] (by rw [htab]; rfl) (fun z hz => nomatch hz) rfl (by decide) (hF.1.2.2.2.2 _ qw_435) (va_Nw.use rfl (hF.2.2.1.2.2.2.1 _ (List.mem_of_getElem? (i := 2) rfl))) hce hcv hcl ?_
        refine W.widen (k := cells + 4) (n := slots + 24) (by show cells + 4 ≤ cells + 4; omega) (by show slots + 24 ≤ slots + 24; omega) ?_
        refine lv_astore_n (lv' := [(3, .ref q9), (0, z_r N 0 0), (1, z_v x1), (2, z_v x2)]) hx hb dL_swaps_8 rfl hl (by decide) rfl (fun ls hl => ?_)
        refine lv_iconst hx hb dL_swaps_9 rfl ?_
        exact zp_zret hF hr hw h dL_swaps_10 ⟨by omega, by omega⟩
      · rw [hj] at hcl
        skip
        refine vx_catch (E := zXn 2) (name := "java/lang/IllegalArgumentException") hF.1.2.2.2.1 [⟨0, 7, 8, 16⟩] ⟨0, 7, 11, 18⟩ [] (by rw [htab]; rfl) (fun z hz => by
            rcases List.mem_cons.mp hz with rfl | hz
            · exact Or.inr ⟨by decide, "java/lang/IllegalStateException", hF.1.2.2.2.2 _ qw_435, hF.2.2.1.2.2.2.2.1 _ (List.mem_of_getElem? (i := 0) rfl)⟩
            · exact nomatch hz) rfl (by decide) (hF.1.2.2.2.2 _ qw_719) (va_Nw.use rfl (hF.2.2.1.2.2.2.1 _ (List.mem_of_getElem? (i := 1) rfl))) hce hcv hcl ?_
        refine W.widen (k := cells + 4) (n := slots + 24) (by show cells + 4 ≤ cells + 4; omega) (by show slots + 24 ≤ slots + 24; omega) ?_
        refine lv_astore_n (lv' := [(3, .ref q9), (0, z_r N 0 0), (1, z_v x1), (2, z_v x2)]) hx hb dL_swaps_11 rfl hl (by decide) rfl (fun ls hl => ?_)
        refine lv_iconst hx hb dL_swaps_12 rfl ?_
        exact zp_zret hF hr hw h dL_swaps_13 ⟨by omega, by omega⟩
    clear h1
    generalize g1 = g at *
    refine W.widen (k := cells + 4) (n := slots + 24) (by show cells + 4 ≤ cells + 4; omega) (by show slots + 24 ≤ slots + 24; omega) ?_
    refine lv_iconst hx hb dL_swaps_6 rfl ?_
    exact zp_zret hF hr hw h dL_swaps_7 ⟨by omega, by omega⟩
  exact key 0 0 (by omega) (by omega)

set_option maxHeartbeats 4000000 in
set_option maxRecDepth 100000 in
theorem czL_acts (l : Launch) (hT : l.stackTraces = false) (X : zC) (N : zN) {x1 : Int} {x2 : Int} {x3 : Int} {x4 : Int} {x5 : Int} {g g' : zG} {r : Int} (hnp : zNp N) (h : sL_acts x1 x2 x3 x4 x5 g = some (r, g')) : zMW l yL_acts cL_acts 7 (some .int) [(0, 56, 57, 16)] { frames := 9, cells := 6, slots := 80, locals := 224 } X N g [z_r N 0 0, z_v x1, z_v x2, z_v x3, z_v x4, z_v x5] (zQn X N r g') := by
  refine z_wofW (own := RL) (by decide +kernel) rfl (Nat.le_of_ble_eq_true rfl) ?_
  intro p e s m args below meth c ls hF hr htab hw hl
  have hl : lv_has ls 7 [(0, z_r N 0 0), (1, z_v x1), (2, z_v x2), (3, z_v x3), (4, z_v x4), (5, z_v x5)] := hl
  have hx := hF.1.1
  have hb := hF.1.2.1
  obtain ⟨N0, hN0⟩ : ∃ N0 : zN, N0 = N := ⟨_, rfl⟩
  have hsm : zSame N0 N := by rw [hN0]; exact zSame.rf
  generalize s.heap = H at hw ⊢
  generalize ([] : List Loc) = locs at hw ⊢
  have key : ∀ cells slots : Nat, cells + 6 ≤ 6 → slots + 80 ≤ 80 → W p l e { frames := 9, cells := 6, slots := 80, locals := 224 } s m args below meth c H locs cells slots (MQ below (zQn X N0 r g') args s 6 80 (zA X)) (F0 m 0 ls []) := by
    intro cells slots hc1 hc2
    clear hN0
    unfold sL_acts at h
    refine lv_iload hx hb dL_acts_0 (lv_at hl 5 rfl) ?_
    refine zr_if_ne (tgt := 14) hF h dL_acts_2 (by decide) (fun h => ?_) (fun h => ?_)
    · refine lv_iload hx hb dL_acts_14 (lv_at hl 5 rfl) ?_
      refine lv_iconst hx hb dL_acts_16 rfl ?_
      refine zr_icmp_ne (tgt := 32) hF h dL_acts_17 (by decide) (fun h => ?_) (fun h => ?_)
      · refine lv_iload hx hb dL_acts_32 (lv_at hl 5 rfl) ?_
        refine lv_iconst hx hb dL_acts_34 rfl ?_
        refine zr_icmp_ne (tgt := 50) hF h dL_acts_35 (by decide) (fun h => ?_) (fun h => ?_)
        · refine lv_aload_n hx hb dL_acts_50 rfl (lv_at hl 0 rfl) ?_
          refine lv_iload_n hx hb dL_acts_51 rfl (lv_at hl 1 rfl) ?_
          refine lv_iload_n hx hb dL_acts_52 rfl (lv_at hl 2 rfl) ?_
          obtain ⟨o1, g1, h1, h⟩ := zbk_some h
          refine zw_callVi (n := 2) (As := [z_v x1, z_v x2]) (rest := []) hF hw (czX4_rate l hT X N h1) h zEf_0_0 (by decide) zC_0 (z_goodV qw_618 qw_619 qw_620 qw_15 qw_621) (by decide +kernel) ⟨Nat.le_of_ble_eq_true rfl, Nat.le_of_ble_eq_true rfl⟩ rfl hl.1 rfl (Nat.le_of_ble_eq_true rfl) dL_acts_53 ⟨by show cells + 3 ≤ 6; omega, by show slots + 18 ≤ 80; omega⟩ (fun h H locs ce q9 hw hce hcv hcl => ?_) (fun H locs hw h => ?_)
          · have htab := htab
            rcases h with ⟨hj, h⟩ | ⟨hj, h⟩
            · rw [hj] at hcl
              skip
              refine vx_catch (E := zXn 3) (name := "java/lang/IllegalStateException") hF.1.2.2.2.1 [] ⟨0, 56, 57, 16⟩ [] (by rw [htab]; rfl) (fun z hz => nomatch hz) rfl (by decide) (hF.1.2.2.2.2 _ qw_435) (va_Nw.use rfl (hF.2.2.1.2.2.2.1 _ (List.mem_of_getElem? (i := 2) rfl))) hce hcv hcl ?_
              refine W.widen (k := cells + 3) (n := slots + 18) (by show cells + 3 ≤ cells + 3; omega) (by show slots + 18 ≤ slots + 18; omega) ?_
              refine lv_astore (lv' := [(6, .ref q9), (0, z_r N 0 0), (1, z_v x1), (2, z_v x2), (3, z_v x3), (4, z_v x4), (5, z_v x5)]) hx hb dL_acts_57 hl (by decide) rfl (fun ls hl => ?_)
              refine lv_sipush (v := Int32.ofInt (-200)) hx hb dL_acts_59 (by decide) ?_
              exact zw_iret hF hr hsm hw h dL_acts_62 ⟨by omega, by omega⟩
            · cases h
          clear h1
          generalize g1 = g at *
          generalize o1.2 = r1 at *
          refine W.widen (k := cells + 3) (n := slots + 18) (by show cells + 3 ≤ cells + 3; omega) (by show slots + 18 ≤ slots + 18; omega) ?_
          exact zw_iret hF hr hsm hw h dL_acts_56 ⟨by omega, by omega⟩
        · refine lv_aload_n hx hb dL_acts_38 rfl (lv_at hl 0 rfl) ?_
          refine lv_iload_n hx hb dL_acts_39 rfl (lv_at hl 1 rfl) ?_
          refine lv_iload_n hx hb dL_acts_40 rfl (lv_at hl 2 rfl) ?_
          refine lv_iload_n hx hb dL_acts_41 rfl (lv_at hl 3 rfl) ?_
          refine lv_iload hx hb dL_acts_42 (lv_at hl 4 rfl) ?_
          obtain ⟨o1, g1, h1, h⟩ := zbk_some h
          refine zw_callVn (n := 4) (As := [z_v x1, z_v x2, z_v x3, z_v x4]) (rest := []) hF hw (czX4_regulation l hT X N hnp h1) h zEf_0_0 (by decide) zC_0 (z_goodV qw_583 qw_584 qw_585 qw_15 qw_586) (by decide +kernel) ⟨Nat.le_of_ble_eq_true rfl, Nat.le_of_ble_eq_true rfl⟩ rfl hl.1 rfl (Nat.le_of_ble_eq_true rfl) dL_acts_44 ⟨by show cells + 6 ≤ 6; omega, by show slots + 80 ≤ 80; omega⟩ (fun h H locs ce q9 hw hce hcv hcl => ?_) (fun N H locs hsm1 hw h => ?_)
          · have htab := htab
            rcases h with ⟨hj, h⟩ | ⟨hj, h⟩
            · rw [hj] at hcl
              skip
              refine vx_catch (E := zXn 3) (name := "java/lang/IllegalStateException") hF.1.2.2.2.1 [] ⟨0, 56, 57, 16⟩ [] (by rw [htab]; rfl) (fun z hz => nomatch hz) rfl (by decide) (hF.1.2.2.2.2 _ qw_435) (va_Nw.use rfl (hF.2.2.1.2.2.2.1 _ (List.mem_of_getElem? (i := 2) rfl))) hce hcv hcl ?_
              refine W.widen (k := cells + 6) (n := slots + 80) (by show cells + 6 ≤ cells + 6; omega) (by show slots + 80 ≤ slots + 80; omega) ?_
              refine lv_astore (lv' := [(6, .ref q9), (0, z_r N 0 0), (1, z_v x1), (2, z_v x2), (3, z_v x3), (4, z_v x4), (5, z_v x5)]) hx hb dL_acts_57 hl (by decide) rfl (fun ls hl => ?_)
              refine lv_sipush (v := Int32.ofInt (-200)) hx hb dL_acts_59 (by decide) ?_
              exact zw_iret hF hr hsm hw h dL_acts_62 ⟨by omega, by omega⟩
            · cases h
          clear h1
          generalize g1 = g at *
          generalize o1.2 = r2 at *
          have hl : lv_has ls 7 [(0, z_r N 0 0), (1, z_v x1), (2, z_v x2), (3, z_v x3), (4, z_v x4), (5, z_v x5)] := by rw [z_e0 hsm1]; exact hl
          have hnp := hsm1.2 hnp
          have hsm := hsm.tr hsm1
          clear hsm1
          refine W.widen (k := cells + 6) (n := slots + 80) (by show cells + 6 ≤ cells + 6; omega) (by show slots + 80 ≤ slots + 80; omega) ?_
          refine lv_goto (tgt := 56) hx hb dL_acts_47 (by decide) ?_
          exact zw_iret hF hr hsm hw h dL_acts_56 ⟨by omega, by omega⟩
      · refine lv_aload_n hx hb dL_acts_20 rfl (lv_at hl 0 rfl) ?_
        refine lv_iload_n hx hb dL_acts_21 rfl (lv_at hl 1 rfl) ?_
        refine lv_iload_n hx hb dL_acts_22 rfl (lv_at hl 2 rfl) ?_
        refine lv_iload_n hx hb dL_acts_23 rfl (lv_at hl 3 rfl) ?_
        refine lv_iload hx hb dL_acts_24 (lv_at hl 4 rfl) ?_
        obtain ⟨o1, g1, h1, h⟩ := zbk_some h
        refine zw_callVi (n := 4) (As := [z_v x1, z_v x2, z_v x3, z_v x4]) (rest := []) hF hw (czX4_entry l hT X N h1) h zEf_0_0 (by decide) zC_0 (z_goodV qw_565 qw_566 qw_567 qw_15 qw_568) (by decide +kernel) ⟨Nat.le_of_ble_eq_true rfl, Nat.le_of_ble_eq_true rfl⟩ rfl hl.1 rfl (Nat.le_of_ble_eq_true rfl) dL_acts_26 ⟨by show cells + 5 ≤ 6; omega, by show slots + 30 ≤ 80; omega⟩ (fun h H locs ce q9 hw hce hcv hcl => ?_) (fun H locs hw h => ?_)
        · have htab := htab
          rcases h with ⟨hj, h⟩ | ⟨hj, h⟩
          · rw [hj] at hcl
            skip
            refine vx_catch (E := zXn 3) (name := "java/lang/IllegalStateException") hF.1.2.2.2.1 [] ⟨0, 56, 57, 16⟩ [] (by rw [htab]; rfl) (fun z hz => nomatch hz) rfl (by decide) (hF.1.2.2.2.2 _ qw_435) (va_Nw.use rfl (hF.2.2.1.2.2.2.1 _ (List.mem_of_getElem? (i := 2) rfl))) hce hcv hcl ?_
            refine W.widen (k := cells + 5) (n := slots + 30) (by show cells + 5 ≤ cells + 5; omega) (by show slots + 30 ≤ slots + 30; omega) ?_
            refine lv_astore (lv' := [(6, .ref q9), (0, z_r N 0 0), (1, z_v x1), (2, z_v x2), (3, z_v x3), (4, z_v x4), (5, z_v x5)]) hx hb dL_acts_57 hl (by decide) rfl (fun ls hl => ?_)
            refine lv_sipush (v := Int32.ofInt (-200)) hx hb dL_acts_59 (by decide) ?_
            exact zw_iret hF hr hsm hw h dL_acts_62 ⟨by omega, by omega⟩
          · cases h
        clear h1
        generalize g1 = g at *
        generalize o1.2 = r3 at *
        refine W.widen (k := cells + 5) (n := slots + 30) (by show cells + 5 ≤ cells + 5; omega) (by show slots + 30 ≤ slots + 30; omega) ?_
        refine lv_goto (tgt := 56) hx hb dL_acts_29 (by decide) ?_
        exact zw_iret hF hr hsm hw h dL_acts_56 ⟨by omega, by omega⟩
    · refine lv_aload_n hx hb dL_acts_5 rfl (lv_at hl 0 rfl) ?_
      refine lv_iload_n hx hb dL_acts_6 rfl (lv_at hl 1 rfl) ?_
      refine lv_iload_n hx hb dL_acts_7 rfl (lv_at hl 2 rfl) ?_
      obtain ⟨o1, g1, h1, h⟩ := zbk_some h
      refine zw_callVn (n := 2) (As := [z_v x1, z_v x2]) (rest := []) hF hw (czX4_flight l hT X N hnp h1) h zEf_0_0 (by decide) zC_0 (z_goodV qw_436 qw_437 qw_438 qw_15 qw_439) (by decide +kernel) ⟨Nat.le_of_ble_eq_true rfl, Nat.le_of_ble_eq_true rfl⟩ rfl hl.1 rfl (Nat.le_of_ble_eq_true rfl) dL_acts_8 ⟨by show cells + 6 ≤ 6; omega, by show slots + 80 ≤ 80; omega⟩ (fun h H locs ce q9 hw hce hcv hcl => ?_) (fun N H locs hsm1 hw h => ?_)
      · have htab := htab
        rcases h with ⟨hj, h⟩ | ⟨hj, h⟩
        · rw [hj] at hcl
          skip
          refine vx_catch (E := zXn 3) (name := "java/lang/IllegalStateException") hF.1.2.2.2.1 [] ⟨0, 56, 57, 16⟩ [] (by rw [htab]; rfl) (fun z hz => nomatch hz) rfl (by decide) (hF.1.2.2.2.2 _ qw_435) (va_Nw.use rfl (hF.2.2.1.2.2.2.1 _ (List.mem_of_getElem? (i := 2) rfl))) hce hcv hcl ?_
          refine W.widen (k := cells + 6) (n := slots + 80) (by show cells + 6 ≤ cells + 6; omega) (by show slots + 80 ≤ slots + 80; omega) ?_
          refine lv_astore (lv' := [(6, .ref q9), (0, z_r N 0 0), (1, z_v x1), (2, z_v x2), (3, z_v x3), (4, z_v x4), (5, z_v x5)]) hx hb dL_acts_57 hl (by decide) rfl (fun ls hl => ?_)
          refine lv_sipush (v := Int32.ofInt (-200)) hx hb dL_acts_59 (by decide) ?_
          exact zw_iret hF hr hsm hw h dL_acts_62 ⟨by omega, by omega⟩
        · cases h
      clear h1
      generalize g1 = g at *
      generalize o1.2 = r4 at *
      have hl : lv_has ls 7 [(0, z_r N 0 0), (1, z_v x1), (2, z_v x2), (3, z_v x3), (4, z_v x4), (5, z_v x5)] := by rw [z_e0 hsm1]; exact hl
      have hnp := hsm1.2 hnp
      have hsm := hsm.tr hsm1
      clear hsm1
      refine W.widen (k := cells + 6) (n := slots + 80) (by show cells + 6 ≤ cells + 6; omega) (by show slots + 80 ≤ slots + 80; omega) ?_
      refine lv_goto (tgt := 56) hx hb dL_acts_11 (by decide) ?_
      exact zw_iret hF hr hsm hw h dL_acts_56 ⟨by omega, by omega⟩
  rw [hN0] at key
  exact key 0 0 (by omega) (by omega)

set_option maxHeartbeats 4000000 in
set_option maxRecDepth 100000 in
theorem czL_ends (l : Launch) (hT : l.stackTraces = false) (X : zC) (N : zN) {x1 : Int} {g g' : zG} {r : Int} (h : sL_ends x1 g = some (r, g')) : zMW l yL_ends cL_ends 3 (some .boolean) [(0, 6, 7, 16)] { frames := 8, cells := 2, slots := 12, locals := 133 } X N g [z_r N 0 0, z_v x1] (zQi X N r g') := by
  refine z_wofW (own := RL) (by decide +kernel) rfl (Nat.le_of_ble_eq_true rfl) ?_
  intro p e s m args below meth c ls hF hr htab hw hl
  have hl : lv_has ls 3 [(0, z_r N 0 0), (1, z_v x1)] := hl
  have hx := hF.1.1
  have hb := hF.1.2.1
  generalize s.heap = H at hw ⊢
  generalize ([] : List Loc) = locs at hw ⊢
  have key : ∀ cells slots : Nat, cells + 2 ≤ 2 → slots + 12 ≤ 12 → W p l e { frames := 8, cells := 2, slots := 12, locals := 133 } s m args below meth c H locs cells slots (MQ below (zQi X N r g') args s 2 12 (zA X)) (F0 m 0 ls []) := by
    intro cells slots hc1 hc2
    unfold sL_ends at h
    refine lv_aload_n hx hb dL_ends_0 rfl (lv_at hl 0 rfl) ?_
    refine lv_iload_n hx hb dL_ends_1 rfl (lv_at hl 1 rfl) ?_
    obtain ⟨o1, g1, h1, h⟩ := zbk_some h
    refine zw_callVv (n := 1) (As := [z_v x1]) (rest := []) hF hw (czX4_end l hT X N h1) h zEf_0_0 (by decide) zC_0 (z_goodV qw_689 qw_690 qw_691 qw_15 qw_692) (by decide +kernel) ⟨Nat.le_of_ble_eq_true rfl, Nat.le_of_ble_eq_true rfl⟩ rfl hl.1 rfl (Nat.le_of_ble_eq_true rfl) dL_ends_2 ⟨by show cells + 2 ≤ 2; omega, by show slots + 12 ≤ 12; omega⟩ (fun h H locs ce q9 hw hce hcv hcl => ?_) (fun H locs hw h => ?_)
    · have htab := htab
      rcases h with ⟨hj, h⟩ | ⟨hj, h⟩
      · rw [hj] at hcl
        skip
        refine vx_catch (E := zXn 3) (name := "java/lang/IllegalStateException") hF.1.2.2.2.1 [] ⟨0, 6, 7, 16⟩ [] (by rw [htab]; rfl) (fun z hz => nomatch hz) rfl (by decide) (hF.1.2.2.2.2 _ qw_435) (va_Nw.use rfl (hF.2.2.1.2.2.2.1 _ (List.mem_of_getElem? (i := 2) rfl))) hce hcv hcl ?_
        refine W.widen (k := cells + 2) (n := slots + 12) (by show cells + 2 ≤ cells + 2; omega) (by show slots + 12 ≤ slots + 12; omega) ?_
        refine lv_astore_n (lv' := [(2, .ref q9), (0, z_r N 0 0), (1, z_v x1)]) hx hb dL_ends_7 rfl hl (by decide) rfl (fun ls hl => ?_)
        refine lv_iconst hx hb dL_ends_8 rfl ?_
        exact zp_zret hF hr hw h dL_ends_9 ⟨by omega, by omega⟩
      · cases h
    clear h1
    generalize g1 = g at *
    refine W.widen (k := cells + 2) (n := slots + 12) (by show cells + 2 ≤ cells + 2; omega) (by show slots + 12 ≤ slots + 12; omega) ?_
    refine lv_iconst hx hb dL_ends_5 rfl ?_
    exact zp_zret hF hr hw h dL_ends_6 ⟨by omega, by omega⟩
  exact key 0 0 (by omega) (by omega)

set_option maxHeartbeats 4000000 in
set_option maxRecDepth 100000 in
theorem czL_exempts (l : Launch) (hT : l.stackTraces = false) (X : zC) (N : zN) {x1 : Int} {x2 : Int} {g g' : zG} {r : Int} (h : sL_exempts x1 x2 g = some (r, g')) : zMW l yL_exempts cL_exempts 4 (some .int) [(0, 14, 15, 16)] { frames := 8, cells := 2, slots := 12, locals := 135 } X N g [z_r N 0 0, z_v x1, z_v x2] (zQi X N r g') := by
  refine z_wofW (own := RL) (by decide +kernel) rfl (Nat.le_of_ble_eq_true rfl) ?_
  intro p e s m args below meth c ls hF hr htab hw hl
  have hl : lv_has ls 4 [(0, z_r N 0 0), (1, z_v x1), (2, z_v x2)] := hl
  have hx := hF.1.1
  have hb := hF.1.2.1
  generalize s.heap = H at hw ⊢
  generalize ([] : List Loc) = locs at hw ⊢
  have key : ∀ cells slots : Nat, cells + 2 ≤ 2 → slots + 12 ≤ 12 → W p l e { frames := 8, cells := 2, slots := 12, locals := 135 } s m args below meth c H locs cells slots (MQ below (zQi X N r g') args s 2 12 (zA X)) (F0 m 0 ls []) := by
    intro cells slots hc1 hc2
    unfold sL_exempts at h
    refine lv_aload_n hx hb dL_exempts_0 rfl (lv_at hl 0 rfl) ?_
    refine lv_iload_n hx hb dL_exempts_1 rfl (lv_at hl 1 rfl) ?_
    refine lv_iload_n hx hb dL_exempts_2 rfl (lv_at hl 2 rfl) ?_
    obtain ⟨o1, g1, h1, h⟩ := zbk_some h
    refine zw_callVi (n := 2) (As := [z_v x1, z_v x2]) (rest := []) hF hw (czX4_exempt l hT X N h1) h zEf_0_0 (by decide) zC_0 (z_goodV qw_680 qw_681 qw_682 qw_15 qw_683) (by decide +kernel) ⟨Nat.le_of_ble_eq_true rfl, Nat.le_of_ble_eq_true rfl⟩ rfl hl.1 rfl (Nat.le_of_ble_eq_true rfl) dL_exempts_3 ⟨by show cells + 2 ≤ 2; omega, by show slots + 12 ≤ 12; omega⟩ (fun h H locs ce q9 hw hce hcv hcl => ?_) (fun H locs hw h => ?_)
    · have htab := htab
      rcases h with ⟨hj, h⟩ | ⟨hj, h⟩
      · rw [hj] at hcl
        skip
        refine vx_catch (E := zXn 3) (name := "java/lang/IllegalStateException") hF.1.2.2.2.1 [] ⟨0, 14, 15, 16⟩ [] (by rw [htab]; rfl) (fun z hz => nomatch hz) rfl (by decide) (hF.1.2.2.2.2 _ qw_435) (va_Nw.use rfl (hF.2.2.1.2.2.2.1 _ (List.mem_of_getElem? (i := 2) rfl))) hce hcv hcl ?_
        refine W.widen (k := cells + 2) (n := slots + 12) (by show cells + 2 ≤ cells + 2; omega) (by show slots + 12 ≤ slots + 12; omega) ?_
        refine lv_astore_n (lv' := [(3, .ref q9), (0, z_r N 0 0), (1, z_v x1), (2, z_v x2)]) hx hb dL_exempts_15 rfl hl (by decide) rfl (fun ls hl => ?_)
        refine lv_sipush (v := Int32.ofInt (-200)) hx hb dL_exempts_16 (by decide) ?_
        exact zp_iret hF hr hw h dL_exempts_19 ⟨by omega, by omega⟩
      · cases h
    clear h1
    generalize g1 = g at *
    generalize o1.2 = r1 at *
    refine W.widen (k := cells + 2) (n := slots + 12) (by show cells + 2 ≤ cells + 2; omega) (by show slots + 12 ≤ slots + 12; omega) ?_
    refine zr_if_eq (tgt := 13) hF h dL_exempts_6 (by decide) (fun h => ?_) (fun h => ?_)
    · refine lv_iconst hx hb dL_exempts_13 rfl ?_
      exact zp_iret hF hr hw h dL_exempts_14 ⟨by omega, by omega⟩
    · refine lv_iconst hx hb dL_exempts_9 rfl ?_
      refine lv_goto (tgt := 14) hx hb dL_exempts_10 (by decide) ?_
      exact zp_iret hF hr hw h dL_exempts_14 ⟨by omega, by omega⟩
  exact key 0 0 (by omega) (by omega)


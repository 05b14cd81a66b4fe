/-! the law's loop -/
def sLa (n : Nat) (g : zG) : Option (Int × zG) := zbd (sX4_allDue n g) (fun r1 g => zeq r1 0 (zbd (sX4_deal n 1 g) (fun r2 g => zeq r2 0 (zbn (sX4_peakAnew n 0 1 g) (fun r3 g => zeq r3 0 (zbn (sX4_load n 5 0 240 g) (fun r4 g => zeq r4 0 (zbn (sX4_companyIs n 3 2 g) (fun r5 g => zeq r5 0 (some (1, g)) (some (0, g)))) (some (0, g)))) (some (0, g)))) (some (0, g)))) (some (0, g)))
def sLb (n : Nat) (yw : Int) (ya : Int) (yb : Int) (g : zG) : Option (Int × zG) := zbd (sL_step n yw ya yb g) (fun r1 g => zeq r1 0 (some (0, g)) (zdv ya 7 (zix 0 3 (zdv ((ya).tdiv 7) (g 17 0 (0 : Int).toNat) (zbd (sL_isDay n (((ya).tdiv 7).tmod (g 17 0 (0 : Int).toNat)) g) (fun r2 g => zeq r2 0 (some (0, g)) (some (1, g))))))))
set_option maxHeartbeats 4000000 in
set_option maxRecDepth 100000 in
theorem wLa {p : Program} {l : Launch} {e : Env} {s : State} {m : MethodId} {args : Array Value} {below : List Frame} {meth : Method} {c : Code} {Q : State → Prop} {X : zC} {b L : Nat} {xs : Nat → Int32} {H : Heap} {locs : List Loc} {cells slots : Nat} {ls : Array Slot} {N0 N : zN} {g g' : zG} {r : Int} {n : Nat} (hF : zF p s m args meth c X cL_law 7 RL) (hT : l.stackTraces = false) (hsm : zSame N0 N) (hnp : zNp N) (hw : zH X N g s H locs) (hl : lv_has ls 7 [(0, .ref b), (1, z_r N 0 0), (2, z_r N 17 0)]) (hcs : cells + 7 ≤ 600104 ∧ slots + 42 ≤ 7301314) (h : sLa n g = some (r, g')) (kk : ∀ (N2 : zN) (cells2 slots2 : Nat) (H : Heap) (locs : List Loc) (ls : Array Slot), zSame N0 N2 → (cells2 ≤ cells + 7 ∧ slots2 ≤ slots + 42) → zH X N2 g' s H locs → lv_has ls 7 [(0, .ref b), (1, z_r N2 0 0), (2, z_r N2 17 0)] → W p l e zRL s m args below meth c H locs cells2 slots2 Q (F0 m 62 ls [z_v r])) : W p l e zRL s m args below meth c H locs cells slots Q (F0 m 12 ls []) := by
  have hx := hF.1.1
  have hb := hF.1.2.1
  unfold sLa at h
  refine lv_aload_n hx hb dL_law_12 rfl (lv_at hl 1 rfl) ?_
  obtain ⟨r1, g1, h1, h⟩ := zbd_some h
  refine zr_callVi (n := 0) (As := []) (rest := []) hF hw (czX4_allDue l X N h1) zEf_0_0 (by decide) zC_0 (z_goodV qw_280 qw_281 qw_282 qw_15 qw_283) (by decide +kernel) ⟨Nat.le_of_ble_eq_true rfl, Nat.le_of_ble_eq_true rfl⟩ ⟨rfl, rfl⟩ rfl hl.1 rfl (Nat.le_of_ble_eq_true rfl) dL_law_13 ⟨by show cells ≤ 600104; omega, by show slots ≤ 7301314; omega⟩ (fun H locs hw => ?_)
  clear h1
  generalize g1 = g at *
  refine zr_if_ne (tgt := 61) hF h dL_law_16 (by decide) (fun h => ?_) (fun h => ?_)
  · refine lv_iconst hx hb dL_law_61 rfl ?_
    cases h
    exact kk N _ _ H locs ls hsm (by omega) hw (lv_sub hl [0, 1, 2] rfl)
  · refine lv_aload_n hx hb dL_law_19 rfl (lv_at hl 1 rfl) ?_
    refine lv_iconst hx hb dL_law_20 rfl ?_
    obtain ⟨r2, g1, h1, h⟩ := zbd_some h
    refine zr_callVi (n := 1) (As := [z_v 1]) (rest := []) hF hw (czX4_deal l X N h1) zEf_0_0 (by decide) zC_0 (z_goodV qw_385 qw_386 qw_387 qw_15 qw_388) (by decide +kernel) ⟨Nat.le_of_ble_eq_true rfl, Nat.le_of_ble_eq_true rfl⟩ ⟨rfl, rfl⟩ rfl hl.1 rfl (Nat.le_of_ble_eq_true rfl) dL_law_21 ⟨by show cells ≤ 600104; omega, by show slots ≤ 7301314; omega⟩ (fun H locs hw => ?_)
    clear h1
    generalize g1 = g at *
    refine zr_if_ne (tgt := 61) hF h dL_law_24 (by decide) (fun h => ?_) (fun h => ?_)
    · refine lv_iconst hx hb dL_law_61 rfl ?_
      cases h
      exact kk N _ _ H locs ls hsm (by omega) hw (lv_sub hl [0, 1, 2] rfl)
    · refine lv_aload_n hx hb dL_law_27 rfl (lv_at hl 1 rfl) ?_
      refine lv_iconst hx hb dL_law_28 rfl ?_
      refine lv_iconst hx hb dL_law_29 rfl ?_
      obtain ⟨o1, g1, h1, h⟩ := zbn_some h
      refine zw_callVi (n := 2) (As := [z_v 0, z_v 1]) (rest := []) hF hw (czX4_peakAnew l hT X N h1) h zEf_0_0 (by decide) zC_0 (z_goodV qw_273 qw_274 qw_275 qw_15 qw_276) (by decide +kernel) ⟨Nat.le_of_ble_eq_true rfl, Nat.le_of_ble_eq_true rfl⟩ rfl hl.1 rfl (Nat.le_of_ble_eq_true rfl) dL_law_30 ⟨by show cells + 2 ≤ 600104; omega, by show slots + 12 ≤ 7301314; omega⟩ (fun h => h.elim) (fun H locs hw h => ?_)
      clear h1
      generalize g1 = g at *
      generalize o1.2 = r3 at *
      refine W.widen (k := cells + 2) (n := slots + 12) (by show cells + 2 ≤ cells + 2; omega) (by show slots + 12 ≤ slots + 12; omega) ?_
      refine zr_if_ne (tgt := 61) hF h dL_law_33 (by decide) (fun h => ?_) (fun h => ?_)
      · refine lv_iconst hx hb dL_law_61 rfl ?_
        cases h
        exact kk N _ _ H locs ls hsm (by omega) hw (lv_sub hl [0, 1, 2] rfl)
      · refine lv_aload_n hx hb dL_law_36 rfl (lv_at hl 1 rfl) ?_
        refine lv_iconst hx hb dL_law_37 rfl ?_
        refine lv_iconst hx hb dL_law_38 rfl ?_
        refine lv_sipush (v := Int32.ofInt (240)) hx hb dL_law_39 (by decide) ?_
        obtain ⟨o1, g1, h1, h⟩ := zbn_some h
        refine zw_callVi (n := 3) (As := [z_v 5, z_v 0, z_v 240]) (rest := []) hF hw (czX4_load l hT X N h1) h zEf_0_0 (by decide) zC_0 (z_goodV qw_136 qw_137 qw_138 qw_15 qw_139) (by decide +kernel) ⟨Nat.le_of_ble_eq_true rfl, Nat.le_of_ble_eq_true rfl⟩ rfl hl.1 rfl (Nat.le_of_ble_eq_true rfl) dL_law_42 ⟨by show cells + 2 + 3 ≤ 600104; omega, by show slots + 12 + 18 ≤ 7301314; omega⟩ (fun h => h.elim) (fun H locs hw h => ?_)
        clear h1
        generalize g1 = g at *
        generalize o1.2 = r4 at *
        refine W.widen (k := cells + 5) (n := slots + 30) (by show cells + 2 + 3 ≤ cells + 5; omega) (by show slots + 12 + 18 ≤ slots + 30; omega) ?_
        refine zr_if_ne (tgt := 61) hF h dL_law_45 (by decide) (fun h => ?_) (fun h => ?_)
        · refine lv_iconst hx hb dL_law_61 rfl ?_
          cases h
          exact kk N _ _ H locs ls hsm (by omega) hw (lv_sub hl [0, 1, 2] rfl)
        · refine lv_aload_n hx hb dL_law_48 rfl (lv_at hl 1 rfl) ?_
          refine lv_iconst hx hb dL_law_49 rfl ?_
          refine lv_iconst hx hb dL_law_50 rfl ?_
          obtain ⟨o1, g1, h1, h⟩ := zbn_some h
          refine zw_callVi (n := 2) (As := [z_v 3, z_v 2]) (rest := []) hF hw (czX4_companyIs l hT X N h1) h zEf_0_0 (by decide) zC_0 (z_goodV qw_402 qw_403 qw_404 qw_15 qw_405) (by decide +kernel) ⟨Nat.le_of_ble_eq_true rfl, Nat.le_of_ble_eq_true rfl⟩ rfl hl.1 rfl (Nat.le_of_ble_eq_true rfl) dL_law_51 ⟨by show cells + 5 + 2 ≤ 600104; omega, by show slots + 30 + 12 ≤ 7301314; omega⟩ (fun h => h.elim) (fun H locs hw h => ?_)
          clear h1
          generalize g1 = g at *
          generalize o1.2 = r5 at *
          refine W.widen (k := cells + 7) (n := slots + 42) (by show cells + 5 + 2 ≤ cells + 7; omega) (by show slots + 30 + 12 ≤ slots + 42; omega) ?_
          refine zr_if_ne (tgt := 61) hF h dL_law_54 (by decide) (fun h => ?_) (fun h => ?_)
          · refine lv_iconst hx hb dL_law_61 rfl ?_
            cases h
            exact kk N _ _ H locs ls hsm (by omega) hw (lv_sub hl [0, 1, 2] rfl)
          · refine lv_iconst hx hb dL_law_57 rfl ?_
            refine lv_goto (tgt := 62) hx hb dL_law_58 (by decide) ?_
            cases h
            exact kk N _ _ H locs ls hsm (by omega) hw (lv_sub hl [0, 1, 2] rfl)
set_option maxHeartbeats 4000000 in
set_option maxRecDepth 100000 in
theorem wLb {p : Program} {l : Launch} {e : Env} {s : State} {m : MethodId} {args : Array Value} {below : List Frame} {meth : Method} {c : Code} {Q : State → Prop} {X : zC} {b L : Nat} {xs : Nat → Int32} {H : Heap} {locs : List Loc} {cells slots : Nat} {ls : Array Slot} {N0 N : zN} {g g' : zG} {r : Int} {n : Nat} {y4 y5 : Int} {yw : Int} {ya : Int} {yb : Int} (hF : zF p s m args meth c X cL_law 7 RL) (hT : l.stackTraces = false) (hsm : zSame N0 N) (hnp : zNp N) (hw : zH X N g s H locs) (hl : lv_has ls 7 [(0, .ref b), (1, z_r N 0 0), (2, z_r N 17 0), (4, z_v y4), (5, z_v y5), (6, z_v ya)]) (hcs : cells + 790 ≤ 600104 ∧ slots + 4740 ≤ 7301314) (h : sLb n yw ya yb g = some (r, g')) (kk : ∀ (N2 : zN) (cells2 slots2 : Nat) (H : Heap) (locs : List Loc) (ls : Array Slot), zSame N0 N2 → (cells2 ≤ cells + 790 ∧ slots2 ≤ slots + 4740) → zH X N2 g' s H locs → lv_has ls 7 [(0, .ref b), (1, z_r N2 0 0), (2, z_r N2 17 0), (4, z_v y4), (5, z_v y5)] → W p l e zRL s m args below meth c H locs cells2 slots2 Q (F0 m 159 ls [z_v r])) : W p l e zRL s m args below meth c H locs cells slots Q (F0 m 131 ls [z_v yb, z_v ya, z_v yw, z_r N 17 0, z_r N 0 0]) := by
  have hx := hF.1.1
  have hb := hF.1.2.1
  unfold sLb at h
  obtain ⟨r1, g1, h1, h⟩ := zbd_some h
  refine zp_callCn (n := 5) (As := [z_r N 0 0, z_r N 17 0, z_v yw, z_v ya, z_v yb]) (rest := []) hF hw (czL_step l hT X N hnp h1) (z_goodS qw_429 qw_430 qw_14 qw_431) (by decide +kernel) ⟨Nat.le_of_ble_eq_true rfl, Nat.le_of_ble_eq_true rfl⟩ rfl hl.1 rfl (Nat.le_of_ble_eq_true rfl) dL_law_131 ⟨by show cells + 310 ≤ 600104; omega, by show slots + 1860 ≤ 7301314; omega⟩ (fun N H locs hsm1 hw => ?_)
  clear h1
  generalize g1 = g at *
  have hl : lv_has ls 7 [(0, .ref b), (1, z_r N 0 0), (2, z_r N 17 0), (4, z_v y4), (5, z_v y5), (6, z_v ya)] := by rw [z_e0 hsm1, z_e17 hsm1]; exact hl
  have hnp := hsm1.2 hnp
  have hsm := hsm.tr hsm1
  clear hsm1
  refine W.widen (k := cells + 310) (n := slots + 1860) (by show cells + 310 ≤ cells + 310; omega) (by show slots + 1860 ≤ slots + 1860; omega) ?_
  refine zr_if_eq (tgt := 158) hF h dL_law_134 (by decide) (fun h => ?_) (fun h => ?_)
  · refine lv_iconst hx hb dL_law_158 rfl ?_
    cases h
    exact kk N _ _ H locs ls hsm (by omega) hw (lv_sub hl [0, 1, 2, 3, 4] rfl)
  · refine lv_aload_n hx hb dL_law_137 rfl (lv_at hl 1 rfl) ?_
    refine lv_aload_n hx hb dL_law_138 rfl (lv_at hl 2 rfl) ?_
    refine lv_iload hx hb dL_law_139 (lv_at hl 5 rfl) ?_
    refine lv_bipush (v := Int32.ofInt (7)) hx hb dL_law_141 (by decide) ?_
    refine zr_idiv hF h dL_law_143 (fun h => ?_)
    refine lv_aload_n hx hb dL_law_144 rfl (lv_at hl 2 rfl) ?_
    refine lv_iconst hx hb dL_law_145 rfl ?_
    refine zr_iald hF hw zEf_17_0 (by decide) h dL_law_146 (fun h => ?_)
    refine zr_irem hF h dL_law_147 (fun h => ?_)
    obtain ⟨r2, g1, h1, h⟩ := zbd_some h
    refine zp_callC (n := 3) (As := [z_r N 0 0, z_r N 17 0, z_v (((ya).tdiv 7).tmod (g 17 0 (0 : Int).toNat))]) (rest := []) hF hw (czL_isDay l hT X N h1) (z_goodS qw_762 qw_763 qw_14 qw_764) (by decide +kernel) ⟨Nat.le_of_ble_eq_true rfl, Nat.le_of_ble_eq_true rfl⟩ rfl hl.1 rfl (Nat.le_of_ble_eq_true rfl) dL_law_148 ⟨by show cells + 310 + 480 ≤ 600104; omega, by show slots + 1860 + 2880 ≤ 7301314; omega⟩ (fun H locs hw => ?_)
    clear h1
    generalize g1 = g at *
    refine W.widen (k := cells + 790) (n := slots + 4740) (by show cells + 310 + 480 ≤ cells + 790; omega) (by show slots + 1860 + 2880 ≤ slots + 4740; omega) ?_
    refine zr_if_eq (tgt := 158) hF h dL_law_151 (by decide) (fun h => ?_) (fun h => ?_)
    · refine lv_iconst hx hb dL_law_158 rfl ?_
      cases h
      exact kk N _ _ H locs ls hsm (by omega) hw (lv_sub hl [0, 1, 2, 3, 4] rfl)
    · refine lv_iconst hx hb dL_law_154 rfl ?_
      refine lv_goto (tgt := 159) hx hb dL_law_155 (by decide) ?_
      cases h
      exact kk N _ _ H locs ls hsm (by omega) hw (lv_sub hl [0, 1, 2, 3, 4] rfl)
set_option maxHeartbeats 4000000 in
set_option maxRecDepth 100000 in
theorem wL_iter {p : Program} {l : Launch} {e : Env} {s : State} {m : MethodId} {args : Array Value} {below : List Frame} {meth : Method} {c : Code} {Q : State → Prop} {X : zC} {b L : Nat} {xs : Nat → Int32} {H : Heap} {locs : List Loc} {cells slots T k : Nat} {ls : Array Slot} {N : zN} {g g' : zG} {n : Nat} (hF : zF p s m args meth c X cL_law 7 RL) (hT : l.stackTraces = false) (hX : zX_ b L xs s X) (hk : k < T ∧ 3 * T ≤ L ∧ T ≤ 80) (hnp : zNp N) (hw : zH X N g s H locs) (hl : lv_has ls 7 [(0, .ref b), (1, z_r N 0 0), (2, z_r N 17 0), (3, z_v 1), (4, z_v (T : Int)), (5, z_v (k : Int))]) (hcs : cells + 790 ≤ 600104 ∧ slots + 4740 ≤ 7301314) (h : sLb n (zdr (zxs xs (3 * (k : Int)))) (zdr (zxs xs (3 * (k : Int) + 1))) (zdr (zxs xs (3 * (k : Int) + 2))) g = some (1, g')) (kk : ∀ (N2 : zN) (cells2 slots2 : Nat) (H : Heap) (locs : List Loc) (ls : Array Slot), zNp N2 → (cells2 ≤ cells + 790 ∧ slots2 ≤ slots + 4740) → zH X N2 g' s H locs → lv_has ls 7 [(0, .ref b), (1, z_r N2 0 0), (2, z_r N2 17 0), (3, z_v 1), (4, z_v (T : Int)), (5, z_v ((k + 1 : Nat) : Int))] → W p l e zRL s m args below meth c H locs cells2 slots2 Q (F0 m 86 ls [])) : W p l e zRL s m args below meth c H locs cells slots Q (F0 m 97 ls []) := by
  have hx := hF.1.1
  have hb := hF.1.2.1
  have hL : L ≤ 260 := hX.2.2.2
  refine lv_aload_n hx hb dL_law_97 rfl (lv_at hl 0 rfl) ?_
  refine lv_iconst hx hb dL_law_98 rfl ?_
  refine lv_iload hx hb dL_law_99 (lv_at hl 5 rfl) ?_
  refine zr_imul hF dL_law_101 ?_
  refine lv_iconst hx hb dL_law_102 rfl ?_
  refine zr_iadd hF dL_law_103 ?_
  refine zl_draw hF hw hX ⟨by omega, by omega⟩ hl.1 ⟨Nat.le_of_ble_eq_true rfl, Nat.le_of_ble_eq_true rfl⟩ (Nat.le_of_ble_eq_true rfl) dL_law_104 ⟨by show cells ≤ 600104; omega, by show slots ≤ 7301314; omega⟩ (fun H locs hw => ?_)
  generalize zdr (zxs xs (3 * (k : Int) + 1)) = ya at h ⊢
  refine lv_istore (lv' := [(6, z_v ya), (0, .ref b), (1, z_r N 0 0), (2, z_r N 17 0), (3, z_v 1), (4, z_v (T : Int)), (5, z_v (k : Int))]) hx hb dL_law_107 hl (by decide) rfl (fun ls hl => ?_)
  refine lv_aload_n hx hb dL_law_109 rfl (lv_at hl 2 rfl) ?_
  refine lv_aload_n hx hb dL_law_110 rfl (lv_at hl 3 rfl) ?_
  refine lv_aload_n hx hb dL_law_111 rfl (lv_at hl 1 rfl) ?_
  refine lv_iconst hx hb dL_law_112 rfl ?_
  refine lv_iload hx hb dL_law_113 (lv_at hl 6 rfl) ?_
  refine zr_imul hF dL_law_115 ?_
  refine zl_draw hF hw hX ⟨by omega, by omega⟩ hl.1 ⟨Nat.le_of_ble_eq_true rfl, Nat.le_of_ble_eq_true rfl⟩ (Nat.le_of_ble_eq_true rfl) dL_law_116 ⟨by show cells ≤ 600104; omega, by show slots ≤ 7301314; omega⟩ (fun H locs hw => ?_)
  generalize zdr (zxs xs (3 * (k : Int))) = yw at h ⊢
  refine lv_iload hx hb dL_law_119 (lv_at hl 0 rfl) ?_
  refine lv_aload_n hx hb dL_law_121 rfl (lv_at hl 1 rfl) ?_
  refine lv_iconst hx hb dL_law_122 rfl ?_
  refine lv_iload hx hb dL_law_123 (lv_at hl 6 rfl) ?_
  refine zr_imul hF dL_law_125 ?_
  refine lv_iconst hx hb dL_law_126 rfl ?_
  refine zr_iadd hF dL_law_127 ?_
  refine zl_draw hF hw hX ⟨by omega, by omega⟩ hl.1 ⟨Nat.le_of_ble_eq_true rfl, Nat.le_of_ble_eq_true rfl⟩ (Nat.le_of_ble_eq_true rfl) dL_law_128 ⟨by show cells ≤ 600104; omega, by show slots ≤ 7301314; omega⟩ (fun H locs hw => ?_)
  generalize zdr (zxs xs (3 * (k : Int) + 2)) = yb at h ⊢
  refine wLb (L := L) (xs := xs) (N0 := N) (y4 := (T : Int)) (y5 := (k : Int)) hF hT zSame.rf hnp hw (lv_sub hl [1, 2, 3, 5, 6, 0] rfl) hcs h (fun N2 cells2 slots2 H locs ls hsm hcl hw hl => ?_)
  refine lv_istore_n (lv' := [(3, z_v 1), (0, .ref b), (1, z_r N2 0 0), (2, z_r N2 17 0), (4, z_v (T : Int)), (5, z_v (k : Int))]) hx hb dL_law_159 rfl hl (by decide) rfl (fun ls hl => ?_)
  refine lv_iinc (v := Int32.ofInt ((k + 1 : Nat) : Int)) (lv' := [(5, z_v ((k + 1 : Nat) : Int)), (3, z_v 1), (0, .ref b), (1, z_r N2 0 0), (2, z_r N2 17 0), (4, z_v (T : Int))]) hx hb dL_law_160 hl (k := 5) rfl (by rw [← Int32.ofInt_add]; rfl) (by decide) rfl (fun ls hl => ?_)
  refine lv_goto (tgt := 86) hx hb dL_law_163 (by decide) ?_
  exact kk N2 cells2 slots2 H locs ls (hsm.2 hnp) hcl hw (lv_sub hl [2, 3, 4, 1, 5, 0] rfl)
set_option maxHeartbeats 4000000 in
set_option maxRecDepth 100000 in
theorem wL_loop {p : Program} {l : Launch} {e : Env} {s : State} {m : MethodId} {args : Array Value} {below : List Frame} {meth : Method} {c : Code} {Q : State → Prop} {X : zC} {b L : Nat} {xs : Nat → Int32} {REL : Nat → zG → Prop} (hstep : ∀ (k : Nat) (w a b : Int) (g : zG), k < 80 → (0 ≤ w ∧ w < 2147483648) → (0 ≤ a ∧ a < 2147483648) → (0 ≤ b ∧ b < 2147483648) → REL k g → ∃ (n : Nat) (g' : zG), sLb n w a b g = some (1, g') ∧ REL (k + 1) g') (hF : zF p s m args meth c X cL_law 7 RL) (hT : l.stackTraces = false) (hX : zX_ b L xs s X) {T : Nat} (hT3 : 3 * T ≤ L ∧ T ≤ 80) (kend : ∀ (cells slots : Nat) (H : Heap) (locs : List Loc) (ls : Array Slot) (N : zN) (g : zG), cells ≤ 600104 → slots ≤ 7301314 → zH X N g s H locs → W p l e zRL s m args below meth c H locs cells slots Q (F0 m 167 ls [z_v 1])) : ∀ (j k : Nat) (cells slots : Nat) (N : zN) (g : zG) (H : Heap) (locs : List Loc) (ls : Array Slot), T ≤ k + j → k ≤ T → cells + 790 * j ≤ 600104 → slots + 4740 * j ≤ 7301314 → zNp N → REL k g → zH X N g s H locs → lv_has ls 7 [(0, .ref b), (1, z_r N 0 0), (2, z_r N 17 0), (3, z_v 1), (4, z_v (T : Int)), (5, z_v (k : Int))] → W p l e zRL s m args below meth c H locs cells slots Q (F0 m 86 ls []) := by
  intro j
  have hx := hF.1.1
  have hb := hF.1.2.1
  have hz : ∀ x : Int, 0 ≤ zdr x ∧ zdr x < 2147483648 := fun x => by unfold zdr; omega
  have hout : ∀ (k cells slots : Nat) (N : zN) (g : zG) (H : Heap) (locs : List Loc) (ls : Array Slot), k = T → cells ≤ 600104 → slots ≤ 7301314 → zH X N g s H locs → lv_has ls 7 [(0, .ref b), (1, z_r N 0 0), (2, z_r N 17 0), (3, z_v 1), (4, z_v (T : Int)), (5, z_v (k : Int))] → W p l e zRL s m args below meth c H locs cells slots Q (F0 m 86 ls []) := by
    intro k cells slots N g H locs ls hk h3 h4 hw hl
    refine lv_iload hx hb dL_law_86 (lv_at hl 5 rfl) ?_
    refine lv_iload hx hb dL_law_88 (lv_at hl 4 rfl) ?_
    refine zr_icmp_ge (tgt := 166) (x := (k : Int)) (y := (T : Int)) (A := none) (B := some ()) (o := ()) hF (by unfold zlt; simp only [zIn]; rw [if_pos (by omega), if_neg (by omega)]) dL_law_90 (by decide) (fun _ => ?_) (fun h => nomatch h)
    refine lv_iload_n hx hb dL_law_166 rfl (lv_at hl 3 rfl) ?_
    exact kend _ _ _ _ _ _ _ h3 h4 hw
  induction j with
  | zero =>
    intro k cells slots N g H locs ls h1 h2 h3 h4 hnp hR hw hl
    exact hout k cells slots N g H locs ls (by omega) (by omega) (by omega) hw hl
  | succ j ih =>
    intro k cells slots N g H locs ls h1 h2 h3 h4 hnp hR hw hl
    by_cases hk : k = T
    · exact hout k cells slots N g H locs ls hk (by omega) (by omega) hw hl
    · obtain ⟨n, g', h, hR'⟩ := hstep k _ _ _ g (by omega) (hz (zxs xs (3 * (k : Int)))) (hz (zxs xs (3 * (k : Int) + 1))) (hz (zxs xs (3 * (k : Int) + 2))) hR
      refine lv_iload hx hb dL_law_86 (lv_at hl 5 rfl) ?_
      refine lv_iload hx hb dL_law_88 (lv_at hl 4 rfl) ?_
      refine zr_icmp_ge (tgt := 166) (x := (k : Int)) (y := (T : Int)) (A := some ()) (B := none) (o := ()) hF (by unfold zlt; simp only [zIn]; rw [if_pos (by omega), if_pos (by omega)]) dL_law_90 (by decide) (fun h => nomatch h) (fun _ => ?_)
      refine lv_iload_n hx hb dL_law_93 rfl (lv_at hl 3 rfl) ?_
      refine zr_if_eq (tgt := 166) (x := 1) (A := none) (B := some ()) (o := ()) hF rfl dL_law_94 (by decide) (fun h => nomatch h) (fun _ => ?_)
      exact wL_iter hF hT hX ⟨by omega, hT3.1, hT3.2⟩ hnp hw hl ⟨by omega, by omega⟩ h (fun N2 cells2 slots2 H locs ls hnp hcl hw hl => ih (k + 1) cells2 slots2 N2 g' H locs ls (by omega) (by omega) (by omega) (by omega) hnp hR' hw hl)

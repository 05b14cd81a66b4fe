/-! the cases of the law -/
theorem z_hl {ls : Array Slot} {N N' : zN} {b : Nat} {i : Int} (hs : zSame N N') (hl : lv_has ls 7 [(0, .ref b), (1, z_r N 0 0), (2, z_r N 6 0), (3, z_r N 17 0), (4, z_v i)]) : lv_has ls 7 [(0, .ref b), (1, z_r N' 0 0), (2, z_r N' 6 0), (3, z_r N' 17 0), (4, z_v i)] := by
  have e0 : z_r N 0 0 = z_r N' 0 0 := congrArg Value.ref (hs.1 0 0 (by decide) (by decide) (by decide) (by decide) (by decide)).symm
  have e6 : z_r N 6 0 = z_r N' 6 0 := congrArg Value.ref (hs.1 6 0 (by decide) (by decide) (by decide) (by decide) (by decide)).symm
  have e17 : z_r N 17 0 = z_r N' 17 0 := congrArg Value.ref (hs.1 17 0 (by decide) (by decide) (by decide) (by decide) (by decide)).symm
  rw [← e0, ← e6, ← e17]
  exact hl
theorem z_hcs {cells slots cells1 slots1 : Nat} (h : cells + 6 ≤ 601024 ∧ slots + 80 ≤ 7293034) (h1 : cells1 ≤ cells + 6 ∧ slots1 ≤ slots + 80) : cells1 ≤ zRL.cells ∧ slots1 ≤ zRL.slots := ⟨Nat.le_trans h1.1 h.1, Nat.le_trans h1.2 h.2⟩
section ZLW
variable {p : Program} {l : Launch} {e : Env} {s : State} {m : MethodId} {args : Array Value} {below : List Frame} {meth : Method} {c : Code} {H : Heap} {locs : List Loc} {cells slots : Nat} {Q : State → Prop}
variable {cc : ByteArray} {pc nL : Nat} {ls : Array Slot} {rest : List Value} {own : String} {X : zC} {N : zN} {g : zG}
theorem zl_callW (hF : zF p s m args meth c X cc nL own) (hw : zH X N g s H locs) {y : MethodName} {b : ByteArray} {mL n idx : Nat} {rt : Option FieldType} {hh : List (Nat × Nat × Nat × Nat)} {rm : Room} {As : List Value} {r : Int} {g' : zG} (hM : zMW l y b mL rt hh rm X N g As (zQn X N r g'))
    (hG : GoodIn lw_G (va_wsS own idx y (zws2 y b mL rt hh))) (hd : y.cls ≠ "java/lang/invoke/MethodHandle" ∧ y.cls ≠ "java/lang/invoke/VarHandle" ∧ (parseMethodDescriptor y.desc).map (fun d => d.parameters.length) = some n) (hR : rm.frames + 1 ≤ zRL.frames ∧ 8 + (mL + 11) + rm.locals ≤ zRL.locals) (hn : As.length = n) (hl : ls.size = nL) {st0 : List Value} (hst : st0 = As.reverse ++ rest) (hrest : (rest.map fun v => v.category).sum ≤ 8) (hdg : decode cc pc = .ok (.invokestatic idx, 3)) (hcs0 : cells + 6 ≤ 601024 ∧ slots + 80 ≤ 7293034) (hrm : rm.cells ≤ 6 ∧ rm.slots ≤ 80)
    (kk : ∀ (N' : zN) (cells1 slots1 : Nat) (H : Heap) (locs : List Loc), zSame N N' → (cells1 ≤ cells + 6 ∧ slots1 ≤ slots + 80) → zH X N' g' s H locs → W p l e zRL s m args below meth c H locs cells1 slots1 Q (F0 m (pc + 3) ls (z_v r :: rest))) : W p l e zRL s m args below meth c H locs cells slots Q (F0 m pc ls st0) :=
  zl_call hF hw hM hG hd hR hn hl hst hrest hdg (z_hcs hcs0 ⟨Nat.add_le_add_left hrm.1 cells, Nat.add_le_add_left hrm.2 slots⟩) (fun N' H locs h1 h2 => kk N' _ _ H locs h1 ⟨Nat.add_le_add_left hrm.1 cells, Nat.add_le_add_left hrm.2 slots⟩ h2)
end ZLW
def sLc0 (n : Nat) (a1 a2 a3 a4 : Int) (g : zG) : Option zG := zbd (sL_flight a1 a2 g) (fun r1 g => zbd (sX5_flight n a1 a2 g) (fun r2 g => zbd (sX5_thrown g) (fun r3 g => zeq r3 r1 (zeq r1 0 (zix 0 1 (zri r2 (zri (g 17 0 (0 : Int).toNat) (zri r2 (zeq (zcm (g 17 0 (0 : Int).toNat) r2) 0 (some g) (none)))))) (some g)) (none))))
def sLc1 (n : Nat) (a1 a2 a3 a4 : Int) (g : zG) : Option zG := zbd (sL_entry a1 a2 a3 a4 g) (fun r1 g => zbd (sX5_entry a1 a2 a3 a4 g) (fun r2 g => zbd (sX5_thrown g) (fun r3 g => zeq r3 r1 (zeq r1 0 (zix 0 1 (zri r2 (zri (g 17 0 (0 : Int).toNat) (zri r2 (zeq (zcm (g 17 0 (0 : Int).toNat) r2) 0 (some g) (none)))))) (some g)) (none))))
def sLc2 (n : Nat) (a1 a2 a3 a4 : Int) (g : zG) : Option zG := zeq a2 0 (zbd (sL_exempt a1 0 g) (fun r1 g => zeq a2 0 (zbd (sX5_exempt a1 0 g) (fun r2 g => zbd (sX5_thrown g) (fun r3 g => zeq r3 r1 (zeq r1 0 (zix 0 1 (zeq r2 0 (zri (g 17 0 (0 : Int).toNat) (zri 0 (zeq (zcm (g 17 0 (0 : Int).toNat) 0) 0 (some g) (none)))) (zri (g 17 0 (0 : Int).toNat) (zri 1 (zeq (zcm (g 17 0 (0 : Int).toNat) 1) 0 (some g) (none)))))) (some g)) (none)))) (zbd (sX5_exempt a1 1 g) (fun r4 g => zbd (sX5_thrown g) (fun r5 g => zeq r5 r1 (zeq r1 0 (zix 0 1 (zeq r4 0 (zri (g 17 0 (0 : Int).toNat) (zri 0 (zeq (zcm (g 17 0 (0 : Int).toNat) 0) 0 (some g) (none)))) (zri (g 17 0 (0 : Int).toNat) (zri 1 (zeq (zcm (g 17 0 (0 : Int).toNat) 1) 0 (some g) (none)))))) (some g)) (none)))))) (zbd (sL_exempt a1 1 g) (fun r6 g => zeq a2 0 (zbd (sX5_exempt a1 0 g) (fun r7 g => zbd (sX5_thrown g) (fun r8 g => zeq r8 r6 (zeq r6 0 (zix 0 1 (zeq r7 0 (zri (g 17 0 (0 : Int).toNat) (zri 0 (zeq (zcm (g 17 0 (0 : Int).toNat) 0) 0 (some g) (none)))) (zri (g 17 0 (0 : Int).toNat) (zri 1 (zeq (zcm (g 17 0 (0 : Int).toNat) 1) 0 (some g) (none)))))) (some g)) (none)))) (zbd (sX5_exempt a1 1 g) (fun r9 g => zbd (sX5_thrown g) (fun r10 g => zeq r10 r6 (zeq r6 0 (zix 0 1 (zeq r9 0 (zri (g 17 0 (0 : Int).toNat) (zri 0 (zeq (zcm (g 17 0 (0 : Int).toNat) 0) 0 (some g) (none)))) (zri (g 17 0 (0 : Int).toNat) (zri 1 (zeq (zcm (g 17 0 (0 : Int).toNat) 1) 0 (some g) (none)))))) (some g)) (none))))))
def sLc3 (n : Nat) (a1 a2 a3 a4 : Int) (g : zG) : Option zG := zbd (sL_flightIs a1 a2 g) (fun r1 g => zbd (sX5_flightIs a1 a2 g) (fun r2 g => zbd (sX5_thrown g) (fun r3 g => zeq r3 r1 (zeq r1 0 (zix 0 1 (zri r2 (zri (g 17 0 (0 : Int).toNat) (zri r2 (zeq (zcm (g 17 0 (0 : Int).toNat) r2) 0 (some g) (none)))))) (some g)) (none))))
def sLc4 (n : Nat) (a1 a2 a3 a4 : Int) (g : zG) : Option zG := zbd (sL_over a1 a2 g) (fun r1 g => zbd (sX5_over a1 a2 g) (fun r2 g => zbd (sX5_thrown g) (fun r3 g => zeq r3 r1 (zeq r1 0 (zix 0 1 (zri r2 (zri (g 17 0 (0 : Int).toNat) (zri r2 (zeq (zcm (g 17 0 (0 : Int).toNat) r2) 0 (some g) (none)))))) (some g)) (none))))
def sLc5 (n : Nat) (a1 a2 a3 a4 : Int) (g : zG) : Option zG := zbd (sL_load n a1 a2 a3 g) (fun r1 g => zbd (sX5_load n a1 a2 a3 g) (fun r2 g => zbd (sX5_thrown g) (fun r3 g => zeq r3 r1 (zeq r1 0 (zix 0 1 (zri r2 (zri (g 17 0 (0 : Int).toNat) (zri r2 (zeq (zcm (g 17 0 (0 : Int).toNat) r2) 0 (some g) (none)))))) (some g)) (none))))
def sLc6 (n : Nat) (a1 a2 a3 a4 : Int) (g : zG) : Option zG := zbd (sL_inside n a1 a2 g) (fun r1 g => zbd (sX5_inside n a1 a2 g) (fun r2 g => zbd (sX5_thrown g) (fun r3 g => zeq r3 r1 (zeq r1 0 (zix 0 1 (zri r2 (zri (g 17 0 (0 : Int).toNat) (zri r2 (zeq (zcm (g 17 0 (0 : Int).toNat) r2) 0 (some g) (none)))))) (some g)) (none))))
def sLc7 (n : Nat) (a1 a2 a3 a4 : Int) (g : zG) : Option zG := zbd (sL_peak n a1 a2 g) (fun r1 g => zbd (sX5_peak n a1 a2 g) (fun r2 g => zbd (sX5_thrown g) (fun r3 g => zeq r3 r1 (zeq r1 0 (zix 0 1 (zri r2 (zri (g 17 0 (0 : Int).toNat) (zri r2 (zeq (zcm (g 17 0 (0 : Int).toNat) r2) 0 (some g) (none)))))) (some g)) (none))))
def sLc8 (n : Nat) (a1 a2 a3 a4 : Int) (g : zG) : Option zG := zbd (sL_peakAnew n a1 a2 g) (fun r1 g => zbd (sX5_peakAnew n a1 a2 g) (fun r2 g => zbd (sX5_thrown g) (fun r3 g => zeq r3 r1 (zeq r1 0 (zix 0 1 (zri r2 (zri (g 17 0 (0 : Int).toNat) (zri r2 (zeq (zcm (g 17 0 (0 : Int).toNat) r2) 0 (some g) (none)))))) (some g)) (none))))
def sLc9 (n : Nat) (a1 a2 a3 a4 : Int) (g : zG) : Option zG := zbd (sL_regulation a1 a2 a3 a4 g) (fun r1 g => zbd (sX5_regulation a1 a2 a3 a4 g) (fun r2 g => zbd (sX5_thrown g) (fun r3 g => zeq r3 r1 (zeq r1 0 (zix 0 1 (zri r2 (zri (g 17 0 (0 : Int).toNat) (zri r2 (zeq (zcm (g 17 0 (0 : Int).toNat) r2) 0 (some g) (none)))))) (some g)) (none))))
def sLc10 (n : Nat) (a1 a2 a3 a4 : Int) (g : zG) : Option zG := zbd (sL_rate a1 a2 g) (fun r1 g => zbd (sX5_rate a1 a2 g) (fun r2 g => zbd (sX5_thrown g) (fun r3 g => zeq r3 r1 (zeq r1 0 (zix 0 1 (zri r2 (zri (g 17 0 (0 : Int).toNat) (zri r2 (zeq (zcm (g 17 0 (0 : Int).toNat) r2) 0 (some g) (none)))))) (some g)) (none))))
def sLc11 (n : Nat) (a1 a2 a3 a4 : Int) (g : zG) : Option zG := zbd (sL_end a1 g) (fun r1 g => zbd (sX5_end a1 g) (fun _ g => zbd (sX5_thrown g) (fun r3 g => zeq r3 r1 (some g) (none))))
def sLc12 (n : Nat) (a1 a2 a3 a4 : Int) (g : zG) : Option zG := zbd (sL_regulationIs n a1 a2 g) (fun r1 g => zbd (sX5_regulationIs n a1 a2 g) (fun r2 g => zbd (sX5_thrown g) (fun r3 g => zeq r3 r1 (zeq r1 0 (zix 0 1 (zri r2 (zri (g 17 0 (0 : Int).toNat) (zri r2 (zeq (zcm (g 17 0 (0 : Int).toNat) r2) 0 (some g) (none)))))) (some g)) (none))))
def sLc13 (n : Nat) (a1 a2 a3 a4 : Int) (g : zG) : Option zG := zbd (sL_slot a1 a2 g) (fun r1 g => zbd (sX5_slot n a1 a2 g) (fun r2 g => zbd (sX5_thrown g) (fun r3 g => zeq r3 r1 (zeq r1 0 (zix 0 1 (zri r2 (zri (g 17 0 (0 : Int).toNat) (zri r2 (zeq (zcm (g 17 0 (0 : Int).toNat) r2) 0 (some g) (none)))))) (some g)) (none))))
def sLc14 (n : Nat) (a1 a2 a3 a4 : Int) (g : zG) : Option zG := zbd (sL_penalty n a1 a2 g) (fun r1 g => zbd (sX5_penalty n a1 a2 g) (fun r2 g => zbd (sX5_thrown g) (fun r3 g => zeq r3 r1 (zeq r1 0 (zix 0 1 (zri r2 (zri (g 17 0 (0 : Int).toNat) (zri r2 (zeq (zcm (g 17 0 (0 : Int).toNat) r2) 0 (some g) (none)))))) (some g)) (none))))
def sLc15 (n : Nat) (a1 a2 a3 a4 : Int) (g : zG) : Option zG := zbd (sL_due n a1 g) (fun r1 g => zbd (sX5_due n a1 g) (fun r2 g => zbd (sX5_thrown g) (fun r3 g => zeq r3 r1 (zeq r1 0 (zix 0 1 (zri r2 (zri (g 17 0 (0 : Int).toNat) (zri r2 (zeq (zcm (g 17 0 (0 : Int).toNat) r2) 0 (some g) (none)))))) (some g)) (none))))
def sLc16 (n : Nat) (a1 a2 a3 a4 : Int) (g : zG) : Option zG := zbd (sL_dueAnew n a1 g) (fun r1 g => zbd (sX5_dueAnew n a1 g) (fun r2 g => zbd (sX5_thrown g) (fun r3 g => zeq r3 r1 (zeq r1 0 (zix 0 1 (zri r2 (zri (g 17 0 (0 : Int).toNat) (zri r2 (zeq (zcm (g 17 0 (0 : Int).toNat) r2) 0 (some g) (none)))))) (some g)) (none))))
def sLc17 (n : Nat) (a1 a2 a3 a4 : Int) (g : zG) : Option zG := zbd (sX4_allDue n g) (fun r1 g => zbd (sX5_allDue n g) (fun r2 g => zeq r1 r2 (some g) (none)))
def sLc18 (n : Nat) (a1 a2 a3 a4 : Int) (g : zG) : Option zG := zbd (sL_would n a1 a2 a3 a4 g) (fun r1 g => zbd (sX5_would n a1 a2 a3 a4 g) (fun r2 g => zbd (sX5_thrown g) (fun r3 g => zeq r3 r1 (zeq r1 0 (zix 0 1 (zri r2 (zri (g 17 0 (0 : Int).toNat) (zri r2 (zeq (zcm (g 17 0 (0 : Int).toNat) r2) 0 (some g) (none)))))) (some g)) (none))))
def sLc19 (n : Nat) (a1 a2 a3 a4 : Int) (g : zG) : Option zG := zeq a1 0 (zbd (sX4_deal n 0 g) (fun r1 g => zeq a1 0 (zbd (sX5_deal n 0 g) (fun r2 g => zeq r1 r2 (some g) (none))) (zbd (sX5_deal n 1 g) (fun r3 g => zeq r1 r3 (some g) (none))))) (zbd (sX4_deal n 1 g) (fun r4 g => zeq a1 0 (zbd (sX5_deal n 0 g) (fun r5 g => zeq r4 r5 (some g) (none))) (zbd (sX5_deal n 1 g) (fun r6 g => zeq r4 r6 (some g) (none)))))
def sLc20 (n : Nat) (a1 a2 a3 a4 : Int) (g : zG) : Option zG := zbd (sL_swap a1 a2 g) (fun r1 g => zbd (sX5_swap a1 a2 g) (fun _ g => zbd (sX5_thrown g) (fun r3 g => zeq r3 r1 (some g) (none))))
def sLc21 (n : Nat) (a1 a2 a3 a4 : Int) (g : zG) : Option zG := zbd (sL_message a1 a2 a3 a4 g) (fun r1 g => zbd (sX5_message a1 a2 a3 a4 g) (fun r2 g => zbd (sX5_thrown g) (fun r3 g => zeq r3 r1 (zeq r1 0 (zix 0 1 (zeq r2 0 (zri (g 17 0 (0 : Int).toNat) (zri 0 (zeq (zcm (g 17 0 (0 : Int).toNat) 0) 0 (some g) (none)))) (zri (g 17 0 (0 : Int).toNat) (zri 1 (zeq (zcm (g 17 0 (0 : Int).toNat) 1) 0 (some g) (none)))))) (some g)) (none))))
def sLc22 (n : Nat) (a1 a2 a3 a4 : Int) (g : zG) : Option zG := zbd (sL_companyIs n a1 a2 g) (fun r1 g => zbd (sX5_companyIs n a1 a2 g) (fun r2 g => zbd (sX5_thrown g) (fun r3 g => zeq r3 r1 (zeq r1 0 (zix 0 1 (zri r2 (zri (g 17 0 (0 : Int).toNat) (zri r2 (zeq (zcm (g 17 0 (0 : Int).toNat) r2) 0 (some g) (none)))))) (some g)) (none))))
set_option maxHeartbeats 4000000 in
set_option maxRecDepth 100000 in
theorem wLc0 {p : Program} {l : Launch} {e : Env} {s : State} {m : MethodId} {args : Array Value} {below : List Frame} {meth : Method} {c : Code} {H : Heap} {locs : List Loc} {cells slots : Nat} {Q : State → Prop} {ls : Array Slot} {X : zC} {N : zN} {g g' : zG} {b L n : Nat} {xs : Nat → Int32} {i a1 a2 a3 a4 : Int} (hF : zF p s m args meth c X cL_law 7 RL) (hT : l.stackTraces = false) (hX : zX_ b L xs s X) (hi : 0 ≤ i ∧ i + 4 < L) (ha1 : zxs xs (i + 1) = a1) (ha2 : zxs xs (i + 2) = a2) (ha3 : zxs xs (i + 3) = a3) (ha4 : zxs xs (i + 4) = a4) (hnp : zNp N) (hw : zH X N g s H locs) (hl : lv_has ls 7 [(0, .ref b), (1, z_r N 0 0), (2, z_r N 6 0), (3, z_r N 17 0), (4, z_v i)]) (hcs0 : cells + 6 ≤ 601024 ∧ slots + 80 ≤ 7293034) (h : sLc0 n a1 a2 a3 a4 g = some g') (kk : ∀ (N2 : zN) (cells2 slots2 : Nat) (H : Heap) (locs : List Loc) (ls : Array Slot), zSame N N2 → (cells2 ≤ cells + 6 ∧ slots2 ≤ slots + 80) → zH X N2 g' s H locs → lv_has ls 7 [(0, .ref b), (1, z_r N2 0 0), (2, z_r N2 6 0), (3, z_r N2 17 0), (4, z_v i)] → W p l e zRL s m args below meth c H locs cells2 slots2 Q (F0 m 1688 ls [])) : W p l e zRL s m args below meth c H locs cells slots Q (F0 m 144 ls []) := by
  have hx := hF.1.1
  have hb := hF.1.2.1
  unfold sLc0 at h
  refine lv_aload_n hx hb dL_law_144 rfl (lv_at hl 1 rfl) ?_
  refine lv_aload_n hx hb dL_law_145 rfl (lv_at hl 0 rfl) ?_
  refine lv_iload hx hb dL_law_146 (lv_at hl 4 rfl) ?_
  refine lv_iconst hx hb dL_law_148 rfl ?_
  refine zr_iadd hF dL_law_149 ?_
  refine zl_sld hF hw hX ⟨by omega, by omega⟩ dL_law_150 ?_
  rw [ha1]
  refine lv_aload_n hx hb dL_law_151 rfl (lv_at hl 0 rfl) ?_
  refine lv_iload hx hb dL_law_152 (lv_at hl 4 rfl) ?_
  refine lv_iconst hx hb dL_law_154 rfl ?_
  refine zr_iadd hF dL_law_155 ?_
  refine zl_sld hF hw hX ⟨by omega, by omega⟩ dL_law_156 ?_
  rw [ha2]
  refine lv_aload_n hx hb dL_law_157 rfl (lv_at hl 3 rfl) ?_
  obtain ⟨r1, g1, h1, h⟩ := zbd_some h
  refine zl_callW (n := 4) (As := [z_r N 0 0, z_v a1, z_v a2, z_r N 17 0]) (rest := []) hF hw (czL_flight l hT X N hnp h1) (z_goodSW qw_305 qw_306 qw_35 qw_307) (by decide +kernel) ⟨Nat.le_of_ble_eq_true rfl, Nat.le_of_ble_eq_true rfl⟩ rfl hl.1 rfl (Nat.le_of_ble_eq_true rfl) dL_law_158 hcs0 ⟨Nat.le_of_ble_eq_true rfl, Nat.le_of_ble_eq_true rfl⟩ (fun N cells1 slots1 H locs hsm hcl hw => ?_)
  have hl := z_hl hsm hl
  have hcs : cells1 ≤ zRL.cells ∧ slots1 ≤ zRL.slots := z_hcs hcs0 hcl
  clear h1
  generalize g1 = g at *
  refine lv_istore (lv' := [(5, z_v r1), (0, .ref b), (1, z_r N 0 0), (2, z_r N 6 0), (3, z_r N 17 0), (4, z_v i)]) hx hb dL_law_161 hl (by decide) rfl (fun ls hl => ?_)
  refine lv_aload_n hx hb dL_law_163 rfl (lv_at hl 3 rfl) ?_
  refine lv_aload_n hx hb dL_law_164 rfl (lv_at hl 1 rfl) ?_
  refine lv_iload hx hb dL_law_165 (lv_at hl 5 rfl) ?_
  refine lv_iconst hx hb dL_law_167 rfl ?_
  refine zr_iadd hF dL_law_168 ?_
  refine zl_sld hF hw hX ⟨by omega, by omega⟩ dL_law_169 ?_
  rw [ha1]
  refine lv_aload_n hx hb dL_law_170 rfl (lv_at hl 1 rfl) ?_
  refine lv_iload hx hb dL_law_171 (lv_at hl 5 rfl) ?_
  refine lv_iconst hx hb dL_law_173 rfl ?_
  refine zr_iadd hF dL_law_174 ?_
  refine zl_sld hF hw hX ⟨by omega, by omega⟩ dL_law_175 ?_
  rw [ha2]
  obtain ⟨r2, g1, h1, h⟩ := zbd_some h
  refine zr_callVi (n := 2) (As := [z_v a1, z_v a2]) (rest := []) hF hw (czX5_flight l X N h1) zEf_6_0 (by decide) zC_6 (z_goodV qw_918 qw_919 qw_920 qw_42 qw_921) (by decide +kernel) ⟨Nat.le_of_ble_eq_true rfl, Nat.le_of_ble_eq_true rfl⟩ ⟨rfl, rfl⟩ rfl hl.1 rfl (Nat.le_of_ble_eq_true rfl) dL_law_176 hcs (fun H locs hw => ?_)
  clear h1
  generalize g1 = g at *
  refine lv_istore (lv' := [(6, z_v r2), (5, z_v r1), (0, .ref b), (1, z_r N 0 0), (2, z_r N 6 0), (3, z_r N 17 0), (4, z_v i)]) hx hb dL_law_179 hl (by decide) rfl (fun ls hl => ?_)
  refine lv_aload_n hx hb dL_law_181 rfl (lv_at hl 4 rfl) ?_
  obtain ⟨r3, g1, h1, h⟩ := zbd_some h
  refine zr_callVi (n := 0) (As := []) (rest := []) hF hw (czX5_thrown l X N h1) zEf_6_0 (by decide) zC_6 (z_goodV qw_914 qw_915 qw_916 qw_42 qw_917) (by decide +kernel) ⟨Nat.le_of_ble_eq_true rfl, Nat.le_of_ble_eq_true rfl⟩ ⟨rfl, rfl⟩ rfl hl.1 rfl (Nat.le_of_ble_eq_true rfl) dL_law_182 hcs (fun H locs hw => ?_)
  clear h1
  generalize g1 = g at *
  refine lv_iload hx hb dL_law_185 (lv_at hl 1 rfl) ?_
  refine zr_icmp_eq (tgt := 192) hF h dL_law_187 (by decide) (fun h => ?_) (fun h => ?_)
  · refine lv_iload hx hb dL_law_192 (lv_at hl 1 rfl) ?_
    refine zr_if_ne (tgt := 209) hF h dL_law_194 (by decide) (fun h => ?_) (fun h => ?_)
    · refine lv_goto (tgt := 1688) hx hb dL_law_209 (by decide) ?_
      cases h
      exact kk N cells1 slots1 H locs ls hsm hcl hw (lv_sub hl [2, 3, 4, 5, 6] rfl)
    · refine lv_aload_n hx hb dL_law_197 rfl (lv_at hl 5 rfl) ?_
      refine lv_iconst hx hb dL_law_198 rfl ?_
      refine zr_lald hF hw zEf_17_0 h dL_law_199 (fun h => ?_)
      refine lv_iload hx hb dL_law_200 (lv_at hl 0 rfl) ?_
      refine zr_i2l hF h dL_law_202 (fun h => ?_)
      refine zr_lcmp hF h dL_law_203 (fun h => ?_)
      refine zr_if_eq (tgt := 209) hF h dL_law_204 (by decide) (fun h => ?_) (fun h => ?_)
      · refine lv_goto (tgt := 1688) hx hb dL_law_209 (by decide) ?_
        cases h
        exact kk N cells1 slots1 H locs ls hsm hcl hw (lv_sub hl [2, 3, 4, 5, 6] rfl)
      · refine lv_iconst hx hb dL_law_207 rfl ?_
        exact nomatch h
  · refine lv_iconst hx hb dL_law_190 rfl ?_
    exact nomatch h
set_option maxHeartbeats 4000000 in
set_option maxRecDepth 100000 in
theorem wLc1 {p : Program} {l : Launch} {e : Env} {s : State} {m : MethodId} {args : Array Value} {below : List Frame} {meth : Method} {c : Code} {H : Heap} {locs : List Loc} {cells slots : Nat} {Q : State → Prop} {ls : Array Slot} {X : zC} {N : zN} {g g' : zG} {b L n : Nat} {xs : Nat → Int32} {i a1 a2 a3 a4 : Int} (hF : zF p s m args meth c X cL_law 7 RL) (hT : l.stackTraces = false) (hX : zX_ b L xs s X) (hi : 0 ≤ i ∧ i + 4 < L) (ha1 : zxs xs (i + 1) = a1) (ha2 : zxs xs (i + 2) = a2) (ha3 : zxs xs (i + 3) = a3) (ha4 : zxs xs (i + 4) = a4) (hnp : zNp N) (hw : zH X N g s H locs) (hl : lv_has ls 7 [(0, .ref b), (1, z_r N 0 0), (2, z_r N 6 0), (3, z_r N 17 0), (4, z_v i)]) (hcs0 : cells + 6 ≤ 601024 ∧ slots + 80 ≤ 7293034) (h : sLc1 n a1 a2 a3 a4 g = some g') (kk : ∀ (N2 : zN) (cells2 slots2 : Nat) (H : Heap) (locs : List Loc) (ls : Array Slot), zSame N N2 → (cells2 ≤ cells + 6 ∧ slots2 ≤ slots + 80) → zH X N2 g' s H locs → lv_has ls 7 [(0, .ref b), (1, z_r N2 0 0), (2, z_r N2 6 0), (3, z_r N2 17 0), (4, z_v i)] → W p l e zRL s m args below meth c H locs cells2 slots2 Q (F0 m 1688 ls [])) : W p l e zRL s m args below meth c H locs cells slots Q (F0 m 212 ls []) := by
  have hx := hF.1.1
  have hb := hF.1.2.1
  unfold sLc1 at h
  refine lv_aload_n hx hb dL_law_212 rfl (lv_at hl 1 rfl) ?_
  refine lv_aload_n hx hb dL_law_213 rfl (lv_at hl 0 rfl) ?_
  refine lv_iload hx hb dL_law_214 (lv_at hl 4 rfl) ?_
  refine lv_iconst hx hb dL_law_216 rfl ?_
  refine zr_iadd hF dL_law_217 ?_
  refine zl_sld hF hw hX ⟨by omega, by omega⟩ dL_law_218 ?_
  rw [ha1]
  refine lv_aload_n hx hb dL_law_219 rfl (lv_at hl 0 rfl) ?_
  refine lv_iload hx hb dL_law_220 (lv_at hl 4 rfl) ?_
  refine lv_iconst hx hb dL_law_222 rfl ?_
  refine zr_iadd hF dL_law_223 ?_
  refine zl_sld hF hw hX ⟨by omega, by omega⟩ dL_law_224 ?_
  rw [ha2]
  refine lv_aload_n hx hb dL_law_225 rfl (lv_at hl 0 rfl) ?_
  refine lv_iload hx hb dL_law_226 (lv_at hl 4 rfl) ?_
  refine lv_iconst hx hb dL_law_228 rfl ?_
  refine zr_iadd hF dL_law_229 ?_
  refine zl_sld hF hw hX ⟨by omega, by omega⟩ dL_law_230 ?_
  rw [ha3]
  refine lv_aload_n hx hb dL_law_231 rfl (lv_at hl 0 rfl) ?_
  refine lv_iload hx hb dL_law_232 (lv_at hl 4 rfl) ?_
  refine lv_iconst hx hb dL_law_234 rfl ?_
  refine zr_iadd hF dL_law_235 ?_
  refine zl_sld hF hw hX ⟨by omega, by omega⟩ dL_law_236 ?_
  rw [ha4]
  refine lv_aload_n hx hb dL_law_237 rfl (lv_at hl 3 rfl) ?_
  obtain ⟨r1, g1, h1, h⟩ := zbd_some h
  refine zl_callW (n := 6) (As := [z_r N 0 0, z_v a1, z_v a2, z_v a3, z_v a4, z_r N 17 0]) (rest := []) hF hw (czL_entry l hT X N h1) (z_goodSW qw_531 qw_532 qw_35 qw_533) (by decide +kernel) ⟨Nat.le_of_ble_eq_true rfl, Nat.le_of_ble_eq_true rfl⟩ rfl hl.1 rfl (Nat.le_of_ble_eq_true rfl) dL_law_238 hcs0 ⟨Nat.le_of_ble_eq_true rfl, Nat.le_of_ble_eq_true rfl⟩ (fun N cells1 slots1 H locs hsm hcl hw => ?_)
  have hl := z_hl hsm hl
  have hcs : cells1 ≤ zRL.cells ∧ slots1 ≤ zRL.slots := z_hcs hcs0 hcl
  clear h1
  generalize g1 = g at *
  refine lv_istore (lv' := [(5, z_v r1), (0, .ref b), (1, z_r N 0 0), (2, z_r N 6 0), (3, z_r N 17 0), (4, z_v i)]) hx hb dL_law_241 hl (by decide) rfl (fun ls hl => ?_)
  refine lv_aload_n hx hb dL_law_243 rfl (lv_at hl 3 rfl) ?_
  refine lv_aload_n hx hb dL_law_244 rfl (lv_at hl 1 rfl) ?_
  refine lv_iload hx hb dL_law_245 (lv_at hl 5 rfl) ?_
  refine lv_iconst hx hb dL_law_247 rfl ?_
  refine zr_iadd hF dL_law_248 ?_
  refine zl_sld hF hw hX ⟨by omega, by omega⟩ dL_law_249 ?_
  rw [ha1]
  refine lv_aload_n hx hb dL_law_250 rfl (lv_at hl 1 rfl) ?_
  refine lv_iload hx hb dL_law_251 (lv_at hl 5 rfl) ?_
  refine lv_iconst hx hb dL_law_253 rfl ?_
  refine zr_iadd hF dL_law_254 ?_
  refine zl_sld hF hw hX ⟨by omega, by omega⟩ dL_law_255 ?_
  rw [ha2]
  refine lv_aload_n hx hb dL_law_256 rfl (lv_at hl 1 rfl) ?_
  refine lv_iload hx hb dL_law_257 (lv_at hl 5 rfl) ?_
  refine lv_iconst hx hb dL_law_259 rfl ?_
  refine zr_iadd hF dL_law_260 ?_
  refine zl_sld hF hw hX ⟨by omega, by omega⟩ dL_law_261 ?_
  rw [ha3]
  refine lv_aload_n hx hb dL_law_262 rfl (lv_at hl 1 rfl) ?_
  refine lv_iload hx hb dL_law_263 (lv_at hl 5 rfl) ?_
  refine lv_iconst hx hb dL_law_265 rfl ?_
  refine zr_iadd hF dL_law_266 ?_
  refine zl_sld hF hw hX ⟨by omega, by omega⟩ dL_law_267 ?_
  rw [ha4]
  obtain ⟨r2, g1, h1, h⟩ := zbd_some h
  refine zr_callVi (n := 4) (As := [z_v a1, z_v a2, z_v a3, z_v a4]) (rest := []) hF hw (czX5_entry l X N h1) zEf_6_0 (by decide) zC_6 (z_goodV qw_929 qw_930 qw_931 qw_42 qw_932) (by decide +kernel) ⟨Nat.le_of_ble_eq_true rfl, Nat.le_of_ble_eq_true rfl⟩ ⟨rfl, rfl⟩ rfl hl.1 rfl (Nat.le_of_ble_eq_true rfl) dL_law_268 hcs (fun H locs hw => ?_)
  clear h1
  generalize g1 = g at *
  refine lv_istore (lv' := [(6, z_v r2), (5, z_v r1), (0, .ref b), (1, z_r N 0 0), (2, z_r N 6 0), (3, z_r N 17 0), (4, z_v i)]) hx hb dL_law_271 hl (by decide) rfl (fun ls hl => ?_)
  refine lv_aload_n hx hb dL_law_273 rfl (lv_at hl 4 rfl) ?_
  obtain ⟨r3, g1, h1, h⟩ := zbd_some h
  refine zr_callVi (n := 0) (As := []) (rest := []) hF hw (czX5_thrown l X N h1) zEf_6_0 (by decide) zC_6 (z_goodV qw_914 qw_915 qw_916 qw_42 qw_917) (by decide +kernel) ⟨Nat.le_of_ble_eq_true rfl, Nat.le_of_ble_eq_true rfl⟩ ⟨rfl, rfl⟩ rfl hl.1 rfl (Nat.le_of_ble_eq_true rfl) dL_law_274 hcs (fun H locs hw => ?_)
  clear h1
  generalize g1 = g at *
  refine lv_iload hx hb dL_law_277 (lv_at hl 1 rfl) ?_
  refine zr_icmp_eq (tgt := 284) hF h dL_law_279 (by decide) (fun h => ?_) (fun h => ?_)
  · refine lv_iload hx hb dL_law_284 (lv_at hl 1 rfl) ?_
    refine zr_if_ne (tgt := 301) hF h dL_law_286 (by decide) (fun h => ?_) (fun h => ?_)
    · refine lv_goto (tgt := 1688) hx hb dL_law_301 (by decide) ?_
      cases h
      exact kk N cells1 slots1 H locs ls hsm hcl hw (lv_sub hl [2, 3, 4, 5, 6] rfl)
    · refine lv_aload_n hx hb dL_law_289 rfl (lv_at hl 5 rfl) ?_
      refine lv_iconst hx hb dL_law_290 rfl ?_
      refine zr_lald hF hw zEf_17_0 h dL_law_291 (fun h => ?_)
      refine lv_iload hx hb dL_law_292 (lv_at hl 0 rfl) ?_
      refine zr_i2l hF h dL_law_294 (fun h => ?_)
      refine zr_lcmp hF h dL_law_295 (fun h => ?_)
      refine zr_if_eq (tgt := 301) hF h dL_law_296 (by decide) (fun h => ?_) (fun h => ?_)
      · refine lv_goto (tgt := 1688) hx hb dL_law_301 (by decide) ?_
        cases h
        exact kk N cells1 slots1 H locs ls hsm hcl hw (lv_sub hl [2, 3, 4, 5, 6] rfl)
      · refine lv_iconst hx hb dL_law_299 rfl ?_
        exact nomatch h
  · refine lv_iconst hx hb dL_law_282 rfl ?_
    exact nomatch h
set_option maxHeartbeats 4000000 in
set_option maxRecDepth 100000 in
theorem wLc2 {p : Program} {l : Launch} {e : Env} {s : State} {m : MethodId} {args : Array Value} {below : List Frame} {meth : Method} {c : Code} {H : Heap} {locs : List Loc} {cells slots : Nat} {Q : State → Prop} {ls : Array Slot} {X : zC} {N : zN} {g g' : zG} {b L n : Nat} {xs : Nat → Int32} {i a1 a2 a3 a4 : Int} (hF : zF p s m args meth c X cL_law 7 RL) (hT : l.stackTraces = false) (hX : zX_ b L xs s X) (hi : 0 ≤ i ∧ i + 4 < L) (ha1 : zxs xs (i + 1) = a1) (ha2 : zxs xs (i + 2) = a2) (ha3 : zxs xs (i + 3) = a3) (ha4 : zxs xs (i + 4) = a4) (hnp : zNp N) (hw : zH X N g s H locs) (hl : lv_has ls 7 [(0, .ref b), (1, z_r N 0 0), (2, z_r N 6 0), (3, z_r N 17 0), (4, z_v i)]) (hcs0 : cells + 6 ≤ 601024 ∧ slots + 80 ≤ 7293034) (h : sLc2 n a1 a2 a3 a4 g = some g') (kk : ∀ (N2 : zN) (cells2 slots2 : Nat) (H : Heap) (locs : List Loc) (ls : Array Slot), zSame N N2 → (cells2 ≤ cells + 6 ∧ slots2 ≤ slots + 80) → zH X N2 g' s H locs → lv_has ls 7 [(0, .ref b), (1, z_r N2 0 0), (2, z_r N2 6 0), (3, z_r N2 17 0), (4, z_v i)] → W p l e zRL s m args below meth c H locs cells2 slots2 Q (F0 m 1688 ls [])) : W p l e zRL s m args below meth c H locs cells slots Q (F0 m 304 ls []) := by
  have hx := hF.1.1
  have hb := hF.1.2.1
  unfold sLc2 at h
  refine lv_aload_n hx hb dL_law_304 rfl (lv_at hl 1 rfl) ?_
  refine lv_aload_n hx hb dL_law_305 rfl (lv_at hl 0 rfl) ?_
  refine lv_iload hx hb dL_law_306 (lv_at hl 4 rfl) ?_
  refine lv_iconst hx hb dL_law_308 rfl ?_
  refine zr_iadd hF dL_law_309 ?_
  refine zl_sld hF hw hX ⟨by omega, by omega⟩ dL_law_310 ?_
  rw [ha1]
  refine lv_aload_n hx hb dL_law_311 rfl (lv_at hl 0 rfl) ?_
  refine lv_iload hx hb dL_law_312 (lv_at hl 4 rfl) ?_
  refine lv_iconst hx hb dL_law_314 rfl ?_
  refine zr_iadd hF dL_law_315 ?_
  refine zl_sld hF hw hX ⟨by omega, by omega⟩ dL_law_316 ?_
  rw [ha2]
  refine zr_if_eq (tgt := 324) hF h dL_law_317 (by decide) (fun h => ?_) (fun h => ?_)
  · refine lv_iconst hx hb dL_law_324 rfl ?_
    refine lv_aload_n hx hb dL_law_325 rfl (lv_at hl 3 rfl) ?_
    obtain ⟨r1, g1, h1, h⟩ := zbd_some h
    refine zl_callW (n := 4) (As := [z_r N 0 0, z_v a1, z_v 0, z_r N 17 0]) (rest := []) hF hw (czL_exempt l hT X N h1) (z_goodSW qw_560 qw_561 qw_35 qw_562) (by decide +kernel) ⟨Nat.le_of_ble_eq_true rfl, Nat.le_of_ble_eq_true rfl⟩ rfl hl.1 rfl (Nat.le_of_ble_eq_true rfl) dL_law_326 hcs0 ⟨Nat.le_of_ble_eq_true rfl, Nat.le_of_ble_eq_true rfl⟩ (fun N cells1 slots1 H locs hsm hcl hw => ?_)
    have hl := z_hl hsm hl
    have hcs : cells1 ≤ zRL.cells ∧ slots1 ≤ zRL.slots := z_hcs hcs0 hcl
    clear h1
    generalize g1 = g at *
    refine lv_istore (lv' := [(5, z_v r1), (0, .ref b), (1, z_r N 0 0), (2, z_r N 6 0), (3, z_r N 17 0), (4, z_v i)]) hx hb dL_law_329 hl (by decide) rfl (fun ls hl => ?_)
    refine lv_aload_n hx hb dL_law_331 rfl (lv_at hl 3 rfl) ?_
    refine lv_aload_n hx hb dL_law_332 rfl (lv_at hl 1 rfl) ?_
    refine lv_iload hx hb dL_law_333 (lv_at hl 5 rfl) ?_
    refine lv_iconst hx hb dL_law_335 rfl ?_
    refine zr_iadd hF dL_law_336 ?_
    refine zl_sld hF hw hX ⟨by omega, by omega⟩ dL_law_337 ?_
    rw [ha1]
    refine lv_aload_n hx hb dL_law_338 rfl (lv_at hl 1 rfl) ?_
    refine lv_iload hx hb dL_law_339 (lv_at hl 5 rfl) ?_
    refine lv_iconst hx hb dL_law_341 rfl ?_
    refine zr_iadd hF dL_law_342 ?_
    refine zl_sld hF hw hX ⟨by omega, by omega⟩ dL_law_343 ?_
    rw [ha2]
    refine zr_if_eq (tgt := 351) hF h dL_law_344 (by decide) (fun h => ?_) (fun h => ?_)
    · refine lv_iconst hx hb dL_law_351 rfl ?_
      obtain ⟨r2, g1, h1, h⟩ := zbd_some h
      refine zr_callVi (n := 2) (As := [z_v a1, z_v 0]) (rest := []) hF hw (czX5_exempt l X N h1) zEf_6_0 (by decide) zC_6 (z_goodV qw_940 qw_941 qw_942 qw_42 qw_943) (by decide +kernel) ⟨Nat.le_of_ble_eq_true rfl, Nat.le_of_ble_eq_true rfl⟩ ⟨rfl, rfl⟩ rfl hl.1 rfl (Nat.le_of_ble_eq_true rfl) dL_law_352 hcs (fun H locs hw => ?_)
      clear h1
      generalize g1 = g at *
      refine lv_istore (lv' := [(6, z_v r2), (5, z_v r1), (0, .ref b), (1, z_r N 0 0), (2, z_r N 6 0), (3, z_r N 17 0), (4, z_v i)]) hx hb dL_law_355 hl (by decide) rfl (fun ls hl => ?_)
      refine lv_aload_n hx hb dL_law_357 rfl (lv_at hl 4 rfl) ?_
      obtain ⟨r3, g1, h1, h⟩ := zbd_some h
      refine zr_callVi (n := 0) (As := []) (rest := []) hF hw (czX5_thrown l X N h1) zEf_6_0 (by decide) zC_6 (z_goodV qw_914 qw_915 qw_916 qw_42 qw_917) (by decide +kernel) ⟨Nat.le_of_ble_eq_true rfl, Nat.le_of_ble_eq_true rfl⟩ ⟨rfl, rfl⟩ rfl hl.1 rfl (Nat.le_of_ble_eq_true rfl) dL_law_358 hcs (fun H locs hw => ?_)
      clear h1
      generalize g1 = g at *
      refine lv_iload hx hb dL_law_361 (lv_at hl 1 rfl) ?_
      refine zr_icmp_eq (tgt := 368) hF h dL_law_363 (by decide) (fun h => ?_) (fun h => ?_)
      · refine lv_iload hx hb dL_law_368 (lv_at hl 1 rfl) ?_
        refine zr_if_ne (tgt := 392) hF h dL_law_370 (by decide) (fun h => ?_) (fun h => ?_)
        · refine lv_goto (tgt := 1688) hx hb dL_law_392 (by decide) ?_
          cases h
          exact kk N cells1 slots1 H locs ls hsm hcl hw (lv_sub hl [2, 3, 4, 5, 6] rfl)
        · refine lv_aload_n hx hb dL_law_373 rfl (lv_at hl 5 rfl) ?_
          refine lv_iconst hx hb dL_law_374 rfl ?_
          refine zr_lald hF hw zEf_17_0 h dL_law_375 (fun h => ?_)
          refine lv_iload hx hb dL_law_376 (lv_at hl 0 rfl) ?_
          refine zr_if_eq (tgt := 385) hF h dL_law_378 (by decide) (fun h => ?_) (fun h => ?_)
          · refine lv_lconst (v := Int64.ofInt 0) hx hb dL_law_385 (by decide) ?_
            refine zr_lcmp hF h dL_law_386 (fun h => ?_)
            refine zr_if_eq (tgt := 392) hF h dL_law_387 (by decide) (fun h => ?_) (fun h => ?_)
            · refine lv_goto (tgt := 1688) hx hb dL_law_392 (by decide) ?_
              cases h
              exact kk N cells1 slots1 H locs ls hsm hcl hw (lv_sub hl [2, 3, 4, 5, 6] rfl)
            · refine lv_iconst hx hb dL_law_390 rfl ?_
              exact nomatch h
          · refine lv_lconst (v := Int64.ofInt 1) hx hb dL_law_381 (by decide) ?_
            refine lv_goto (tgt := 386) hx hb dL_law_382 (by decide) ?_
            refine zr_lcmp hF h dL_law_386 (fun h => ?_)
            refine zr_if_eq (tgt := 392) hF h dL_law_387 (by decide) (fun h => ?_) (fun h => ?_)
            · refine lv_goto (tgt := 1688) hx hb dL_law_392 (by decide) ?_
              cases h
              exact kk N cells1 slots1 H locs ls hsm hcl hw (lv_sub hl [2, 3, 4, 5, 6] rfl)
            · refine lv_iconst hx hb dL_law_390 rfl ?_
              exact nomatch h
      · refine lv_iconst hx hb dL_law_366 rfl ?_
        exact nomatch h
    · refine lv_iconst hx hb dL_law_347 rfl ?_
      refine lv_goto (tgt := 352) hx hb dL_law_348 (by decide) ?_
      obtain ⟨r4, g1, h1, h⟩ := zbd_some h
      refine zr_callVi (n := 2) (As := [z_v a1, z_v 1]) (rest := []) hF hw (czX5_exempt l X N h1) zEf_6_0 (by decide) zC_6 (z_goodV qw_940 qw_941 qw_942 qw_42 qw_943) (by decide +kernel) ⟨Nat.le_of_ble_eq_true rfl, Nat.le_of_ble_eq_true rfl⟩ ⟨rfl, rfl⟩ rfl hl.1 rfl (Nat.le_of_ble_eq_true rfl) dL_law_352 hcs (fun H locs hw => ?_)
      clear h1
      generalize g1 = g at *
      refine lv_istore (lv' := [(6, z_v r4), (5, z_v r1), (0, .ref b), (1, z_r N 0 0), (2, z_r N 6 0), (3, z_r N 17 0), (4, z_v i)]) hx hb dL_law_355 hl (by decide) rfl (fun ls hl => ?_)
      refine lv_aload_n hx hb dL_law_357 rfl (lv_at hl 4 rfl) ?_
      obtain ⟨r5, g1, h1, h⟩ := zbd_some h
      refine zr_callVi (n := 0) (As := []) (rest := []) hF hw (czX5_thrown l X N h1) zEf_6_0 (by decide) zC_6 (z_goodV qw_914 qw_915 qw_916 qw_42 qw_917) (by decide +kernel) ⟨Nat.le_of_ble_eq_true rfl, Nat.le_of_ble_eq_true rfl⟩ ⟨rfl, rfl⟩ rfl hl.1 rfl (Nat.le_of_ble_eq_true rfl) dL_law_358 hcs (fun H locs hw => ?_)
      clear h1
      generalize g1 = g at *
      refine lv_iload hx hb dL_law_361 (lv_at hl 1 rfl) ?_
      refine zr_icmp_eq (tgt := 368) hF h dL_law_363 (by decide) (fun h => ?_) (fun h => ?_)
      · refine lv_iload hx hb dL_law_368 (lv_at hl 1 rfl) ?_
        refine zr_if_ne (tgt := 392) hF h dL_law_370 (by decide) (fun h => ?_) (fun h => ?_)
        · refine lv_goto (tgt := 1688) hx hb dL_law_392 (by decide) ?_
          cases h
          exact kk N cells1 slots1 H locs ls hsm hcl hw (lv_sub hl [2, 3, 4, 5, 6] rfl)
        · refine lv_aload_n hx hb dL_law_373 rfl (lv_at hl 5 rfl) ?_
          refine lv_iconst hx hb dL_law_374 rfl ?_
          refine zr_lald hF hw zEf_17_0 h dL_law_375 (fun h => ?_)
          refine lv_iload hx hb dL_law_376 (lv_at hl 0 rfl) ?_
          refine zr_if_eq (tgt := 385) hF h dL_law_378 (by decide) (fun h => ?_) (fun h => ?_)
          · refine lv_lconst (v := Int64.ofInt 0) hx hb dL_law_385 (by decide) ?_
            refine zr_lcmp hF h dL_law_386 (fun h => ?_)
            refine zr_if_eq (tgt := 392) hF h dL_law_387 (by decide) (fun h => ?_) (fun h => ?_)
            · refine lv_goto (tgt := 1688) hx hb dL_law_392 (by decide) ?_
              cases h
              exact kk N cells1 slots1 H locs ls hsm hcl hw (lv_sub hl [2, 3, 4, 5, 6] rfl)
            · refine lv_iconst hx hb dL_law_390 rfl ?_
              exact nomatch h
          · refine lv_lconst (v := Int64.ofInt 1) hx hb dL_law_381 (by decide) ?_
            refine lv_goto (tgt := 386) hx hb dL_law_382 (by decide) ?_
            refine zr_lcmp hF h dL_law_386 (fun h => ?_)
            refine zr_if_eq (tgt := 392) hF h dL_law_387 (by decide) (fun h => ?_) (fun h => ?_)
            · refine lv_goto (tgt := 1688) hx hb dL_law_392 (by decide) ?_
              cases h
              exact kk N cells1 slots1 H locs ls hsm hcl hw (lv_sub hl [2, 3, 4, 5, 6] rfl)
            · refine lv_iconst hx hb dL_law_390 rfl ?_
              exact nomatch h
      · refine lv_iconst hx hb dL_law_366 rfl ?_
        exact nomatch h
  · refine lv_iconst hx hb dL_law_320 rfl ?_
    refine lv_goto (tgt := 325) hx hb dL_law_321 (by decide) ?_
    refine lv_aload_n hx hb dL_law_325 rfl (lv_at hl 3 rfl) ?_
    obtain ⟨r6, g1, h1, h⟩ := zbd_some h
    refine zl_callW (n := 4) (As := [z_r N 0 0, z_v a1, z_v 1, z_r N 17 0]) (rest := []) hF hw (czL_exempt l hT X N h1) (z_goodSW qw_560 qw_561 qw_35 qw_562) (by decide +kernel) ⟨Nat.le_of_ble_eq_true rfl, Nat.le_of_ble_eq_true rfl⟩ rfl hl.1 rfl (Nat.le_of_ble_eq_true rfl) dL_law_326 hcs0 ⟨Nat.le_of_ble_eq_true rfl, Nat.le_of_ble_eq_true rfl⟩ (fun N cells1 slots1 H locs hsm hcl hw => ?_)
    have hl := z_hl hsm hl
    have hcs : cells1 ≤ zRL.cells ∧ slots1 ≤ zRL.slots := z_hcs hcs0 hcl
    clear h1
    generalize g1 = g at *
    refine lv_istore (lv' := [(5, z_v r6), (0, .ref b), (1, z_r N 0 0), (2, z_r N 6 0), (3, z_r N 17 0), (4, z_v i)]) hx hb dL_law_329 hl (by decide) rfl (fun ls hl => ?_)
    refine lv_aload_n hx hb dL_law_331 rfl (lv_at hl 3 rfl) ?_
    refine lv_aload_n hx hb dL_law_332 rfl (lv_at hl 1 rfl) ?_
    refine lv_iload hx hb dL_law_333 (lv_at hl 5 rfl) ?_
    refine lv_iconst hx hb dL_law_335 rfl ?_
    refine zr_iadd hF dL_law_336 ?_
    refine zl_sld hF hw hX ⟨by omega, by omega⟩ dL_law_337 ?_
    rw [ha1]
    refine lv_aload_n hx hb dL_law_338 rfl (lv_at hl 1 rfl) ?_
    refine lv_iload hx hb dL_law_339 (lv_at hl 5 rfl) ?_
    refine lv_iconst hx hb dL_law_341 rfl ?_
    refine zr_iadd hF dL_law_342 ?_
    refine zl_sld hF hw hX ⟨by omega, by omega⟩ dL_law_343 ?_
    rw [ha2]
    refine zr_if_eq (tgt := 351) hF h dL_law_344 (by decide) (fun h => ?_) (fun h => ?_)
    · refine lv_iconst hx hb dL_law_351 rfl ?_
      obtain ⟨r7, g1, h1, h⟩ := zbd_some h
      refine zr_callVi (n := 2) (As := [z_v a1, z_v 0]) (rest := []) hF hw (czX5_exempt l X N h1) zEf_6_0 (by decide) zC_6 (z_goodV qw_940 qw_941 qw_942 qw_42 qw_943) (by decide +kernel) ⟨Nat.le_of_ble_eq_true rfl, Nat.le_of_ble_eq_true rfl⟩ ⟨rfl, rfl⟩ rfl hl.1 rfl (Nat.le_of_ble_eq_true rfl) dL_law_352 hcs (fun H locs hw => ?_)
      clear h1
      generalize g1 = g at *
      refine lv_istore (lv' := [(6, z_v r7), (5, z_v r6), (0, .ref b), (1, z_r N 0 0), (2, z_r N 6 0), (3, z_r N 17 0), (4, z_v i)]) hx hb dL_law_355 hl (by decide) rfl (fun ls hl => ?_)
      refine lv_aload_n hx hb dL_law_357 rfl (lv_at hl 4 rfl) ?_
      obtain ⟨r8, g1, h1, h⟩ := zbd_some h
      refine zr_callVi (n := 0) (As := []) (rest := []) hF hw (czX5_thrown l X N h1) zEf_6_0 (by decide) zC_6 (z_goodV qw_914 qw_915 qw_916 qw_42 qw_917) (by decide +kernel) ⟨Nat.le_of_ble_eq_true rfl, Nat.le_of_ble_eq_true rfl⟩ ⟨rfl, rfl⟩ rfl hl.1 rfl (Nat.le_of_ble_eq_true rfl) dL_law_358 hcs (fun H locs hw => ?_)
      clear h1
      generalize g1 = g at *
      refine lv_iload hx hb dL_law_361 (lv_at hl 1 rfl) ?_
      refine zr_icmp_eq (tgt := 368) hF h dL_law_363 (by decide) (fun h => ?_) (fun h => ?_)
      · refine lv_iload hx hb dL_law_368 (lv_at hl 1 rfl) ?_
        refine zr_if_ne (tgt := 392) hF h dL_law_370 (by decide) (fun h => ?_) (fun h => ?_)
        · refine lv_goto (tgt := 1688) hx hb dL_law_392 (by decide) ?_
          cases h
          exact kk N cells1 slots1 H locs ls hsm hcl hw (lv_sub hl [2, 3, 4, 5, 6] rfl)
        · refine lv_aload_n hx hb dL_law_373 rfl (lv_at hl 5 rfl) ?_
          refine lv_iconst hx hb dL_law_374 rfl ?_
          refine zr_lald hF hw zEf_17_0 h dL_law_375 (fun h => ?_)
          refine lv_iload hx hb dL_law_376 (lv_at hl 0 rfl) ?_
          refine zr_if_eq (tgt := 385) hF h dL_law_378 (by decide) (fun h => ?_) (fun h => ?_)
          · refine lv_lconst (v := Int64.ofInt 0) hx hb dL_law_385 (by decide) ?_
            refine zr_lcmp hF h dL_law_386 (fun h => ?_)
            refine zr_if_eq (tgt := 392) hF h dL_law_387 (by decide) (fun h => ?_) (fun h => ?_)
            · refine lv_goto (tgt := 1688) hx hb dL_law_392 (by decide) ?_
              cases h
              exact kk N cells1 slots1 H locs ls hsm hcl hw (lv_sub hl [2, 3, 4, 5, 6] rfl)
            · refine lv_iconst hx hb dL_law_390 rfl ?_
              exact nomatch h
          · refine lv_lconst (v := Int64.ofInt 1) hx hb dL_law_381 (by decide) ?_
            refine lv_goto (tgt := 386) hx hb dL_law_382 (by decide) ?_
            refine zr_lcmp hF h dL_law_386 (fun h => ?_)
            refine zr_if_eq (tgt := 392) hF h dL_law_387 (by decide) (fun h => ?_) (fun h => ?_)
            · refine lv_goto (tgt := 1688) hx hb dL_law_392 (by decide) ?_
              cases h
              exact kk N cells1 slots1 H locs ls hsm hcl hw (lv_sub hl [2, 3, 4, 5, 6] rfl)
            · refine lv_iconst hx hb dL_law_390 rfl ?_
              exact nomatch h
      · refine lv_iconst hx hb dL_law_366 rfl ?_
        exact nomatch h
    · refine lv_iconst hx hb dL_law_347 rfl ?_
      refine lv_goto (tgt := 352) hx hb dL_law_348 (by decide) ?_
      obtain ⟨r9, g1, h1, h⟩ := zbd_some h
      refine zr_callVi (n := 2) (As := [z_v a1, z_v 1]) (rest := []) hF hw (czX5_exempt l X N h1) zEf_6_0 (by decide) zC_6 (z_goodV qw_940 qw_941 qw_942 qw_42 qw_943) (by decide +kernel) ⟨Nat.le_of_ble_eq_true rfl, Nat.le_of_ble_eq_true rfl⟩ ⟨rfl, rfl⟩ rfl hl.1 rfl (Nat.le_of_ble_eq_true rfl) dL_law_352 hcs (fun H locs hw => ?_)
      clear h1
      generalize g1 = g at *
      refine lv_istore (lv' := [(6, z_v r9), (5, z_v r6), (0, .ref b), (1, z_r N 0 0), (2, z_r N 6 0), (3, z_r N 17 0), (4, z_v i)]) hx hb dL_law_355 hl (by decide) rfl (fun ls hl => ?_)
      refine lv_aload_n hx hb dL_law_357 rfl (lv_at hl 4 rfl) ?_
      obtain ⟨r10, g1, h1, h⟩ := zbd_some h
      refine zr_callVi (n := 0) (As := []) (rest := []) hF hw (czX5_thrown l X N h1) zEf_6_0 (by decide) zC_6 (z_goodV qw_914 qw_915 qw_916 qw_42 qw_917) (by decide +kernel) ⟨Nat.le_of_ble_eq_true rfl, Nat.le_of_ble_eq_true rfl⟩ ⟨rfl, rfl⟩ rfl hl.1 rfl (Nat.le_of_ble_eq_true rfl) dL_law_358 hcs (fun H locs hw => ?_)
      clear h1
      generalize g1 = g at *
      refine lv_iload hx hb dL_law_361 (lv_at hl 1 rfl) ?_
      refine zr_icmp_eq (tgt := 368) hF h dL_law_363 (by decide) (fun h => ?_) (fun h => ?_)
      · refine lv_iload hx hb dL_law_368 (lv_at hl 1 rfl) ?_
        refine zr_if_ne (tgt := 392) hF h dL_law_370 (by decide) (fun h => ?_) (fun h => ?_)
        · refine lv_goto (tgt := 1688) hx hb dL_law_392 (by decide) ?_
          cases h
          exact kk N cells1 slots1 H locs ls hsm hcl hw (lv_sub hl [2, 3, 4, 5, 6] rfl)
        · refine lv_aload_n hx hb dL_law_373 rfl (lv_at hl 5 rfl) ?_
          refine lv_iconst hx hb dL_law_374 rfl ?_
          refine zr_lald hF hw zEf_17_0 h dL_law_375 (fun h => ?_)
          refine lv_iload hx hb dL_law_376 (lv_at hl 0 rfl) ?_
          refine zr_if_eq (tgt := 385) hF h dL_law_378 (by decide) (fun h => ?_) (fun h => ?_)
          · refine lv_lconst (v := Int64.ofInt 0) hx hb dL_law_385 (by decide) ?_
            refine zr_lcmp hF h dL_law_386 (fun h => ?_)
            refine zr_if_eq (tgt := 392) hF h dL_law_387 (by decide) (fun h => ?_) (fun h => ?_)
            · refine lv_goto (tgt := 1688) hx hb dL_law_392 (by decide) ?_
              cases h
              exact kk N cells1 slots1 H locs ls hsm hcl hw (lv_sub hl [2, 3, 4, 5, 6] rfl)
            · refine lv_iconst hx hb dL_law_390 rfl ?_
              exact nomatch h
          · refine lv_lconst (v := Int64.ofInt 1) hx hb dL_law_381 (by decide) ?_
            refine lv_goto (tgt := 386) hx hb dL_law_382 (by decide) ?_
            refine zr_lcmp hF h dL_law_386 (fun h => ?_)
            refine zr_if_eq (tgt := 392) hF h dL_law_387 (by decide) (fun h => ?_) (fun h => ?_)
            · refine lv_goto (tgt := 1688) hx hb dL_law_392 (by decide) ?_
              cases h
              exact kk N cells1 slots1 H locs ls hsm hcl hw (lv_sub hl [2, 3, 4, 5, 6] rfl)
            · refine lv_iconst hx hb dL_law_390 rfl ?_
              exact nomatch h
      · refine lv_iconst hx hb dL_law_366 rfl ?_
        exact nomatch h
set_option maxHeartbeats 4000000 in
set_option maxRecDepth 100000 in
theorem wLc3 {p : Program} {l : Launch} {e : Env} {s : State} {m : MethodId} {args : Array Value} {below : List Frame} {meth : Method} {c : Code} {H : Heap} {locs : List Loc} {cells slots : Nat} {Q : State → Prop} {ls : Array Slot} {X : zC} {N : zN} {g g' : zG} {b L n : Nat} {xs : Nat → Int32} {i a1 a2 a3 a4 : Int} (hF : zF p s m args meth c X cL_law 7 RL) (hT : l.stackTraces = false) (hX : zX_ b L xs s X) (hi : 0 ≤ i ∧ i + 4 < L) (ha1 : zxs xs (i + 1) = a1) (ha2 : zxs xs (i + 2) = a2) (ha3 : zxs xs (i + 3) = a3) (ha4 : zxs xs (i + 4) = a4) (hnp : zNp N) (hw : zH X N g s H locs) (hl : lv_has ls 7 [(0, .ref b), (1, z_r N 0 0), (2, z_r N 6 0), (3, z_r N 17 0), (4, z_v i)]) (hcs0 : cells + 6 ≤ 601024 ∧ slots + 80 ≤ 7293034) (h : sLc3 n a1 a2 a3 a4 g = some g') (kk : ∀ (N2 : zN) (cells2 slots2 : Nat) (H : Heap) (locs : List Loc) (ls : Array Slot), zSame N N2 → (cells2 ≤ cells + 6 ∧ slots2 ≤ slots + 80) → zH X N2 g' s H locs → lv_has ls 7 [(0, .ref b), (1, z_r N2 0 0), (2, z_r N2 6 0), (3, z_r N2 17 0), (4, z_v i)] → W p l e zRL s m args below meth c H locs cells2 slots2 Q (F0 m 1688 ls [])) : W p l e zRL s m args below meth c H locs cells slots Q (F0 m 395 ls []) := by
  have hx := hF.1.1
  have hb := hF.1.2.1
  unfold sLc3 at h
  refine lv_aload_n hx hb dL_law_395 rfl (lv_at hl 1 rfl) ?_
  refine lv_aload_n hx hb dL_law_396 rfl (lv_at hl 0 rfl) ?_
  refine lv_iload hx hb dL_law_397 (lv_at hl 4 rfl) ?_
  refine lv_iconst hx hb dL_law_399 rfl ?_
  refine zr_iadd hF dL_law_400 ?_
  refine zl_sld hF hw hX ⟨by omega, by omega⟩ dL_law_401 ?_
  rw [ha1]
  refine lv_aload_n hx hb dL_law_402 rfl (lv_at hl 0 rfl) ?_
  refine lv_iload hx hb dL_law_403 (lv_at hl 4 rfl) ?_
  refine lv_iconst hx hb dL_law_405 rfl ?_
  refine zr_iadd hF dL_law_406 ?_
  refine zl_sld hF hw hX ⟨by omega, by omega⟩ dL_law_407 ?_
  rw [ha2]
  refine lv_aload_n hx hb dL_law_408 rfl (lv_at hl 3 rfl) ?_
  obtain ⟨r1, g1, h1, h⟩ := zbd_some h
  refine zl_callW (n := 4) (As := [z_r N 0 0, z_v a1, z_v a2, z_r N 17 0]) (rest := []) hF hw (czL_flightIs l hT X N h1) (z_goodSW qw_569 qw_570 qw_35 qw_571) (by decide +kernel) ⟨Nat.le_of_ble_eq_true rfl, Nat.le_of_ble_eq_true rfl⟩ rfl hl.1 rfl (Nat.le_of_ble_eq_true rfl) dL_law_409 hcs0 ⟨Nat.le_of_ble_eq_true rfl, Nat.le_of_ble_eq_true rfl⟩ (fun N cells1 slots1 H locs hsm hcl hw => ?_)
  have hl := z_hl hsm hl
  have hcs : cells1 ≤ zRL.cells ∧ slots1 ≤ zRL.slots := z_hcs hcs0 hcl
  clear h1
  generalize g1 = g at *
  refine lv_istore (lv' := [(5, z_v r1), (0, .ref b), (1, z_r N 0 0), (2, z_r N 6 0), (3, z_r N 17 0), (4, z_v i)]) hx hb dL_law_412 hl (by decide) rfl (fun ls hl => ?_)
  refine lv_aload_n hx hb dL_law_414 rfl (lv_at hl 3 rfl) ?_
  refine lv_aload_n hx hb dL_law_415 rfl (lv_at hl 1 rfl) ?_
  refine lv_iload hx hb dL_law_416 (lv_at hl 5 rfl) ?_
  refine lv_iconst hx hb dL_law_418 rfl ?_
  refine zr_iadd hF dL_law_419 ?_
  refine zl_sld hF hw hX ⟨by omega, by omega⟩ dL_law_420 ?_
  rw [ha1]
  refine lv_aload_n hx hb dL_law_421 rfl (lv_at hl 1 rfl) ?_
  refine lv_iload hx hb dL_law_422 (lv_at hl 5 rfl) ?_
  refine lv_iconst hx hb dL_law_424 rfl ?_
  refine zr_iadd hF dL_law_425 ?_
  refine zl_sld hF hw hX ⟨by omega, by omega⟩ dL_law_426 ?_
  rw [ha2]
  obtain ⟨r2, g1, h1, h⟩ := zbd_some h
  refine zr_callVi (n := 2) (As := [z_v a1, z_v a2]) (rest := []) hF hw (czX5_flightIs l X N h1) zEf_6_0 (by decide) zC_6 (z_goodV qw_944 qw_945 qw_946 qw_42 qw_947) (by decide +kernel) ⟨Nat.le_of_ble_eq_true rfl, Nat.le_of_ble_eq_true rfl⟩ ⟨rfl, rfl⟩ rfl hl.1 rfl (Nat.le_of_ble_eq_true rfl) dL_law_427 hcs (fun H locs hw => ?_)
  clear h1
  generalize g1 = g at *
  refine lv_istore (lv' := [(6, z_v r2), (5, z_v r1), (0, .ref b), (1, z_r N 0 0), (2, z_r N 6 0), (3, z_r N 17 0), (4, z_v i)]) hx hb dL_law_430 hl (by decide) rfl (fun ls hl => ?_)
  refine lv_aload_n hx hb dL_law_432 rfl (lv_at hl 4 rfl) ?_
  obtain ⟨r3, g1, h1, h⟩ := zbd_some h
  refine zr_callVi (n := 0) (As := []) (rest := []) hF hw (czX5_thrown l X N h1) zEf_6_0 (by decide) zC_6 (z_goodV qw_914 qw_915 qw_916 qw_42 qw_917) (by decide +kernel) ⟨Nat.le_of_ble_eq_true rfl, Nat.le_of_ble_eq_true rfl⟩ ⟨rfl, rfl⟩ rfl hl.1 rfl (Nat.le_of_ble_eq_true rfl) dL_law_433 hcs (fun H locs hw => ?_)
  clear h1
  generalize g1 = g at *
  refine lv_iload hx hb dL_law_436 (lv_at hl 1 rfl) ?_
  refine zr_icmp_eq (tgt := 443) hF h dL_law_438 (by decide) (fun h => ?_) (fun h => ?_)
  · refine lv_iload hx hb dL_law_443 (lv_at hl 1 rfl) ?_
    refine zr_if_ne (tgt := 460) hF h dL_law_445 (by decide) (fun h => ?_) (fun h => ?_)
    · refine lv_goto (tgt := 1688) hx hb dL_law_460 (by decide) ?_
      cases h
      exact kk N cells1 slots1 H locs ls hsm hcl hw (lv_sub hl [2, 3, 4, 5, 6] rfl)
    · refine lv_aload_n hx hb dL_law_448 rfl (lv_at hl 5 rfl) ?_
      refine lv_iconst hx hb dL_law_449 rfl ?_
      refine zr_lald hF hw zEf_17_0 h dL_law_450 (fun h => ?_)
      refine lv_iload hx hb dL_law_451 (lv_at hl 0 rfl) ?_
      refine zr_i2l hF h dL_law_453 (fun h => ?_)
      refine zr_lcmp hF h dL_law_454 (fun h => ?_)
      refine zr_if_eq (tgt := 460) hF h dL_law_455 (by decide) (fun h => ?_) (fun h => ?_)
      · refine lv_goto (tgt := 1688) hx hb dL_law_460 (by decide) ?_
        cases h
        exact kk N cells1 slots1 H locs ls hsm hcl hw (lv_sub hl [2, 3, 4, 5, 6] rfl)
      · refine lv_iconst hx hb dL_law_458 rfl ?_
        exact nomatch h
  · refine lv_iconst hx hb dL_law_441 rfl ?_
    exact nomatch h
set_option maxHeartbeats 4000000 in
set_option maxRecDepth 100000 in
theorem wLc4 {p : Program} {l : Launch} {e : Env} {s : State} {m : MethodId} {args : Array Value} {below : List Frame} {meth : Method} {c : Code} {H : Heap} {locs : List Loc} {cells slots : Nat} {Q : State → Prop} {ls : Array Slot} {X : zC} {N : zN} {g g' : zG} {b L n : Nat} {xs : Nat → Int32} {i a1 a2 a3 a4 : Int} (hF : zF p s m args meth c X cL_law 7 RL) (hT : l.stackTraces = false) (hX : zX_ b L xs s X) (hi : 0 ≤ i ∧ i + 4 < L) (ha1 : zxs xs (i + 1) = a1) (ha2 : zxs xs (i + 2) = a2) (ha3 : zxs xs (i + 3) = a3) (ha4 : zxs xs (i + 4) = a4) (hnp : zNp N) (hw : zH X N g s H locs) (hl : lv_has ls 7 [(0, .ref b), (1, z_r N 0 0), (2, z_r N 6 0), (3, z_r N 17 0), (4, z_v i)]) (hcs0 : cells + 6 ≤ 601024 ∧ slots + 80 ≤ 7293034) (h : sLc4 n a1 a2 a3 a4 g = some g') (kk : ∀ (N2 : zN) (cells2 slots2 : Nat) (H : Heap) (locs : List Loc) (ls : Array Slot), zSame N N2 → (cells2 ≤ cells + 6 ∧ slots2 ≤ slots + 80) → zH X N2 g' s H locs → lv_has ls 7 [(0, .ref b), (1, z_r N2 0 0), (2, z_r N2 6 0), (3, z_r N2 17 0), (4, z_v i)] → W p l e zRL s m args below meth c H locs cells2 slots2 Q (F0 m 1688 ls [])) : W p l e zRL s m args below meth c H locs cells slots Q (F0 m 463 ls []) := by
  have hx := hF.1.1
  have hb := hF.1.2.1
  unfold sLc4 at h
  refine lv_aload_n hx hb dL_law_463 rfl (lv_at hl 1 rfl) ?_
  refine lv_aload_n hx hb dL_law_464 rfl (lv_at hl 0 rfl) ?_
  refine lv_iload hx hb dL_law_465 (lv_at hl 4 rfl) ?_
  refine lv_iconst hx hb dL_law_467 rfl ?_
  refine zr_iadd hF dL_law_468 ?_
  refine zl_sld hF hw hX ⟨by omega, by omega⟩ dL_law_469 ?_
  rw [ha1]
  refine lv_aload_n hx hb dL_law_470 rfl (lv_at hl 0 rfl) ?_
  refine lv_iload hx hb dL_law_471 (lv_at hl 4 rfl) ?_
  refine lv_iconst hx hb dL_law_473 rfl ?_
  refine zr_iadd hF dL_law_474 ?_
  refine zl_sld hF hw hX ⟨by omega, by omega⟩ dL_law_475 ?_
  rw [ha2]
  refine lv_aload_n hx hb dL_law_476 rfl (lv_at hl 3 rfl) ?_
  obtain ⟨r1, g1, h1, h⟩ := zbd_some h
  refine zl_callW (n := 4) (As := [z_r N 0 0, z_v a1, z_v a2, z_r N 17 0]) (rest := []) hF hw (czL_over l hT X N h1) (z_goodSW qw_580 qw_581 qw_35 qw_582) (by decide +kernel) ⟨Nat.le_of_ble_eq_true rfl, Nat.le_of_ble_eq_true rfl⟩ rfl hl.1 rfl (Nat.le_of_ble_eq_true rfl) dL_law_477 hcs0 ⟨Nat.le_of_ble_eq_true rfl, Nat.le_of_ble_eq_true rfl⟩ (fun N cells1 slots1 H locs hsm hcl hw => ?_)
  have hl := z_hl hsm hl
  have hcs : cells1 ≤ zRL.cells ∧ slots1 ≤ zRL.slots := z_hcs hcs0 hcl
  clear h1
  generalize g1 = g at *
  refine lv_istore (lv' := [(5, z_v r1), (0, .ref b), (1, z_r N 0 0), (2, z_r N 6 0), (3, z_r N 17 0), (4, z_v i)]) hx hb dL_law_480 hl (by decide) rfl (fun ls hl => ?_)
  refine lv_aload_n hx hb dL_law_482 rfl (lv_at hl 3 rfl) ?_
  refine lv_aload_n hx hb dL_law_483 rfl (lv_at hl 1 rfl) ?_
  refine lv_iload hx hb dL_law_484 (lv_at hl 5 rfl) ?_
  refine lv_iconst hx hb dL_law_486 rfl ?_
  refine zr_iadd hF dL_law_487 ?_
  refine zl_sld hF hw hX ⟨by omega, by omega⟩ dL_law_488 ?_
  rw [ha1]
  refine lv_aload_n hx hb dL_law_489 rfl (lv_at hl 1 rfl) ?_
  refine lv_iload hx hb dL_law_490 (lv_at hl 5 rfl) ?_
  refine lv_iconst hx hb dL_law_492 rfl ?_
  refine zr_iadd hF dL_law_493 ?_
  refine zl_sld hF hw hX ⟨by omega, by omega⟩ dL_law_494 ?_
  rw [ha2]
  obtain ⟨r2, g1, h1, h⟩ := zbd_some h
  refine zr_callVi (n := 2) (As := [z_v a1, z_v a2]) (rest := []) hF hw (czX5_over l X N h1) zEf_6_0 (by decide) zC_6 (z_goodV qw_952 qw_953 qw_954 qw_42 qw_955) (by decide +kernel) ⟨Nat.le_of_ble_eq_true rfl, Nat.le_of_ble_eq_true rfl⟩ ⟨rfl, rfl⟩ rfl hl.1 rfl (Nat.le_of_ble_eq_true rfl) dL_law_495 hcs (fun H locs hw => ?_)
  clear h1
  generalize g1 = g at *
  refine lv_istore (lv' := [(6, z_v r2), (5, z_v r1), (0, .ref b), (1, z_r N 0 0), (2, z_r N 6 0), (3, z_r N 17 0), (4, z_v i)]) hx hb dL_law_498 hl (by decide) rfl (fun ls hl => ?_)
  refine lv_aload_n hx hb dL_law_500 rfl (lv_at hl 4 rfl) ?_
  obtain ⟨r3, g1, h1, h⟩ := zbd_some h
  refine zr_callVi (n := 0) (As := []) (rest := []) hF hw (czX5_thrown l X N h1) zEf_6_0 (by decide) zC_6 (z_goodV qw_914 qw_915 qw_916 qw_42 qw_917) (by decide +kernel) ⟨Nat.le_of_ble_eq_true rfl, Nat.le_of_ble_eq_true rfl⟩ ⟨rfl, rfl⟩ rfl hl.1 rfl (Nat.le_of_ble_eq_true rfl) dL_law_501 hcs (fun H locs hw => ?_)
  clear h1
  generalize g1 = g at *
  refine lv_iload hx hb dL_law_504 (lv_at hl 1 rfl) ?_
  refine zr_icmp_eq (tgt := 511) hF h dL_law_506 (by decide) (fun h => ?_) (fun h => ?_)
  · refine lv_iload hx hb dL_law_511 (lv_at hl 1 rfl) ?_
    refine zr_if_ne (tgt := 528) hF h dL_law_513 (by decide) (fun h => ?_) (fun h => ?_)
    · refine lv_goto (tgt := 1688) hx hb dL_law_528 (by decide) ?_
      cases h
      exact kk N cells1 slots1 H locs ls hsm hcl hw (lv_sub hl [2, 3, 4, 5, 6] rfl)
    · refine lv_aload_n hx hb dL_law_516 rfl (lv_at hl 5 rfl) ?_
      refine lv_iconst hx hb dL_law_517 rfl ?_
      refine zr_lald hF hw zEf_17_0 h dL_law_518 (fun h => ?_)
      refine lv_iload hx hb dL_law_519 (lv_at hl 0 rfl) ?_
      refine zr_i2l hF h dL_law_521 (fun h => ?_)
      refine zr_lcmp hF h dL_law_522 (fun h => ?_)
      refine zr_if_eq (tgt := 528) hF h dL_law_523 (by decide) (fun h => ?_) (fun h => ?_)
      · refine lv_goto (tgt := 1688) hx hb dL_law_528 (by decide) ?_
        cases h
        exact kk N cells1 slots1 H locs ls hsm hcl hw (lv_sub hl [2, 3, 4, 5, 6] rfl)
      · refine lv_iconst hx hb dL_law_526 rfl ?_
        exact nomatch h
  · refine lv_iconst hx hb dL_law_509 rfl ?_
    exact nomatch h
set_option maxHeartbeats 4000000 in
set_option maxRecDepth 100000 in
theorem wLc5 {p : Program} {l : Launch} {e : Env} {s : State} {m : MethodId} {args : Array Value} {below : List Frame} {meth : Method} {c : Code} {H : Heap} {locs : List Loc} {cells slots : Nat} {Q : State → Prop} {ls : Array Slot} {X : zC} {N : zN} {g g' : zG} {b L n : Nat} {xs : Nat → Int32} {i a1 a2 a3 a4 : Int} (hF : zF p s m args meth c X cL_law 7 RL) (hT : l.stackTraces = false) (hX : zX_ b L xs s X) (hi : 0 ≤ i ∧ i + 4 < L) (ha1 : zxs xs (i + 1) = a1) (ha2 : zxs xs (i + 2) = a2) (ha3 : zxs xs (i + 3) = a3) (ha4 : zxs xs (i + 4) = a4) (hnp : zNp N) (hw : zH X N g s H locs) (hl : lv_has ls 7 [(0, .ref b), (1, z_r N 0 0), (2, z_r N 6 0), (3, z_r N 17 0), (4, z_v i)]) (hcs0 : cells + 6 ≤ 601024 ∧ slots + 80 ≤ 7293034) (h : sLc5 n a1 a2 a3 a4 g = some g') (kk : ∀ (N2 : zN) (cells2 slots2 : Nat) (H : Heap) (locs : List Loc) (ls : Array Slot), zSame N N2 → (cells2 ≤ cells + 6 ∧ slots2 ≤ slots + 80) → zH X N2 g' s H locs → lv_has ls 7 [(0, .ref b), (1, z_r N2 0 0), (2, z_r N2 6 0), (3, z_r N2 17 0), (4, z_v i)] → W p l e zRL s m args below meth c H locs cells2 slots2 Q (F0 m 1688 ls [])) : W p l e zRL s m args below meth c H locs cells slots Q (F0 m 531 ls []) := by
  have hx := hF.1.1
  have hb := hF.1.2.1
  unfold sLc5 at h
  refine lv_aload_n hx hb dL_law_531 rfl (lv_at hl 1 rfl) ?_
  refine lv_aload_n hx hb dL_law_532 rfl (lv_at hl 0 rfl) ?_
  refine lv_iload hx hb dL_law_533 (lv_at hl 4 rfl) ?_
  refine lv_iconst hx hb dL_law_535 rfl ?_
  refine zr_iadd hF dL_law_536 ?_
  refine zl_sld hF hw hX ⟨by omega, by omega⟩ dL_law_537 ?_
  rw [ha1]
  refine lv_aload_n hx hb dL_law_538 rfl (lv_at hl 0 rfl) ?_
  refine lv_iload hx hb dL_law_539 (lv_at hl 4 rfl) ?_
  refine lv_iconst hx hb dL_law_541 rfl ?_
  refine zr_iadd hF dL_law_542 ?_
  refine zl_sld hF hw hX ⟨by omega, by omega⟩ dL_law_543 ?_
  rw [ha2]
  refine lv_aload_n hx hb dL_law_544 rfl (lv_at hl 0 rfl) ?_
  refine lv_iload hx hb dL_law_545 (lv_at hl 4 rfl) ?_
  refine lv_iconst hx hb dL_law_547 rfl ?_
  refine zr_iadd hF dL_law_548 ?_
  refine zl_sld hF hw hX ⟨by omega, by omega⟩ dL_law_549 ?_
  rw [ha3]
  refine lv_aload_n hx hb dL_law_550 rfl (lv_at hl 3 rfl) ?_
  obtain ⟨r1, g1, h1, h⟩ := zbd_some h
  refine zl_callW (n := 5) (As := [z_r N 0 0, z_v a1, z_v a2, z_v a3, z_r N 17 0]) (rest := []) hF hw (czL_load l hT X N h1) (z_goodSW qw_592 qw_593 qw_35 qw_594) (by decide +kernel) ⟨Nat.le_of_ble_eq_true rfl, Nat.le_of_ble_eq_true rfl⟩ rfl hl.1 rfl (Nat.le_of_ble_eq_true rfl) dL_law_551 hcs0 ⟨Nat.le_of_ble_eq_true rfl, Nat.le_of_ble_eq_true rfl⟩ (fun N cells1 slots1 H locs hsm hcl hw => ?_)
  have hl := z_hl hsm hl
  have hcs : cells1 ≤ zRL.cells ∧ slots1 ≤ zRL.slots := z_hcs hcs0 hcl
  clear h1
  generalize g1 = g at *
  refine lv_istore (lv' := [(5, z_v r1), (0, .ref b), (1, z_r N 0 0), (2, z_r N 6 0), (3, z_r N 17 0), (4, z_v i)]) hx hb dL_law_554 hl (by decide) rfl (fun ls hl => ?_)
  refine lv_aload_n hx hb dL_law_556 rfl (lv_at hl 3 rfl) ?_
  refine lv_aload_n hx hb dL_law_557 rfl (lv_at hl 1 rfl) ?_
  refine lv_iload hx hb dL_law_558 (lv_at hl 5 rfl) ?_
  refine lv_iconst hx hb dL_law_560 rfl ?_
  refine zr_iadd hF dL_law_561 ?_
  refine zl_sld hF hw hX ⟨by omega, by omega⟩ dL_law_562 ?_
  rw [ha1]
  refine lv_aload_n hx hb dL_law_563 rfl (lv_at hl 1 rfl) ?_
  refine lv_iload hx hb dL_law_564 (lv_at hl 5 rfl) ?_
  refine lv_iconst hx hb dL_law_566 rfl ?_
  refine zr_iadd hF dL_law_567 ?_
  refine zl_sld hF hw hX ⟨by omega, by omega⟩ dL_law_568 ?_
  rw [ha2]
  refine lv_aload_n hx hb dL_law_569 rfl (lv_at hl 1 rfl) ?_
  refine lv_iload hx hb dL_law_570 (lv_at hl 5 rfl) ?_
  refine lv_iconst hx hb dL_law_572 rfl ?_
  refine zr_iadd hF dL_law_573 ?_
  refine zl_sld hF hw hX ⟨by omega, by omega⟩ dL_law_574 ?_
  rw [ha3]
  obtain ⟨r2, g1, h1, h⟩ := zbd_some h
  refine zr_callVi (n := 3) (As := [z_v a1, z_v a2, z_v a3]) (rest := []) hF hw (czX5_load l X N h1) zEf_6_0 (by decide) zC_6 (z_goodV qw_964 qw_965 qw_966 qw_42 qw_967) (by decide +kernel) ⟨Nat.le_of_ble_eq_true rfl, Nat.le_of_ble_eq_true rfl⟩ ⟨rfl, rfl⟩ rfl hl.1 rfl (Nat.le_of_ble_eq_true rfl) dL_law_575 hcs (fun H locs hw => ?_)
  clear h1
  generalize g1 = g at *
  refine lv_istore (lv' := [(6, z_v r2), (5, z_v r1), (0, .ref b), (1, z_r N 0 0), (2, z_r N 6 0), (3, z_r N 17 0), (4, z_v i)]) hx hb dL_law_578 hl (by decide) rfl (fun ls hl => ?_)
  refine lv_aload_n hx hb dL_law_580 rfl (lv_at hl 4 rfl) ?_
  obtain ⟨r3, g1, h1, h⟩ := zbd_some h
  refine zr_callVi (n := 0) (As := []) (rest := []) hF hw (czX5_thrown l X N h1) zEf_6_0 (by decide) zC_6 (z_goodV qw_914 qw_915 qw_916 qw_42 qw_917) (by decide +kernel) ⟨Nat.le_of_ble_eq_true rfl, Nat.le_of_ble_eq_true rfl⟩ ⟨rfl, rfl⟩ rfl hl.1 rfl (Nat.le_of_ble_eq_true rfl) dL_law_581 hcs (fun H locs hw => ?_)
  clear h1
  generalize g1 = g at *
  refine lv_iload hx hb dL_law_584 (lv_at hl 1 rfl) ?_
  refine zr_icmp_eq (tgt := 591) hF h dL_law_586 (by decide) (fun h => ?_) (fun h => ?_)
  · refine lv_iload hx hb dL_law_591 (lv_at hl 1 rfl) ?_
    refine zr_if_ne (tgt := 608) hF h dL_law_593 (by decide) (fun h => ?_) (fun h => ?_)
    · refine lv_goto (tgt := 1688) hx hb dL_law_608 (by decide) ?_
      cases h
      exact kk N cells1 slots1 H locs ls hsm hcl hw (lv_sub hl [2, 3, 4, 5, 6] rfl)
    · refine lv_aload_n hx hb dL_law_596 rfl (lv_at hl 5 rfl) ?_
      refine lv_iconst hx hb dL_law_597 rfl ?_
      refine zr_lald hF hw zEf_17_0 h dL_law_598 (fun h => ?_)
      refine lv_iload hx hb dL_law_599 (lv_at hl 0 rfl) ?_
      refine zr_i2l hF h dL_law_601 (fun h => ?_)
      refine zr_lcmp hF h dL_law_602 (fun h => ?_)
      refine zr_if_eq (tgt := 608) hF h dL_law_603 (by decide) (fun h => ?_) (fun h => ?_)
      · refine lv_goto (tgt := 1688) hx hb dL_law_608 (by decide) ?_
        cases h
        exact kk N cells1 slots1 H locs ls hsm hcl hw (lv_sub hl [2, 3, 4, 5, 6] rfl)
      · refine lv_iconst hx hb dL_law_606 rfl ?_
        exact nomatch h
  · refine lv_iconst hx hb dL_law_589 rfl ?_
    exact nomatch h
set_option maxHeartbeats 4000000 in
set_option maxRecDepth 100000 in
theorem wLc6 {p : Program} {l : Launch} {e : Env} {s : State} {m : MethodId} {args : Array Value} {below : List Frame} {meth : Method} {c : Code} {H : Heap} {locs : List Loc} {cells slots : Nat} {Q : State → Prop} {ls : Array Slot} {X : zC} {N : zN} {g g' : zG} {b L n : Nat} {xs : Nat → Int32} {i a1 a2 a3 a4 : Int} (hF : zF p s m args meth c X cL_law 7 RL) (hT : l.stackTraces = false) (hX : zX_ b L xs s X) (hi : 0 ≤ i ∧ i + 4 < L) (ha1 : zxs xs (i + 1) = a1) (ha2 : zxs xs (i + 2) = a2) (ha3 : zxs xs (i + 3) = a3) (ha4 : zxs xs (i + 4) = a4) (hnp : zNp N) (hw : zH X N g s H locs) (hl : lv_has ls 7 [(0, .ref b), (1, z_r N 0 0), (2, z_r N 6 0), (3, z_r N 17 0), (4, z_v i)]) (hcs0 : cells + 6 ≤ 601024 ∧ slots + 80 ≤ 7293034) (h : sLc6 n a1 a2 a3 a4 g = some g') (kk : ∀ (N2 : zN) (cells2 slots2 : Nat) (H : Heap) (locs : List Loc) (ls : Array Slot), zSame N N2 → (cells2 ≤ cells + 6 ∧ slots2 ≤ slots + 80) → zH X N2 g' s H locs → lv_has ls 7 [(0, .ref b), (1, z_r N2 0 0), (2, z_r N2 6 0), (3, z_r N2 17 0), (4, z_v i)] → W p l e zRL s m args below meth c H locs cells2 slots2 Q (F0 m 1688 ls [])) : W p l e zRL s m args below meth c H locs cells slots Q (F0 m 611 ls []) := by
  have hx := hF.1.1
  have hb := hF.1.2.1
  unfold sLc6 at h
  refine lv_aload_n hx hb dL_law_611 rfl (lv_at hl 1 rfl) ?_
  refine lv_aload_n hx hb dL_law_612 rfl (lv_at hl 0 rfl) ?_
  refine lv_iload hx hb dL_law_613 (lv_at hl 4 rfl) ?_
  refine lv_iconst hx hb dL_law_615 rfl ?_
  refine zr_iadd hF dL_law_616 ?_
  refine zl_sld hF hw hX ⟨by omega, by omega⟩ dL_law_617 ?_
  rw [ha1]
  refine lv_aload_n hx hb dL_law_618 rfl (lv_at hl 0 rfl) ?_
  refine lv_iload hx hb dL_law_619 (lv_at hl 4 rfl) ?_
  refine lv_iconst hx hb dL_law_621 rfl ?_
  refine zr_iadd hF dL_law_622 ?_
  refine zl_sld hF hw hX ⟨by omega, by omega⟩ dL_law_623 ?_
  rw [ha2]
  refine lv_aload_n hx hb dL_law_624 rfl (lv_at hl 3 rfl) ?_
  obtain ⟨r1, g1, h1, h⟩ := zbd_some h
  refine zl_callW (n := 4) (As := [z_r N 0 0, z_v a1, z_v a2, z_r N 17 0]) (rest := []) hF hw (czL_inside l hT X N h1) (z_goodSW qw_607 qw_608 qw_35 qw_609) (by decide +kernel) ⟨Nat.le_of_ble_eq_true rfl, Nat.le_of_ble_eq_true rfl⟩ rfl hl.1 rfl (Nat.le_of_ble_eq_true rfl) dL_law_625 hcs0 ⟨Nat.le_of_ble_eq_true rfl, Nat.le_of_ble_eq_true rfl⟩ (fun N cells1 slots1 H locs hsm hcl hw => ?_)
  have hl := z_hl hsm hl
  have hcs : cells1 ≤ zRL.cells ∧ slots1 ≤ zRL.slots := z_hcs hcs0 hcl
  clear h1
  generalize g1 = g at *
  refine lv_istore (lv' := [(5, z_v r1), (0, .ref b), (1, z_r N 0 0), (2, z_r N 6 0), (3, z_r N 17 0), (4, z_v i)]) hx hb dL_law_628 hl (by decide) rfl (fun ls hl => ?_)
  refine lv_aload_n hx hb dL_law_630 rfl (lv_at hl 3 rfl) ?_
  refine lv_aload_n hx hb dL_law_631 rfl (lv_at hl 1 rfl) ?_
  refine lv_iload hx hb dL_law_632 (lv_at hl 5 rfl) ?_
  refine lv_iconst hx hb dL_law_634 rfl ?_
  refine zr_iadd hF dL_law_635 ?_
  refine zl_sld hF hw hX ⟨by omega, by omega⟩ dL_law_636 ?_
  rw [ha1]
  refine lv_aload_n hx hb dL_law_637 rfl (lv_at hl 1 rfl) ?_
  refine lv_iload hx hb dL_law_638 (lv_at hl 5 rfl) ?_
  refine lv_iconst hx hb dL_law_640 rfl ?_
  refine zr_iadd hF dL_law_641 ?_
  refine zl_sld hF hw hX ⟨by omega, by omega⟩ dL_law_642 ?_
  rw [ha2]
  obtain ⟨r2, g1, h1, h⟩ := zbd_some h
  refine zr_callVi (n := 2) (As := [z_v a1, z_v a2]) (rest := []) hF hw (czX5_inside l X N h1) zEf_6_0 (by decide) zC_6 (z_goodV qw_972 qw_973 qw_974 qw_42 qw_975) (by decide +kernel) ⟨Nat.le_of_ble_eq_true rfl, Nat.le_of_ble_eq_true rfl⟩ ⟨rfl, rfl⟩ rfl hl.1 rfl (Nat.le_of_ble_eq_true rfl) dL_law_643 hcs (fun H locs hw => ?_)
  clear h1
  generalize g1 = g at *
  refine lv_istore (lv' := [(6, z_v r2), (5, z_v r1), (0, .ref b), (1, z_r N 0 0), (2, z_r N 6 0), (3, z_r N 17 0), (4, z_v i)]) hx hb dL_law_646 hl (by decide) rfl (fun ls hl => ?_)
  refine lv_aload_n hx hb dL_law_648 rfl (lv_at hl 4 rfl) ?_
  obtain ⟨r3, g1, h1, h⟩ := zbd_some h
  refine zr_callVi (n := 0) (As := []) (rest := []) hF hw (czX5_thrown l X N h1) zEf_6_0 (by decide) zC_6 (z_goodV qw_914 qw_915 qw_916 qw_42 qw_917) (by decide +kernel) ⟨Nat.le_of_ble_eq_true rfl, Nat.le_of_ble_eq_true rfl⟩ ⟨rfl, rfl⟩ rfl hl.1 rfl (Nat.le_of_ble_eq_true rfl) dL_law_649 hcs (fun H locs hw => ?_)
  clear h1
  generalize g1 = g at *
  refine lv_iload hx hb dL_law_652 (lv_at hl 1 rfl) ?_
  refine zr_icmp_eq (tgt := 659) hF h dL_law_654 (by decide) (fun h => ?_) (fun h => ?_)
  · refine lv_iload hx hb dL_law_659 (lv_at hl 1 rfl) ?_
    refine zr_if_ne (tgt := 676) hF h dL_law_661 (by decide) (fun h => ?_) (fun h => ?_)
    · refine lv_goto (tgt := 1688) hx hb dL_law_676 (by decide) ?_
      cases h
      exact kk N cells1 slots1 H locs ls hsm hcl hw (lv_sub hl [2, 3, 4, 5, 6] rfl)
    · refine lv_aload_n hx hb dL_law_664 rfl (lv_at hl 5 rfl) ?_
      refine lv_iconst hx hb dL_law_665 rfl ?_
      refine zr_lald hF hw zEf_17_0 h dL_law_666 (fun h => ?_)
      refine lv_iload hx hb dL_law_667 (lv_at hl 0 rfl) ?_
      refine zr_i2l hF h dL_law_669 (fun h => ?_)
      refine zr_lcmp hF h dL_law_670 (fun h => ?_)
      refine zr_if_eq (tgt := 676) hF h dL_law_671 (by decide) (fun h => ?_) (fun h => ?_)
      · refine lv_goto (tgt := 1688) hx hb dL_law_676 (by decide) ?_
        cases h
        exact kk N cells1 slots1 H locs ls hsm hcl hw (lv_sub hl [2, 3, 4, 5, 6] rfl)
      · refine lv_iconst hx hb dL_law_674 rfl ?_
        exact nomatch h
  · refine lv_iconst hx hb dL_law_657 rfl ?_
    exact nomatch h
set_option maxHeartbeats 4000000 in
set_option maxRecDepth 100000 in
theorem wLc7 {p : Program} {l : Launch} {e : Env} {s : State} {m : MethodId} {args : Array Value} {below : List Frame} {meth : Method} {c : Code} {H : Heap} {locs : List Loc} {cells slots : Nat} {Q : State → Prop} {ls : Array Slot} {X : zC} {N : zN} {g g' : zG} {b L n : Nat} {xs : Nat → Int32} {i a1 a2 a3 a4 : Int} (hF : zF p s m args meth c X cL_law 7 RL) (hT : l.stackTraces = false) (hX : zX_ b L xs s X) (hi : 0 ≤ i ∧ i + 4 < L) (ha1 : zxs xs (i + 1) = a1) (ha2 : zxs xs (i + 2) = a2) (ha3 : zxs xs (i + 3) = a3) (ha4 : zxs xs (i + 4) = a4) (hnp : zNp N) (hw : zH X N g s H locs) (hl : lv_has ls 7 [(0, .ref b), (1, z_r N 0 0), (2, z_r N 6 0), (3, z_r N 17 0), (4, z_v i)]) (hcs0 : cells + 6 ≤ 601024 ∧ slots + 80 ≤ 7293034) (h : sLc7 n a1 a2 a3 a4 g = some g') (kk : ∀ (N2 : zN) (cells2 slots2 : Nat) (H : Heap) (locs : List Loc) (ls : Array Slot), zSame N N2 → (cells2 ≤ cells + 6 ∧ slots2 ≤ slots + 80) → zH X N2 g' s H locs → lv_has ls 7 [(0, .ref b), (1, z_r N2 0 0), (2, z_r N2 6 0), (3, z_r N2 17 0), (4, z_v i)] → W p l e zRL s m args below meth c H locs cells2 slots2 Q (F0 m 1688 ls [])) : W p l e zRL s m args below meth c H locs cells slots Q (F0 m 679 ls []) := by
  have hx := hF.1.1
  have hb := hF.1.2.1
  unfold sLc7 at h
  refine lv_aload_n hx hb dL_law_679 rfl (lv_at hl 1 rfl) ?_
  refine lv_aload_n hx hb dL_law_680 rfl (lv_at hl 0 rfl) ?_
  refine lv_iload hx hb dL_law_681 (lv_at hl 4 rfl) ?_
  refine lv_iconst hx hb dL_law_683 rfl ?_
  refine zr_iadd hF dL_law_684 ?_
  refine zl_sld hF hw hX ⟨by omega, by omega⟩ dL_law_685 ?_
  rw [ha1]
  refine lv_aload_n hx hb dL_law_686 rfl (lv_at hl 0 rfl) ?_
  refine lv_iload hx hb dL_law_687 (lv_at hl 4 rfl) ?_
  refine lv_iconst hx hb dL_law_689 rfl ?_
  refine zr_iadd hF dL_law_690 ?_
  refine zl_sld hF hw hX ⟨by omega, by omega⟩ dL_law_691 ?_
  rw [ha2]
  refine lv_aload_n hx hb dL_law_692 rfl (lv_at hl 3 rfl) ?_
  obtain ⟨r1, g1, h1, h⟩ := zbd_some h
  refine zl_callW (n := 4) (As := [z_r N 0 0, z_v a1, z_v a2, z_r N 17 0]) (rest := []) hF hw (czL_peak l hT X N h1) (z_goodSW qw_624 qw_625 qw_35 qw_626) (by decide +kernel) ⟨Nat.le_of_ble_eq_true rfl, Nat.le_of_ble_eq_true rfl⟩ rfl hl.1 rfl (Nat.le_of_ble_eq_true rfl) dL_law_693 hcs0 ⟨Nat.le_of_ble_eq_true rfl, Nat.le_of_ble_eq_true rfl⟩ (fun N cells1 slots1 H locs hsm hcl hw => ?_)
  have hl := z_hl hsm hl
  have hcs : cells1 ≤ zRL.cells ∧ slots1 ≤ zRL.slots := z_hcs hcs0 hcl
  clear h1
  generalize g1 = g at *
  refine lv_istore (lv' := [(5, z_v r1), (0, .ref b), (1, z_r N 0 0), (2, z_r N 6 0), (3, z_r N 17 0), (4, z_v i)]) hx hb dL_law_696 hl (by decide) rfl (fun ls hl => ?_)
  refine lv_aload_n hx hb dL_law_698 rfl (lv_at hl 3 rfl) ?_
  refine lv_aload_n hx hb dL_law_699 rfl (lv_at hl 1 rfl) ?_
  refine lv_iload hx hb dL_law_700 (lv_at hl 5 rfl) ?_
  refine lv_iconst hx hb dL_law_702 rfl ?_
  refine zr_iadd hF dL_law_703 ?_
  refine zl_sld hF hw hX ⟨by omega, by omega⟩ dL_law_704 ?_
  rw [ha1]
  refine lv_aload_n hx hb dL_law_705 rfl (lv_at hl 1 rfl) ?_
  refine lv_iload hx hb dL_law_706 (lv_at hl 5 rfl) ?_
  refine lv_iconst hx hb dL_law_708 rfl ?_
  refine zr_iadd hF dL_law_709 ?_
  refine zl_sld hF hw hX ⟨by omega, by omega⟩ dL_law_710 ?_
  rw [ha2]
  obtain ⟨r2, g1, h1, h⟩ := zbd_some h
  refine zr_callVi (n := 2) (As := [z_v a1, z_v a2]) (rest := []) hF hw (czX5_peak l X N h1) zEf_6_0 (by decide) zC_6 (z_goodV qw_976 qw_977 qw_978 qw_42 qw_979) (by decide +kernel) ⟨Nat.le_of_ble_eq_true rfl, Nat.le_of_ble_eq_true rfl⟩ ⟨rfl, rfl⟩ rfl hl.1 rfl (Nat.le_of_ble_eq_true rfl) dL_law_711 hcs (fun H locs hw => ?_)
  clear h1
  generalize g1 = g at *
  refine lv_istore (lv' := [(6, z_v r2), (5, z_v r1), (0, .ref b), (1, z_r N 0 0), (2, z_r N 6 0), (3, z_r N 17 0), (4, z_v i)]) hx hb dL_law_714 hl (by decide) rfl (fun ls hl => ?_)
  refine lv_aload_n hx hb dL_law_716 rfl (lv_at hl 4 rfl) ?_
  obtain ⟨r3, g1, h1, h⟩ := zbd_some h
  refine zr_callVi (n := 0) (As := []) (rest := []) hF hw (czX5_thrown l X N h1) zEf_6_0 (by decide) zC_6 (z_goodV qw_914 qw_915 qw_916 qw_42 qw_917) (by decide +kernel) ⟨Nat.le_of_ble_eq_true rfl, Nat.le_of_ble_eq_true rfl⟩ ⟨rfl, rfl⟩ rfl hl.1 rfl (Nat.le_of_ble_eq_true rfl) dL_law_717 hcs (fun H locs hw => ?_)
  clear h1
  generalize g1 = g at *
  refine lv_iload hx hb dL_law_720 (lv_at hl 1 rfl) ?_
  refine zr_icmp_eq (tgt := 727) hF h dL_law_722 (by decide) (fun h => ?_) (fun h => ?_)
  · refine lv_iload hx hb dL_law_727 (lv_at hl 1 rfl) ?_
    refine zr_if_ne (tgt := 744) hF h dL_law_729 (by decide) (fun h => ?_) (fun h => ?_)
    · refine lv_goto (tgt := 1688) hx hb dL_law_744 (by decide) ?_
      cases h
      exact kk N cells1 slots1 H locs ls hsm hcl hw (lv_sub hl [2, 3, 4, 5, 6] rfl)
    · refine lv_aload_n hx hb dL_law_732 rfl (lv_at hl 5 rfl) ?_
      refine lv_iconst hx hb dL_law_733 rfl ?_
      refine zr_lald hF hw zEf_17_0 h dL_law_734 (fun h => ?_)
      refine lv_iload hx hb dL_law_735 (lv_at hl 0 rfl) ?_
      refine zr_i2l hF h dL_law_737 (fun h => ?_)
      refine zr_lcmp hF h dL_law_738 (fun h => ?_)
      refine zr_if_eq (tgt := 744) hF h dL_law_739 (by decide) (fun h => ?_) (fun h => ?_)
      · refine lv_goto (tgt := 1688) hx hb dL_law_744 (by decide) ?_
        cases h
        exact kk N cells1 slots1 H locs ls hsm hcl hw (lv_sub hl [2, 3, 4, 5, 6] rfl)
      · refine lv_iconst hx hb dL_law_742 rfl ?_
        exact nomatch h
  · refine lv_iconst hx hb dL_law_725 rfl ?_
    exact nomatch h
set_option maxHeartbeats 4000000 in
set_option maxRecDepth 100000 in
theorem wLc8 {p : Program} {l : Launch} {e : Env} {s : State} {m : MethodId} {args : Array Value} {below : List Frame} {meth : Method} {c : Code} {H : Heap} {locs : List Loc} {cells slots : Nat} {Q : State → Prop} {ls : Array Slot} {X : zC} {N : zN} {g g' : zG} {b L n : Nat} {xs : Nat → Int32} {i a1 a2 a3 a4 : Int} (hF : zF p s m args meth c X cL_law 7 RL) (hT : l.stackTraces = false) (hX : zX_ b L xs s X) (hi : 0 ≤ i ∧ i + 4 < L) (ha1 : zxs xs (i + 1) = a1) (ha2 : zxs xs (i + 2) = a2) (ha3 : zxs xs (i + 3) = a3) (ha4 : zxs xs (i + 4) = a4) (hnp : zNp N) (hw : zH X N g s H locs) (hl : lv_has ls 7 [(0, .ref b), (1, z_r N 0 0), (2, z_r N 6 0), (3, z_r N 17 0), (4, z_v i)]) (hcs0 : cells + 6 ≤ 601024 ∧ slots + 80 ≤ 7293034) (h : sLc8 n a1 a2 a3 a4 g = some g') (kk : ∀ (N2 : zN) (cells2 slots2 : Nat) (H : Heap) (locs : List Loc) (ls : Array Slot), zSame N N2 → (cells2 ≤ cells + 6 ∧ slots2 ≤ slots + 80) → zH X N2 g' s H locs → lv_has ls 7 [(0, .ref b), (1, z_r N2 0 0), (2, z_r N2 6 0), (3, z_r N2 17 0), (4, z_v i)] → W p l e zRL s m args below meth c H locs cells2 slots2 Q (F0 m 1688 ls [])) : W p l e zRL s m args below meth c H locs cells slots Q (F0 m 747 ls []) := by
  have hx := hF.1.1
  have hb := hF.1.2.1
  unfold sLc8 at h
  refine lv_aload_n hx hb dL_law_747 rfl (lv_at hl 1 rfl) ?_
  refine lv_aload_n hx hb dL_law_748 rfl (lv_at hl 0 rfl) ?_
  refine lv_iload hx hb dL_law_749 (lv_at hl 4 rfl) ?_
  refine lv_iconst hx hb dL_law_751 rfl ?_
  refine zr_iadd hF dL_law_752 ?_
  refine zl_sld hF hw hX ⟨by omega, by omega⟩ dL_law_753 ?_
  rw [ha1]
  refine lv_aload_n hx hb dL_law_754 rfl (lv_at hl 0 rfl) ?_
  refine lv_iload hx hb dL_law_755 (lv_at hl 4 rfl) ?_
  refine lv_iconst hx hb dL_law_757 rfl ?_
  refine zr_iadd hF dL_law_758 ?_
  refine zl_sld hF hw hX ⟨by omega, by omega⟩ dL_law_759 ?_
  rw [ha2]
  refine lv_aload_n hx hb dL_law_760 rfl (lv_at hl 3 rfl) ?_
  obtain ⟨r1, g1, h1, h⟩ := zbd_some h
  refine zl_callW (n := 4) (As := [z_r N 0 0, z_v a1, z_v a2, z_r N 17 0]) (rest := []) hF hw (czL_peakAnew l hT X N h1) (z_goodSW qw_643 qw_644 qw_35 qw_645) (by decide +kernel) ⟨Nat.le_of_ble_eq_true rfl, Nat.le_of_ble_eq_true rfl⟩ rfl hl.1 rfl (Nat.le_of_ble_eq_true rfl) dL_law_761 hcs0 ⟨Nat.le_of_ble_eq_true rfl, Nat.le_of_ble_eq_true rfl⟩ (fun N cells1 slots1 H locs hsm hcl hw => ?_)
  have hl := z_hl hsm hl
  have hcs : cells1 ≤ zRL.cells ∧ slots1 ≤ zRL.slots := z_hcs hcs0 hcl
  clear h1
  generalize g1 = g at *
  refine lv_istore (lv' := [(5, z_v r1), (0, .ref b), (1, z_r N 0 0), (2, z_r N 6 0), (3, z_r N 17 0), (4, z_v i)]) hx hb dL_law_764 hl (by decide) rfl (fun ls hl => ?_)
  refine lv_aload_n hx hb dL_law_766 rfl (lv_at hl 3 rfl) ?_
  refine lv_aload_n hx hb dL_law_767 rfl (lv_at hl 1 rfl) ?_
  refine lv_iload hx hb dL_law_768 (lv_at hl 5 rfl) ?_
  refine lv_iconst hx hb dL_law_770 rfl ?_
  refine zr_iadd hF dL_law_771 ?_
  refine zl_sld hF hw hX ⟨by omega, by omega⟩ dL_law_772 ?_
  rw [ha1]
  refine lv_aload_n hx hb dL_law_773 rfl (lv_at hl 1 rfl) ?_
  refine lv_iload hx hb dL_law_774 (lv_at hl 5 rfl) ?_
  refine lv_iconst hx hb dL_law_776 rfl ?_
  refine zr_iadd hF dL_law_777 ?_
  refine zl_sld hF hw hX ⟨by omega, by omega⟩ dL_law_778 ?_
  rw [ha2]
  obtain ⟨r2, g1, h1, h⟩ := zbd_some h
  refine zr_callVi (n := 2) (As := [z_v a1, z_v a2]) (rest := []) hF hw (czX5_peakAnew l X N h1) zEf_6_0 (by decide) zC_6 (z_goodV qw_980 qw_981 qw_982 qw_42 qw_983) (by decide +kernel) ⟨Nat.le_of_ble_eq_true rfl, Nat.le_of_ble_eq_true rfl⟩ ⟨rfl, rfl⟩ rfl hl.1 rfl (Nat.le_of_ble_eq_true rfl) dL_law_779 hcs (fun H locs hw => ?_)
  clear h1
  generalize g1 = g at *
  refine lv_istore (lv' := [(6, z_v r2), (5, z_v r1), (0, .ref b), (1, z_r N 0 0), (2, z_r N 6 0), (3, z_r N 17 0), (4, z_v i)]) hx hb dL_law_782 hl (by decide) rfl (fun ls hl => ?_)
  refine lv_aload_n hx hb dL_law_784 rfl (lv_at hl 4 rfl) ?_
  obtain ⟨r3, g1, h1, h⟩ := zbd_some h
  refine zr_callVi (n := 0) (As := []) (rest := []) hF hw (czX5_thrown l X N h1) zEf_6_0 (by decide) zC_6 (z_goodV qw_914 qw_915 qw_916 qw_42 qw_917) (by decide +kernel) ⟨Nat.le_of_ble_eq_true rfl, Nat.le_of_ble_eq_true rfl⟩ ⟨rfl, rfl⟩ rfl hl.1 rfl (Nat.le_of_ble_eq_true rfl) dL_law_785 hcs (fun H locs hw => ?_)
  clear h1
  generalize g1 = g at *
  refine lv_iload hx hb dL_law_788 (lv_at hl 1 rfl) ?_
  refine zr_icmp_eq (tgt := 795) hF h dL_law_790 (by decide) (fun h => ?_) (fun h => ?_)
  · refine lv_iload hx hb dL_law_795 (lv_at hl 1 rfl) ?_
    refine zr_if_ne (tgt := 812) hF h dL_law_797 (by decide) (fun h => ?_) (fun h => ?_)
    · refine lv_goto (tgt := 1688) hx hb dL_law_812 (by decide) ?_
      cases h
      exact kk N cells1 slots1 H locs ls hsm hcl hw (lv_sub hl [2, 3, 4, 5, 6] rfl)
    · refine lv_aload_n hx hb dL_law_800 rfl (lv_at hl 5 rfl) ?_
      refine lv_iconst hx hb dL_law_801 rfl ?_
      refine zr_lald hF hw zEf_17_0 h dL_law_802 (fun h => ?_)
      refine lv_iload hx hb dL_law_803 (lv_at hl 0 rfl) ?_
      refine zr_i2l hF h dL_law_805 (fun h => ?_)
      refine zr_lcmp hF h dL_law_806 (fun h => ?_)
      refine zr_if_eq (tgt := 812) hF h dL_law_807 (by decide) (fun h => ?_) (fun h => ?_)
      · refine lv_goto (tgt := 1688) hx hb dL_law_812 (by decide) ?_
        cases h
        exact kk N cells1 slots1 H locs ls hsm hcl hw (lv_sub hl [2, 3, 4, 5, 6] rfl)
      · refine lv_iconst hx hb dL_law_810 rfl ?_
        exact nomatch h
  · refine lv_iconst hx hb dL_law_793 rfl ?_
    exact nomatch h
set_option maxHeartbeats 4000000 in
set_option maxRecDepth 100000 in
theorem wLc9 {p : Program} {l : Launch} {e : Env} {s : State} {m : MethodId} {args : Array Value} {below : List Frame} {meth : Method} {c : Code} {H : Heap} {locs : List Loc} {cells slots : Nat} {Q : State → Prop} {ls : Array Slot} {X : zC} {N : zN} {g g' : zG} {b L n : Nat} {xs : Nat → Int32} {i a1 a2 a3 a4 : Int} (hF : zF p s m args meth c X cL_law 7 RL) (hT : l.stackTraces = false) (hX : zX_ b L xs s X) (hi : 0 ≤ i ∧ i + 4 < L) (ha1 : zxs xs (i + 1) = a1) (ha2 : zxs xs (i + 2) = a2) (ha3 : zxs xs (i + 3) = a3) (ha4 : zxs xs (i + 4) = a4) (hnp : zNp N) (hw : zH X N g s H locs) (hl : lv_has ls 7 [(0, .ref b), (1, z_r N 0 0), (2, z_r N 6 0), (3, z_r N 17 0), (4, z_v i)]) (hcs0 : cells + 6 ≤ 601024 ∧ slots + 80 ≤ 7293034) (h : sLc9 n a1 a2 a3 a4 g = some g') (kk : ∀ (N2 : zN) (cells2 slots2 : Nat) (H : Heap) (locs : List Loc) (ls : Array Slot), zSame N N2 → (cells2 ≤ cells + 6 ∧ slots2 ≤ slots + 80) → zH X N2 g' s H locs → lv_has ls 7 [(0, .ref b), (1, z_r N2 0 0), (2, z_r N2 6 0), (3, z_r N2 17 0), (4, z_v i)] → W p l e zRL s m args below meth c H locs cells2 slots2 Q (F0 m 1688 ls [])) : W p l e zRL s m args below meth c H locs cells slots Q (F0 m 815 ls []) := by
  have hx := hF.1.1
  have hb := hF.1.2.1
  unfold sLc9 at h
  refine lv_aload_n hx hb dL_law_815 rfl (lv_at hl 1 rfl) ?_
  refine lv_aload_n hx hb dL_law_816 rfl (lv_at hl 0 rfl) ?_
  refine lv_iload hx hb dL_law_817 (lv_at hl 4 rfl) ?_
  refine lv_iconst hx hb dL_law_819 rfl ?_
  refine zr_iadd hF dL_law_820 ?_
  refine zl_sld hF hw hX ⟨by omega, by omega⟩ dL_law_821 ?_
  rw [ha1]
  refine lv_aload_n hx hb dL_law_822 rfl (lv_at hl 0 rfl) ?_
  refine lv_iload hx hb dL_law_823 (lv_at hl 4 rfl) ?_
  refine lv_iconst hx hb dL_law_825 rfl ?_
  refine zr_iadd hF dL_law_826 ?_
  refine zl_sld hF hw hX ⟨by omega, by omega⟩ dL_law_827 ?_
  rw [ha2]
  refine lv_aload_n hx hb dL_law_828 rfl (lv_at hl 0 rfl) ?_
  refine lv_iload hx hb dL_law_829 (lv_at hl 4 rfl) ?_
  refine lv_iconst hx hb dL_law_831 rfl ?_
  refine zr_iadd hF dL_law_832 ?_
  refine zl_sld hF hw hX ⟨by omega, by omega⟩ dL_law_833 ?_
  rw [ha3]
  refine lv_aload_n hx hb dL_law_834 rfl (lv_at hl 0 rfl) ?_
  refine lv_iload hx hb dL_law_835 (lv_at hl 4 rfl) ?_
  refine lv_iconst hx hb dL_law_837 rfl ?_
  refine zr_iadd hF dL_law_838 ?_
  refine zl_sld hF hw hX ⟨by omega, by omega⟩ dL_law_839 ?_
  rw [ha4]
  refine lv_aload_n hx hb dL_law_840 rfl (lv_at hl 3 rfl) ?_
  obtain ⟨r1, g1, h1, h⟩ := zbd_some h
  refine zl_callW (n := 6) (As := [z_r N 0 0, z_v a1, z_v a2, z_v a3, z_v a4, z_r N 17 0]) (rest := []) hF hw (czL_regulation l hT X N hnp h1) (z_goodSW qw_650 qw_651 qw_35 qw_652) (by decide +kernel) ⟨Nat.le_of_ble_eq_true rfl, Nat.le_of_ble_eq_true rfl⟩ rfl hl.1 rfl (Nat.le_of_ble_eq_true rfl) dL_law_841 hcs0 ⟨Nat.le_of_ble_eq_true rfl, Nat.le_of_ble_eq_true rfl⟩ (fun N cells1 slots1 H locs hsm hcl hw => ?_)
  have hl := z_hl hsm hl
  have hcs : cells1 ≤ zRL.cells ∧ slots1 ≤ zRL.slots := z_hcs hcs0 hcl
  clear h1
  generalize g1 = g at *
  refine lv_istore (lv' := [(5, z_v r1), (0, .ref b), (1, z_r N 0 0), (2, z_r N 6 0), (3, z_r N 17 0), (4, z_v i)]) hx hb dL_law_844 hl (by decide) rfl (fun ls hl => ?_)
  refine lv_aload_n hx hb dL_law_846 rfl (lv_at hl 3 rfl) ?_
  refine lv_aload_n hx hb dL_law_847 rfl (lv_at hl 1 rfl) ?_
  refine lv_iload hx hb dL_law_848 (lv_at hl 5 rfl) ?_
  refine lv_iconst hx hb dL_law_850 rfl ?_
  refine zr_iadd hF dL_law_851 ?_
  refine zl_sld hF hw hX ⟨by omega, by omega⟩ dL_law_852 ?_
  rw [ha1]
  refine lv_aload_n hx hb dL_law_853 rfl (lv_at hl 1 rfl) ?_
  refine lv_iload hx hb dL_law_854 (lv_at hl 5 rfl) ?_
  refine lv_iconst hx hb dL_law_856 rfl ?_
  refine zr_iadd hF dL_law_857 ?_
  refine zl_sld hF hw hX ⟨by omega, by omega⟩ dL_law_858 ?_
  rw [ha2]
  refine lv_aload_n hx hb dL_law_859 rfl (lv_at hl 1 rfl) ?_
  refine lv_iload hx hb dL_law_860 (lv_at hl 5 rfl) ?_
  refine lv_iconst hx hb dL_law_862 rfl ?_
  refine zr_iadd hF dL_law_863 ?_
  refine zl_sld hF hw hX ⟨by omega, by omega⟩ dL_law_864 ?_
  rw [ha3]
  refine lv_aload_n hx hb dL_law_865 rfl (lv_at hl 1 rfl) ?_
  refine lv_iload hx hb dL_law_866 (lv_at hl 5 rfl) ?_
  refine lv_iconst hx hb dL_law_868 rfl ?_
  refine zr_iadd hF dL_law_869 ?_
  refine zl_sld hF hw hX ⟨by omega, by omega⟩ dL_law_870 ?_
  rw [ha4]
  obtain ⟨r2, g1, h1, h⟩ := zbd_some h
  refine zr_callVi (n := 4) (As := [z_v a1, z_v a2, z_v a3, z_v a4]) (rest := []) hF hw (czX5_regulation l X N h1) zEf_6_0 (by decide) zC_6 (z_goodV qw_985 qw_986 qw_987 qw_42 qw_988) (by decide +kernel) ⟨Nat.le_of_ble_eq_true rfl, Nat.le_of_ble_eq_true rfl⟩ ⟨rfl, rfl⟩ rfl hl.1 rfl (Nat.le_of_ble_eq_true rfl) dL_law_871 hcs (fun H locs hw => ?_)
  clear h1
  generalize g1 = g at *
  refine lv_istore (lv' := [(6, z_v r2), (5, z_v r1), (0, .ref b), (1, z_r N 0 0), (2, z_r N 6 0), (3, z_r N 17 0), (4, z_v i)]) hx hb dL_law_874 hl (by decide) rfl (fun ls hl => ?_)
  refine lv_aload_n hx hb dL_law_876 rfl (lv_at hl 4 rfl) ?_
  obtain ⟨r3, g1, h1, h⟩ := zbd_some h
  refine zr_callVi (n := 0) (As := []) (rest := []) hF hw (czX5_thrown l X N h1) zEf_6_0 (by decide) zC_6 (z_goodV qw_914 qw_915 qw_916 qw_42 qw_917) (by decide +kernel) ⟨Nat.le_of_ble_eq_true rfl, Nat.le_of_ble_eq_true rfl⟩ ⟨rfl, rfl⟩ rfl hl.1 rfl (Nat.le_of_ble_eq_true rfl) dL_law_877 hcs (fun H locs hw => ?_)
  clear h1
  generalize g1 = g at *
  refine lv_iload hx hb dL_law_880 (lv_at hl 1 rfl) ?_
  refine zr_icmp_eq (tgt := 887) hF h dL_law_882 (by decide) (fun h => ?_) (fun h => ?_)
  · refine lv_iload hx hb dL_law_887 (lv_at hl 1 rfl) ?_
    refine zr_if_ne (tgt := 904) hF h dL_law_889 (by decide) (fun h => ?_) (fun h => ?_)
    · refine lv_goto (tgt := 1688) hx hb dL_law_904 (by decide) ?_
      cases h
      exact kk N cells1 slots1 H locs ls hsm hcl hw (lv_sub hl [2, 3, 4, 5, 6] rfl)
    · refine lv_aload_n hx hb dL_law_892 rfl (lv_at hl 5 rfl) ?_
      refine lv_iconst hx hb dL_law_893 rfl ?_
      refine zr_lald hF hw zEf_17_0 h dL_law_894 (fun h => ?_)
      refine lv_iload hx hb dL_law_895 (lv_at hl 0 rfl) ?_
      refine zr_i2l hF h dL_law_897 (fun h => ?_)
      refine zr_lcmp hF h dL_law_898 (fun h => ?_)
      refine zr_if_eq (tgt := 904) hF h dL_law_899 (by decide) (fun h => ?_) (fun h => ?_)
      · refine lv_goto (tgt := 1688) hx hb dL_law_904 (by decide) ?_
        cases h
        exact kk N cells1 slots1 H locs ls hsm hcl hw (lv_sub hl [2, 3, 4, 5, 6] rfl)
      · refine lv_iconst hx hb dL_law_902 rfl ?_
        exact nomatch h
  · refine lv_iconst hx hb dL_law_885 rfl ?_
    exact nomatch h
set_option maxHeartbeats 4000000 in
set_option maxRecDepth 100000 in
theorem wLc10 {p : Program} {l : Launch} {e : Env} {s : State} {m : MethodId} {args : Array Value} {below : List Frame} {meth : Method} {c : Code} {H : Heap} {locs : List Loc} {cells slots : Nat} {Q : State → Prop} {ls : Array Slot} {X : zC} {N : zN} {g g' : zG} {b L n : Nat} {xs : Nat → Int32} {i a1 a2 a3 a4 : Int} (hF : zF p s m args meth c X cL_law 7 RL) (hT : l.stackTraces = false) (hX : zX_ b L xs s X) (hi : 0 ≤ i ∧ i + 4 < L) (ha1 : zxs xs (i + 1) = a1) (ha2 : zxs xs (i + 2) = a2) (ha3 : zxs xs (i + 3) = a3) (ha4 : zxs xs (i + 4) = a4) (hnp : zNp N) (hw : zH X N g s H locs) (hl : lv_has ls 7 [(0, .ref b), (1, z_r N 0 0), (2, z_r N 6 0), (3, z_r N 17 0), (4, z_v i)]) (hcs0 : cells + 6 ≤ 601024 ∧ slots + 80 ≤ 7293034) (h : sLc10 n a1 a2 a3 a4 g = some g') (kk : ∀ (N2 : zN) (cells2 slots2 : Nat) (H : Heap) (locs : List Loc) (ls : Array Slot), zSame N N2 → (cells2 ≤ cells + 6 ∧ slots2 ≤ slots + 80) → zH X N2 g' s H locs → lv_has ls 7 [(0, .ref b), (1, z_r N2 0 0), (2, z_r N2 6 0), (3, z_r N2 17 0), (4, z_v i)] → W p l e zRL s m args below meth c H locs cells2 slots2 Q (F0 m 1688 ls [])) : W p l e zRL s m args below meth c H locs cells slots Q (F0 m 907 ls []) := by
  have hx := hF.1.1
  have hb := hF.1.2.1
  unfold sLc10 at h
  refine lv_aload_n hx hb dL_law_907 rfl (lv_at hl 1 rfl) ?_
  refine lv_aload_n hx hb dL_law_908 rfl (lv_at hl 0 rfl) ?_
  refine lv_iload hx hb dL_law_909 (lv_at hl 4 rfl) ?_
  refine lv_iconst hx hb dL_law_911 rfl ?_
  refine zr_iadd hF dL_law_912 ?_
  refine zl_sld hF hw hX ⟨by omega, by omega⟩ dL_law_913 ?_
  rw [ha1]
  refine lv_aload_n hx hb dL_law_914 rfl (lv_at hl 0 rfl) ?_
  refine lv_iload hx hb dL_law_915 (lv_at hl 4 rfl) ?_
  refine lv_iconst hx hb dL_law_917 rfl ?_
  refine zr_iadd hF dL_law_918 ?_
  refine zl_sld hF hw hX ⟨by omega, by omega⟩ dL_law_919 ?_
  rw [ha2]
  refine lv_aload_n hx hb dL_law_920 rfl (lv_at hl 3 rfl) ?_
  obtain ⟨r1, g1, h1, h⟩ := zbd_some h
  refine zl_callW (n := 4) (As := [z_r N 0 0, z_v a1, z_v a2, z_r N 17 0]) (rest := []) hF hw (czL_rate l hT X N h1) (z_goodSW qw_688 qw_689 qw_35 qw_690) (by decide +kernel) ⟨Nat.le_of_ble_eq_true rfl, Nat.le_of_ble_eq_true rfl⟩ rfl hl.1 rfl (Nat.le_of_ble_eq_true rfl) dL_law_921 hcs0 ⟨Nat.le_of_ble_eq_true rfl, Nat.le_of_ble_eq_true rfl⟩ (fun N cells1 slots1 H locs hsm hcl hw => ?_)
  have hl := z_hl hsm hl
  have hcs : cells1 ≤ zRL.cells ∧ slots1 ≤ zRL.slots := z_hcs hcs0 hcl
  clear h1
  generalize g1 = g at *
  refine lv_istore (lv' := [(5, z_v r1), (0, .ref b), (1, z_r N 0 0), (2, z_r N 6 0), (3, z_r N 17 0), (4, z_v i)]) hx hb dL_law_924 hl (by decide) rfl (fun ls hl => ?_)
  refine lv_aload_n hx hb dL_law_926 rfl (lv_at hl 3 rfl) ?_
  refine lv_aload_n hx hb dL_law_927 rfl (lv_at hl 1 rfl) ?_
  refine lv_iload hx hb dL_law_928 (lv_at hl 5 rfl) ?_
  refine lv_iconst hx hb dL_law_930 rfl ?_
  refine zr_iadd hF dL_law_931 ?_
  refine zl_sld hF hw hX ⟨by omega, by omega⟩ dL_law_932 ?_
  rw [ha1]
  refine lv_aload_n hx hb dL_law_933 rfl (lv_at hl 1 rfl) ?_
  refine lv_iload hx hb dL_law_934 (lv_at hl 5 rfl) ?_
  refine lv_iconst hx hb dL_law_936 rfl ?_
  refine zr_iadd hF dL_law_937 ?_
  refine zl_sld hF hw hX ⟨by omega, by omega⟩ dL_law_938 ?_
  rw [ha2]
  obtain ⟨r2, g1, h1, h⟩ := zbd_some h
  refine zr_callVi (n := 2) (As := [z_v a1, z_v a2]) (rest := []) hF hw (czX5_rate l X N h1) zEf_6_0 (by decide) zC_6 (z_goodV qw_996 qw_997 qw_998 qw_42 qw_999) (by decide +kernel) ⟨Nat.le_of_ble_eq_true rfl, Nat.le_of_ble_eq_true rfl⟩ ⟨rfl, rfl⟩ rfl hl.1 rfl (Nat.le_of_ble_eq_true rfl) dL_law_939 hcs (fun H locs hw => ?_)
  clear h1
  generalize g1 = g at *
  refine lv_istore (lv' := [(6, z_v r2), (5, z_v r1), (0, .ref b), (1, z_r N 0 0), (2, z_r N 6 0), (3, z_r N 17 0), (4, z_v i)]) hx hb dL_law_942 hl (by decide) rfl (fun ls hl => ?_)
  refine lv_aload_n hx hb dL_law_944 rfl (lv_at hl 4 rfl) ?_
  obtain ⟨r3, g1, h1, h⟩ := zbd_some h
  refine zr_callVi (n := 0) (As := []) (rest := []) hF hw (czX5_thrown l X N h1) zEf_6_0 (by decide) zC_6 (z_goodV qw_914 qw_915 qw_916 qw_42 qw_917) (by decide +kernel) ⟨Nat.le_of_ble_eq_true rfl, Nat.le_of_ble_eq_true rfl⟩ ⟨rfl, rfl⟩ rfl hl.1 rfl (Nat.le_of_ble_eq_true rfl) dL_law_945 hcs (fun H locs hw => ?_)
  clear h1
  generalize g1 = g at *
  refine lv_iload hx hb dL_law_948 (lv_at hl 1 rfl) ?_
  refine zr_icmp_eq (tgt := 955) hF h dL_law_950 (by decide) (fun h => ?_) (fun h => ?_)
  · refine lv_iload hx hb dL_law_955 (lv_at hl 1 rfl) ?_
    refine zr_if_ne (tgt := 972) hF h dL_law_957 (by decide) (fun h => ?_) (fun h => ?_)
    · refine lv_goto (tgt := 1688) hx hb dL_law_972 (by decide) ?_
      cases h
      exact kk N cells1 slots1 H locs ls hsm hcl hw (lv_sub hl [2, 3, 4, 5, 6] rfl)
    · refine lv_aload_n hx hb dL_law_960 rfl (lv_at hl 5 rfl) ?_
      refine lv_iconst hx hb dL_law_961 rfl ?_
      refine zr_lald hF hw zEf_17_0 h dL_law_962 (fun h => ?_)
      refine lv_iload hx hb dL_law_963 (lv_at hl 0 rfl) ?_
      refine zr_i2l hF h dL_law_965 (fun h => ?_)
      refine zr_lcmp hF h dL_law_966 (fun h => ?_)
      refine zr_if_eq (tgt := 972) hF h dL_law_967 (by decide) (fun h => ?_) (fun h => ?_)
      · refine lv_goto (tgt := 1688) hx hb dL_law_972 (by decide) ?_
        cases h
        exact kk N cells1 slots1 H locs ls hsm hcl hw (lv_sub hl [2, 3, 4, 5, 6] rfl)
      · refine lv_iconst hx hb dL_law_970 rfl ?_
        exact nomatch h
  · refine lv_iconst hx hb dL_law_953 rfl ?_
    exact nomatch h
set_option maxHeartbeats 4000000 in
set_option maxRecDepth 100000 in
theorem wLc11 {p : Program} {l : Launch} {e : Env} {s : State} {m : MethodId} {args : Array Value} {below : List Frame} {meth : Method} {c : Code} {H : Heap} {locs : List Loc} {cells slots : Nat} {Q : State → Prop} {ls : Array Slot} {X : zC} {N : zN} {g g' : zG} {b L n : Nat} {xs : Nat → Int32} {i a1 a2 a3 a4 : Int} (hF : zF p s m args meth c X cL_law 7 RL) (hT : l.stackTraces = false) (hX : zX_ b L xs s X) (hi : 0 ≤ i ∧ i + 4 < L) (ha1 : zxs xs (i + 1) = a1) (ha2 : zxs xs (i + 2) = a2) (ha3 : zxs xs (i + 3) = a3) (ha4 : zxs xs (i + 4) = a4) (hnp : zNp N) (hw : zH X N g s H locs) (hl : lv_has ls 7 [(0, .ref b), (1, z_r N 0 0), (2, z_r N 6 0), (3, z_r N 17 0), (4, z_v i)]) (hcs0 : cells + 6 ≤ 601024 ∧ slots + 80 ≤ 7293034) (h : sLc11 n a1 a2 a3 a4 g = some g') (kk : ∀ (N2 : zN) (cells2 slots2 : Nat) (H : Heap) (locs : List Loc) (ls : Array Slot), zSame N N2 → (cells2 ≤ cells + 6 ∧ slots2 ≤ slots + 80) → zH X N2 g' s H locs → lv_has ls 7 [(0, .ref b), (1, z_r N2 0 0), (2, z_r N2 6 0), (3, z_r N2 17 0), (4, z_v i)] → W p l e zRL s m args below meth c H locs cells2 slots2 Q (F0 m 1688 ls [])) : W p l e zRL s m args below meth c H locs cells slots Q (F0 m 975 ls []) := by
  have hx := hF.1.1
  have hb := hF.1.2.1
  unfold sLc11 at h
  refine lv_aload_n hx hb dL_law_975 rfl (lv_at hl 1 rfl) ?_
  refine lv_aload_n hx hb dL_law_976 rfl (lv_at hl 0 rfl) ?_
  refine lv_iload hx hb dL_law_977 (lv_at hl 4 rfl) ?_
  refine lv_iconst hx hb dL_law_979 rfl ?_
  refine zr_iadd hF dL_law_980 ?_
  refine zl_sld hF hw hX ⟨by omega, by omega⟩ dL_law_981 ?_
  rw [ha1]
  obtain ⟨r1, g1, h1, h⟩ := zbd_some h
  refine zl_callW (n := 2) (As := [z_r N 0 0, z_v a1]) (rest := []) hF hw (czL_end l hT X N h1) (z_goodSW qw_704 qw_705 qw_35 qw_706) (by decide +kernel) ⟨Nat.le_of_ble_eq_true rfl, Nat.le_of_ble_eq_true rfl⟩ rfl hl.1 rfl (Nat.le_of_ble_eq_true rfl) dL_law_982 hcs0 ⟨Nat.le_of_ble_eq_true rfl, Nat.le_of_ble_eq_true rfl⟩ (fun N cells1 slots1 H locs hsm hcl hw => ?_)
  have hl := z_hl hsm hl
  have hcs : cells1 ≤ zRL.cells ∧ slots1 ≤ zRL.slots := z_hcs hcs0 hcl
  clear h1
  generalize g1 = g at *
  refine lv_istore (lv' := [(5, z_v r1), (0, .ref b), (1, z_r N 0 0), (2, z_r N 6 0), (3, z_r N 17 0), (4, z_v i)]) hx hb dL_law_985 hl (by decide) rfl (fun ls hl => ?_)
  refine lv_aload_n hx hb dL_law_987 rfl (lv_at hl 3 rfl) ?_
  refine lv_aload_n hx hb dL_law_988 rfl (lv_at hl 1 rfl) ?_
  refine lv_iload hx hb dL_law_989 (lv_at hl 5 rfl) ?_
  refine lv_iconst hx hb dL_law_991 rfl ?_
  refine zr_iadd hF dL_law_992 ?_
  refine zl_sld hF hw hX ⟨by omega, by omega⟩ dL_law_993 ?_
  rw [ha1]
  obtain ⟨r2, g1, h1, h⟩ := zbd_some h
  refine zr_callVv (n := 1) (As := [z_v a1]) (rest := []) hF hw (czX5_end l X N h1) zEf_6_0 (by decide) zC_6 (z_goodV qw_1004 qw_1005 qw_1006 qw_42 qw_1007) (by decide +kernel) ⟨Nat.le_of_ble_eq_true rfl, Nat.le_of_ble_eq_true rfl⟩ ⟨rfl, rfl⟩ rfl hl.1 rfl (Nat.le_of_ble_eq_true rfl) dL_law_994 hcs (fun H locs hw => ?_)
  clear h1
  generalize g1 = g at *
  refine lv_aload_n hx hb dL_law_997 rfl (lv_at hl 3 rfl) ?_
  obtain ⟨r3, g1, h1, h⟩ := zbd_some h
  refine zr_callVi (n := 0) (As := []) (rest := []) hF hw (czX5_thrown l X N h1) zEf_6_0 (by decide) zC_6 (z_goodV qw_914 qw_915 qw_916 qw_42 qw_917) (by decide +kernel) ⟨Nat.le_of_ble_eq_true rfl, Nat.le_of_ble_eq_true rfl⟩ ⟨rfl, rfl⟩ rfl hl.1 rfl (Nat.le_of_ble_eq_true rfl) dL_law_998 hcs (fun H locs hw => ?_)
  clear h1
  generalize g1 = g at *
  refine lv_iload hx hb dL_law_1001 (lv_at hl 0 rfl) ?_
  refine zr_icmp_eq (tgt := 1008) hF h dL_law_1003 (by decide) (fun h => ?_) (fun h => ?_)
  · refine lv_goto (tgt := 1688) hx hb dL_law_1008 (by decide) ?_
    cases h
    exact kk N cells1 slots1 H locs ls hsm hcl hw (lv_sub hl [1, 2, 3, 4, 5] rfl)
  · refine lv_iconst hx hb dL_law_1006 rfl ?_
    exact nomatch h
set_option maxHeartbeats 4000000 in
set_option maxRecDepth 100000 in
theorem wLc12 {p : Program} {l : Launch} {e : Env} {s : State} {m : MethodId} {args : Array Value} {below : List Frame} {meth : Method} {c : Code} {H : Heap} {locs : List Loc} {cells slots : Nat} {Q : State → Prop} {ls : Array Slot} {X : zC} {N : zN} {g g' : zG} {b L n : Nat} {xs : Nat → Int32} {i a1 a2 a3 a4 : Int} (hF : zF p s m args meth c X cL_law 7 RL) (hT : l.stackTraces = false) (hX : zX_ b L xs s X) (hi : 0 ≤ i ∧ i + 4 < L) (ha1 : zxs xs (i + 1) = a1) (ha2 : zxs xs (i + 2) = a2) (ha3 : zxs xs (i + 3) = a3) (ha4 : zxs xs (i + 4) = a4) (hnp : zNp N) (hw : zH X N g s H locs) (hl : lv_has ls 7 [(0, .ref b), (1, z_r N 0 0), (2, z_r N 6 0), (3, z_r N 17 0), (4, z_v i)]) (hcs0 : cells + 6 ≤ 601024 ∧ slots + 80 ≤ 7293034) (h : sLc12 n a1 a2 a3 a4 g = some g') (kk : ∀ (N2 : zN) (cells2 slots2 : Nat) (H : Heap) (locs : List Loc) (ls : Array Slot), zSame N N2 → (cells2 ≤ cells + 6 ∧ slots2 ≤ slots + 80) → zH X N2 g' s H locs → lv_has ls 7 [(0, .ref b), (1, z_r N2 0 0), (2, z_r N2 6 0), (3, z_r N2 17 0), (4, z_v i)] → W p l e zRL s m args below meth c H locs cells2 slots2 Q (F0 m 1688 ls [])) : W p l e zRL s m args below meth c H locs cells slots Q (F0 m 1011 ls []) := by
  have hx := hF.1.1
  have hb := hF.1.2.1
  unfold sLc12 at h
  refine lv_aload_n hx hb dL_law_1011 rfl (lv_at hl 1 rfl) ?_
  refine lv_aload_n hx hb dL_law_1012 rfl (lv_at hl 0 rfl) ?_
  refine lv_iload hx hb dL_law_1013 (lv_at hl 4 rfl) ?_
  refine lv_iconst hx hb dL_law_1015 rfl ?_
  refine zr_iadd hF dL_law_1016 ?_
  refine zl_sld hF hw hX ⟨by omega, by omega⟩ dL_law_1017 ?_
  rw [ha1]
  refine lv_aload_n hx hb dL_law_1018 rfl (lv_at hl 0 rfl) ?_
  refine lv_iload hx hb dL_law_1019 (lv_at hl 4 rfl) ?_
  refine lv_iconst hx hb dL_law_1021 rfl ?_
  refine zr_iadd hF dL_law_1022 ?_
  refine zl_sld hF hw hX ⟨by omega, by omega⟩ dL_law_1023 ?_
  rw [ha2]
  refine lv_aload_n hx hb dL_law_1024 rfl (lv_at hl 3 rfl) ?_
  obtain ⟨r1, g1, h1, h⟩ := zbd_some h
  refine zl_callW (n := 4) (As := [z_r N 0 0, z_v a1, z_v a2, z_r N 17 0]) (rest := []) hF hw (czL_regulationIs l hT X N h1) (z_goodSW qw_711 qw_712 qw_35 qw_713) (by decide +kernel) ⟨Nat.le_of_ble_eq_true rfl, Nat.le_of_ble_eq_true rfl⟩ rfl hl.1 rfl (Nat.le_of_ble_eq_true rfl) dL_law_1025 hcs0 ⟨Nat.le_of_ble_eq_true rfl, Nat.le_of_ble_eq_true rfl⟩ (fun N cells1 slots1 H locs hsm hcl hw => ?_)
  have hl := z_hl hsm hl
  have hcs : cells1 ≤ zRL.cells ∧ slots1 ≤ zRL.slots := z_hcs hcs0 hcl
  clear h1
  generalize g1 = g at *
  refine lv_istore (lv' := [(5, z_v r1), (0, .ref b), (1, z_r N 0 0), (2, z_r N 6 0), (3, z_r N 17 0), (4, z_v i)]) hx hb dL_law_1028 hl (by decide) rfl (fun ls hl => ?_)
  refine lv_aload_n hx hb dL_law_1030 rfl (lv_at hl 3 rfl) ?_
  refine lv_aload_n hx hb dL_law_1031 rfl (lv_at hl 1 rfl) ?_
  refine lv_iload hx hb dL_law_1032 (lv_at hl 5 rfl) ?_
  refine lv_iconst hx hb dL_law_1034 rfl ?_
  refine zr_iadd hF dL_law_1035 ?_
  refine zl_sld hF hw hX ⟨by omega, by omega⟩ dL_law_1036 ?_
  rw [ha1]
  refine lv_aload_n hx hb dL_law_1037 rfl (lv_at hl 1 rfl) ?_
  refine lv_iload hx hb dL_law_1038 (lv_at hl 5 rfl) ?_
  refine lv_iconst hx hb dL_law_1040 rfl ?_
  refine zr_iadd hF dL_law_1041 ?_
  refine zl_sld hF hw hX ⟨by omega, by omega⟩ dL_law_1042 ?_
  rw [ha2]
  obtain ⟨r2, g1, h1, h⟩ := zbd_some h
  refine zr_callVi (n := 2) (As := [z_v a1, z_v a2]) (rest := []) hF hw (czX5_regulationIs l X N h1) zEf_6_0 (by decide) zC_6 (z_goodV qw_1008 qw_1009 qw_1010 qw_42 qw_1011) (by decide +kernel) ⟨Nat.le_of_ble_eq_true rfl, Nat.le_of_ble_eq_true rfl⟩ ⟨rfl, rfl⟩ rfl hl.1 rfl (Nat.le_of_ble_eq_true rfl) dL_law_1043 hcs (fun H locs hw => ?_)
  clear h1
  generalize g1 = g at *
  refine lv_istore (lv' := [(6, z_v r2), (5, z_v r1), (0, .ref b), (1, z_r N 0 0), (2, z_r N 6 0), (3, z_r N 17 0), (4, z_v i)]) hx hb dL_law_1046 hl (by decide) rfl (fun ls hl => ?_)
  refine lv_aload_n hx hb dL_law_1048 rfl (lv_at hl 4 rfl) ?_
  obtain ⟨r3, g1, h1, h⟩ := zbd_some h
  refine zr_callVi (n := 0) (As := []) (rest := []) hF hw (czX5_thrown l X N h1) zEf_6_0 (by decide) zC_6 (z_goodV qw_914 qw_915 qw_916 qw_42 qw_917) (by decide +kernel) ⟨Nat.le_of_ble_eq_true rfl, Nat.le_of_ble_eq_true rfl⟩ ⟨rfl, rfl⟩ rfl hl.1 rfl (Nat.le_of_ble_eq_true rfl) dL_law_1049 hcs (fun H locs hw => ?_)
  clear h1
  generalize g1 = g at *
  refine lv_iload hx hb dL_law_1052 (lv_at hl 1 rfl) ?_
  refine zr_icmp_eq (tgt := 1059) hF h dL_law_1054 (by decide) (fun h => ?_) (fun h => ?_)
  · refine lv_iload hx hb dL_law_1059 (lv_at hl 1 rfl) ?_
    refine zr_if_ne (tgt := 1076) hF h dL_law_1061 (by decide) (fun h => ?_) (fun h => ?_)
    · refine lv_goto (tgt := 1688) hx hb dL_law_1076 (by decide) ?_
      cases h
      exact kk N cells1 slots1 H locs ls hsm hcl hw (lv_sub hl [2, 3, 4, 5, 6] rfl)
    · refine lv_aload_n hx hb dL_law_1064 rfl (lv_at hl 5 rfl) ?_
      refine lv_iconst hx hb dL_law_1065 rfl ?_
      refine zr_lald hF hw zEf_17_0 h dL_law_1066 (fun h => ?_)
      refine lv_iload hx hb dL_law_1067 (lv_at hl 0 rfl) ?_
      refine zr_i2l hF h dL_law_1069 (fun h => ?_)
      refine zr_lcmp hF h dL_law_1070 (fun h => ?_)
      refine zr_if_eq (tgt := 1076) hF h dL_law_1071 (by decide) (fun h => ?_) (fun h => ?_)
      · refine lv_goto (tgt := 1688) hx hb dL_law_1076 (by decide) ?_
        cases h
        exact kk N cells1 slots1 H locs ls hsm hcl hw (lv_sub hl [2, 3, 4, 5, 6] rfl)
      · refine lv_iconst hx hb dL_law_1074 rfl ?_
        exact nomatch h
  · refine lv_iconst hx hb dL_law_1057 rfl ?_
    exact nomatch h
set_option maxHeartbeats 4000000 in
set_option maxRecDepth 100000 in
theorem wLc13 {p : Program} {l : Launch} {e : Env} {s : State} {m : MethodId} {args : Array Value} {below : List Frame} {meth : Method} {c : Code} {H : Heap} {locs : List Loc} {cells slots : Nat} {Q : State → Prop} {ls : Array Slot} {X : zC} {N : zN} {g g' : zG} {b L n : Nat} {xs : Nat → Int32} {i a1 a2 a3 a4 : Int} (hF : zF p s m args meth c X cL_law 7 RL) (hT : l.stackTraces = false) (hX : zX_ b L xs s X) (hi : 0 ≤ i ∧ i + 4 < L) (ha1 : zxs xs (i + 1) = a1) (ha2 : zxs xs (i + 2) = a2) (ha3 : zxs xs (i + 3) = a3) (ha4 : zxs xs (i + 4) = a4) (hnp : zNp N) (hw : zH X N g s H locs) (hl : lv_has ls 7 [(0, .ref b), (1, z_r N 0 0), (2, z_r N 6 0), (3, z_r N 17 0), (4, z_v i)]) (hcs0 : cells + 6 ≤ 601024 ∧ slots + 80 ≤ 7293034) (h : sLc13 n a1 a2 a3 a4 g = some g') (kk : ∀ (N2 : zN) (cells2 slots2 : Nat) (H : Heap) (locs : List Loc) (ls : Array Slot), zSame N N2 → (cells2 ≤ cells + 6 ∧ slots2 ≤ slots + 80) → zH X N2 g' s H locs → lv_has ls 7 [(0, .ref b), (1, z_r N2 0 0), (2, z_r N2 6 0), (3, z_r N2 17 0), (4, z_v i)] → W p l e zRL s m args below meth c H locs cells2 slots2 Q (F0 m 1688 ls [])) : W p l e zRL s m args below meth c H locs cells slots Q (F0 m 1079 ls []) := by
  have hx := hF.1.1
  have hb := hF.1.2.1
  unfold sLc13 at h
  refine lv_aload_n hx hb dL_law_1079 rfl (lv_at hl 1 rfl) ?_
  refine lv_aload_n hx hb dL_law_1080 rfl (lv_at hl 0 rfl) ?_
  refine lv_iload hx hb dL_law_1081 (lv_at hl 4 rfl) ?_
  refine lv_iconst hx hb dL_law_1083 rfl ?_
  refine zr_iadd hF dL_law_1084 ?_
  refine zl_sld hF hw hX ⟨by omega, by omega⟩ dL_law_1085 ?_
  rw [ha1]
  refine lv_aload_n hx hb dL_law_1086 rfl (lv_at hl 0 rfl) ?_
  refine lv_iload hx hb dL_law_1087 (lv_at hl 4 rfl) ?_
  refine lv_iconst hx hb dL_law_1089 rfl ?_
  refine zr_iadd hF dL_law_1090 ?_
  refine zl_sld hF hw hX ⟨by omega, by omega⟩ dL_law_1091 ?_
  rw [ha2]
  refine lv_aload_n hx hb dL_law_1092 rfl (lv_at hl 3 rfl) ?_
  obtain ⟨r1, g1, h1, h⟩ := zbd_some h
  refine zl_callW (n := 4) (As := [z_r N 0 0, z_v a1, z_v a2, z_r N 17 0]) (rest := []) hF hw (czL_slot l hT X N h1) (z_goodSW qw_727 qw_728 qw_35 qw_729) (by decide +kernel) ⟨Nat.le_of_ble_eq_true rfl, Nat.le_of_ble_eq_true rfl⟩ rfl hl.1 rfl (Nat.le_of_ble_eq_true rfl) dL_law_1093 hcs0 ⟨Nat.le_of_ble_eq_true rfl, Nat.le_of_ble_eq_true rfl⟩ (fun N cells1 slots1 H locs hsm hcl hw => ?_)
  have hl := z_hl hsm hl
  have hcs : cells1 ≤ zRL.cells ∧ slots1 ≤ zRL.slots := z_hcs hcs0 hcl
  clear h1
  generalize g1 = g at *
  refine lv_istore (lv' := [(5, z_v r1), (0, .ref b), (1, z_r N 0 0), (2, z_r N 6 0), (3, z_r N 17 0), (4, z_v i)]) hx hb dL_law_1096 hl (by decide) rfl (fun ls hl => ?_)
  refine lv_aload_n hx hb dL_law_1098 rfl (lv_at hl 3 rfl) ?_
  refine lv_aload_n hx hb dL_law_1099 rfl (lv_at hl 1 rfl) ?_
  refine lv_iload hx hb dL_law_1100 (lv_at hl 5 rfl) ?_
  refine lv_iconst hx hb dL_law_1102 rfl ?_
  refine zr_iadd hF dL_law_1103 ?_
  refine zl_sld hF hw hX ⟨by omega, by omega⟩ dL_law_1104 ?_
  rw [ha1]
  refine lv_aload_n hx hb dL_law_1105 rfl (lv_at hl 1 rfl) ?_
  refine lv_iload hx hb dL_law_1106 (lv_at hl 5 rfl) ?_
  refine lv_iconst hx hb dL_law_1108 rfl ?_
  refine zr_iadd hF dL_law_1109 ?_
  refine zl_sld hF hw hX ⟨by omega, by omega⟩ dL_law_1110 ?_
  rw [ha2]
  obtain ⟨r2, g1, h1, h⟩ := zbd_some h
  refine zr_callVi (n := 2) (As := [z_v a1, z_v a2]) (rest := []) hF hw (czX5_slot l X N h1) zEf_6_0 (by decide) zC_6 (z_goodV qw_1040 qw_1041 qw_1042 qw_42 qw_1043) (by decide +kernel) ⟨Nat.le_of_ble_eq_true rfl, Nat.le_of_ble_eq_true rfl⟩ ⟨rfl, rfl⟩ rfl hl.1 rfl (Nat.le_of_ble_eq_true rfl) dL_law_1111 hcs (fun H locs hw => ?_)
  clear h1
  generalize g1 = g at *
  refine lv_istore (lv' := [(6, z_v r2), (5, z_v r1), (0, .ref b), (1, z_r N 0 0), (2, z_r N 6 0), (3, z_r N 17 0), (4, z_v i)]) hx hb dL_law_1114 hl (by decide) rfl (fun ls hl => ?_)
  refine lv_aload_n hx hb dL_law_1116 rfl (lv_at hl 4 rfl) ?_
  obtain ⟨r3, g1, h1, h⟩ := zbd_some h
  refine zr_callVi (n := 0) (As := []) (rest := []) hF hw (czX5_thrown l X N h1) zEf_6_0 (by decide) zC_6 (z_goodV qw_914 qw_915 qw_916 qw_42 qw_917) (by decide +kernel) ⟨Nat.le_of_ble_eq_true rfl, Nat.le_of_ble_eq_true rfl⟩ ⟨rfl, rfl⟩ rfl hl.1 rfl (Nat.le_of_ble_eq_true rfl) dL_law_1117 hcs (fun H locs hw => ?_)
  clear h1
  generalize g1 = g at *
  refine lv_iload hx hb dL_law_1120 (lv_at hl 1 rfl) ?_
  refine zr_icmp_eq (tgt := 1127) hF h dL_law_1122 (by decide) (fun h => ?_) (fun h => ?_)
  · refine lv_iload hx hb dL_law_1127 (lv_at hl 1 rfl) ?_
    refine zr_if_ne (tgt := 1144) hF h dL_law_1129 (by decide) (fun h => ?_) (fun h => ?_)
    · refine lv_goto (tgt := 1688) hx hb dL_law_1144 (by decide) ?_
      cases h
      exact kk N cells1 slots1 H locs ls hsm hcl hw (lv_sub hl [2, 3, 4, 5, 6] rfl)
    · refine lv_aload_n hx hb dL_law_1132 rfl (lv_at hl 5 rfl) ?_
      refine lv_iconst hx hb dL_law_1133 rfl ?_
      refine zr_lald hF hw zEf_17_0 h dL_law_1134 (fun h => ?_)
      refine lv_iload hx hb dL_law_1135 (lv_at hl 0 rfl) ?_
      refine zr_i2l hF h dL_law_1137 (fun h => ?_)
      refine zr_lcmp hF h dL_law_1138 (fun h => ?_)
      refine zr_if_eq (tgt := 1144) hF h dL_law_1139 (by decide) (fun h => ?_) (fun h => ?_)
      · refine lv_goto (tgt := 1688) hx hb dL_law_1144 (by decide) ?_
        cases h
        exact kk N cells1 slots1 H locs ls hsm hcl hw (lv_sub hl [2, 3, 4, 5, 6] rfl)
      · refine lv_iconst hx hb dL_law_1142 rfl ?_
        exact nomatch h
  · refine lv_iconst hx hb dL_law_1125 rfl ?_
    exact nomatch h
set_option maxHeartbeats 4000000 in
set_option maxRecDepth 100000 in
theorem wLc14 {p : Program} {l : Launch} {e : Env} {s : State} {m : MethodId} {args : Array Value} {below : List Frame} {meth : Method} {c : Code} {H : Heap} {locs : List Loc} {cells slots : Nat} {Q : State → Prop} {ls : Array Slot} {X : zC} {N : zN} {g g' : zG} {b L n : Nat} {xs : Nat → Int32} {i a1 a2 a3 a4 : Int} (hF : zF p s m args meth c X cL_law 7 RL) (hT : l.stackTraces = false) (hX : zX_ b L xs s X) (hi : 0 ≤ i ∧ i + 4 < L) (ha1 : zxs xs (i + 1) = a1) (ha2 : zxs xs (i + 2) = a2) (ha3 : zxs xs (i + 3) = a3) (ha4 : zxs xs (i + 4) = a4) (hnp : zNp N) (hw : zH X N g s H locs) (hl : lv_has ls 7 [(0, .ref b), (1, z_r N 0 0), (2, z_r N 6 0), (3, z_r N 17 0), (4, z_v i)]) (hcs0 : cells + 6 ≤ 601024 ∧ slots + 80 ≤ 7293034) (h : sLc14 n a1 a2 a3 a4 g = some g') (kk : ∀ (N2 : zN) (cells2 slots2 : Nat) (H : Heap) (locs : List Loc) (ls : Array Slot), zSame N N2 → (cells2 ≤ cells + 6 ∧ slots2 ≤ slots + 80) → zH X N2 g' s H locs → lv_has ls 7 [(0, .ref b), (1, z_r N2 0 0), (2, z_r N2 6 0), (3, z_r N2 17 0), (4, z_v i)] → W p l e zRL s m args below meth c H locs cells2 slots2 Q (F0 m 1688 ls [])) : W p l e zRL s m args below meth c H locs cells slots Q (F0 m 1147 ls []) := by
  have hx := hF.1.1
  have hb := hF.1.2.1
  unfold sLc14 at h
  refine lv_aload_n hx hb dL_law_1147 rfl (lv_at hl 1 rfl) ?_
  refine lv_aload_n hx hb dL_law_1148 rfl (lv_at hl 0 rfl) ?_
  refine lv_iload hx hb dL_law_1149 (lv_at hl 4 rfl) ?_
  refine lv_iconst hx hb dL_law_1151 rfl ?_
  refine zr_iadd hF dL_law_1152 ?_
  refine zl_sld hF hw hX ⟨by omega, by omega⟩ dL_law_1153 ?_
  rw [ha1]
  refine lv_aload_n hx hb dL_law_1154 rfl (lv_at hl 0 rfl) ?_
  refine lv_iload hx hb dL_law_1155 (lv_at hl 4 rfl) ?_
  refine lv_iconst hx hb dL_law_1157 rfl ?_
  refine zr_iadd hF dL_law_1158 ?_
  refine zl_sld hF hw hX ⟨by omega, by omega⟩ dL_law_1159 ?_
  rw [ha2]
  refine lv_aload_n hx hb dL_law_1160 rfl (lv_at hl 3 rfl) ?_
  obtain ⟨r1, g1, h1, h⟩ := zbd_some h
  refine zl_callW (n := 4) (As := [z_r N 0 0, z_v a1, z_v a2, z_r N 17 0]) (rest := []) hF hw (czL_penalty l hT X N h1) (z_goodSW qw_737 qw_738 qw_35 qw_739) (by decide +kernel) ⟨Nat.le_of_ble_eq_true rfl, Nat.le_of_ble_eq_true rfl⟩ rfl hl.1 rfl (Nat.le_of_ble_eq_true rfl) dL_law_1161 hcs0 ⟨Nat.le_of_ble_eq_true rfl, Nat.le_of_ble_eq_true rfl⟩ (fun N cells1 slots1 H locs hsm hcl hw => ?_)
  have hl := z_hl hsm hl
  have hcs : cells1 ≤ zRL.cells ∧ slots1 ≤ zRL.slots := z_hcs hcs0 hcl
  clear h1
  generalize g1 = g at *
  refine lv_istore (lv' := [(5, z_v r1), (0, .ref b), (1, z_r N 0 0), (2, z_r N 6 0), (3, z_r N 17 0), (4, z_v i)]) hx hb dL_law_1164 hl (by decide) rfl (fun ls hl => ?_)
  refine lv_aload_n hx hb dL_law_1166 rfl (lv_at hl 3 rfl) ?_
  refine lv_aload_n hx hb dL_law_1167 rfl (lv_at hl 1 rfl) ?_
  refine lv_iload hx hb dL_law_1168 (lv_at hl 5 rfl) ?_
  refine lv_iconst hx hb dL_law_1170 rfl ?_
  refine zr_iadd hF dL_law_1171 ?_
  refine zl_sld hF hw hX ⟨by omega, by omega⟩ dL_law_1172 ?_
  rw [ha1]
  refine lv_aload_n hx hb dL_law_1173 rfl (lv_at hl 1 rfl) ?_
  refine lv_iload hx hb dL_law_1174 (lv_at hl 5 rfl) ?_
  refine lv_iconst hx hb dL_law_1176 rfl ?_
  refine zr_iadd hF dL_law_1177 ?_
  refine zl_sld hF hw hX ⟨by omega, by omega⟩ dL_law_1178 ?_
  rw [ha2]
  obtain ⟨r2, g1, h1, h⟩ := zbd_some h
  refine zr_callVi (n := 2) (As := [z_v a1, z_v a2]) (rest := []) hF hw (czX5_penalty l X N h1) zEf_6_0 (by decide) zC_6 (z_goodV qw_1044 qw_1045 qw_1046 qw_42 qw_1047) (by decide +kernel) ⟨Nat.le_of_ble_eq_true rfl, Nat.le_of_ble_eq_true rfl⟩ ⟨rfl, rfl⟩ rfl hl.1 rfl (Nat.le_of_ble_eq_true rfl) dL_law_1179 hcs (fun H locs hw => ?_)
  clear h1
  generalize g1 = g at *
  refine lv_istore (lv' := [(6, z_v r2), (5, z_v r1), (0, .ref b), (1, z_r N 0 0), (2, z_r N 6 0), (3, z_r N 17 0), (4, z_v i)]) hx hb dL_law_1182 hl (by decide) rfl (fun ls hl => ?_)
  refine lv_aload_n hx hb dL_law_1184 rfl (lv_at hl 4 rfl) ?_
  obtain ⟨r3, g1, h1, h⟩ := zbd_some h
  refine zr_callVi (n := 0) (As := []) (rest := []) hF hw (czX5_thrown l X N h1) zEf_6_0 (by decide) zC_6 (z_goodV qw_914 qw_915 qw_916 qw_42 qw_917) (by decide +kernel) ⟨Nat.le_of_ble_eq_true rfl, Nat.le_of_ble_eq_true rfl⟩ ⟨rfl, rfl⟩ rfl hl.1 rfl (Nat.le_of_ble_eq_true rfl) dL_law_1185 hcs (fun H locs hw => ?_)
  clear h1
  generalize g1 = g at *
  refine lv_iload hx hb dL_law_1188 (lv_at hl 1 rfl) ?_
  refine zr_icmp_eq (tgt := 1195) hF h dL_law_1190 (by decide) (fun h => ?_) (fun h => ?_)
  · refine lv_iload hx hb dL_law_1195 (lv_at hl 1 rfl) ?_
    refine zr_if_ne (tgt := 1212) hF h dL_law_1197 (by decide) (fun h => ?_) (fun h => ?_)
    · refine lv_goto (tgt := 1688) hx hb dL_law_1212 (by decide) ?_
      cases h
      exact kk N cells1 slots1 H locs ls hsm hcl hw (lv_sub hl [2, 3, 4, 5, 6] rfl)
    · refine lv_aload_n hx hb dL_law_1200 rfl (lv_at hl 5 rfl) ?_
      refine lv_iconst hx hb dL_law_1201 rfl ?_
      refine zr_lald hF hw zEf_17_0 h dL_law_1202 (fun h => ?_)
      refine lv_iload hx hb dL_law_1203 (lv_at hl 0 rfl) ?_
      refine zr_i2l hF h dL_law_1205 (fun h => ?_)
      refine zr_lcmp hF h dL_law_1206 (fun h => ?_)
      refine zr_if_eq (tgt := 1212) hF h dL_law_1207 (by decide) (fun h => ?_) (fun h => ?_)
      · refine lv_goto (tgt := 1688) hx hb dL_law_1212 (by decide) ?_
        cases h
        exact kk N cells1 slots1 H locs ls hsm hcl hw (lv_sub hl [2, 3, 4, 5, 6] rfl)
      · refine lv_iconst hx hb dL_law_1210 rfl ?_
        exact nomatch h
  · refine lv_iconst hx hb dL_law_1193 rfl ?_
    exact nomatch h
set_option maxHeartbeats 4000000 in
set_option maxRecDepth 100000 in
theorem wLc15 {p : Program} {l : Launch} {e : Env} {s : State} {m : MethodId} {args : Array Value} {below : List Frame} {meth : Method} {c : Code} {H : Heap} {locs : List Loc} {cells slots : Nat} {Q : State → Prop} {ls : Array Slot} {X : zC} {N : zN} {g g' : zG} {b L n : Nat} {xs : Nat → Int32} {i a1 a2 a3 a4 : Int} (hF : zF p s m args meth c X cL_law 7 RL) (hT : l.stackTraces = false) (hX : zX_ b L xs s X) (hi : 0 ≤ i ∧ i + 4 < L) (ha1 : zxs xs (i + 1) = a1) (ha2 : zxs xs (i + 2) = a2) (ha3 : zxs xs (i + 3) = a3) (ha4 : zxs xs (i + 4) = a4) (hnp : zNp N) (hw : zH X N g s H locs) (hl : lv_has ls 7 [(0, .ref b), (1, z_r N 0 0), (2, z_r N 6 0), (3, z_r N 17 0), (4, z_v i)]) (hcs0 : cells + 6 ≤ 601024 ∧ slots + 80 ≤ 7293034) (h : sLc15 n a1 a2 a3 a4 g = some g') (kk : ∀ (N2 : zN) (cells2 slots2 : Nat) (H : Heap) (locs : List Loc) (ls : Array Slot), zSame N N2 → (cells2 ≤ cells + 6 ∧ slots2 ≤ slots + 80) → zH X N2 g' s H locs → lv_has ls 7 [(0, .ref b), (1, z_r N2 0 0), (2, z_r N2 6 0), (3, z_r N2 17 0), (4, z_v i)] → W p l e zRL s m args below meth c H locs cells2 slots2 Q (F0 m 1688 ls [])) : W p l e zRL s m args below meth c H locs cells slots Q (F0 m 1215 ls []) := by
  have hx := hF.1.1
  have hb := hF.1.2.1
  unfold sLc15 at h
  refine lv_aload_n hx hb dL_law_1215 rfl (lv_at hl 1 rfl) ?_
  refine lv_aload_n hx hb dL_law_1216 rfl (lv_at hl 0 rfl) ?_
  refine lv_iload hx hb dL_law_1217 (lv_at hl 4 rfl) ?_
  refine lv_iconst hx hb dL_law_1219 rfl ?_
  refine zr_iadd hF dL_law_1220 ?_
  refine zl_sld hF hw hX ⟨by omega, by omega⟩ dL_law_1221 ?_
  rw [ha1]
  refine lv_aload_n hx hb dL_law_1222 rfl (lv_at hl 3 rfl) ?_
  obtain ⟨r1, g1, h1, h⟩ := zbd_some h
  refine zl_callW (n := 3) (As := [z_r N 0 0, z_v a1, z_r N 17 0]) (rest := []) hF hw (czL_due l hT X N h1) (z_goodSW qw_744 qw_745 qw_35 qw_746) (by decide +kernel) ⟨Nat.le_of_ble_eq_true rfl, Nat.le_of_ble_eq_true rfl⟩ rfl hl.1 rfl (Nat.le_of_ble_eq_true rfl) dL_law_1223 hcs0 ⟨Nat.le_of_ble_eq_true rfl, Nat.le_of_ble_eq_true rfl⟩ (fun N cells1 slots1 H locs hsm hcl hw => ?_)
  have hl := z_hl hsm hl
  have hcs : cells1 ≤ zRL.cells ∧ slots1 ≤ zRL.slots := z_hcs hcs0 hcl
  clear h1
  generalize g1 = g at *
  refine lv_istore (lv' := [(5, z_v r1), (0, .ref b), (1, z_r N 0 0), (2, z_r N 6 0), (3, z_r N 17 0), (4, z_v i)]) hx hb dL_law_1226 hl (by decide) rfl (fun ls hl => ?_)
  refine lv_aload_n hx hb dL_law_1228 rfl (lv_at hl 3 rfl) ?_
  refine lv_aload_n hx hb dL_law_1229 rfl (lv_at hl 1 rfl) ?_
  refine lv_iload hx hb dL_law_1230 (lv_at hl 5 rfl) ?_
  refine lv_iconst hx hb dL_law_1232 rfl ?_
  refine zr_iadd hF dL_law_1233 ?_
  refine zl_sld hF hw hX ⟨by omega, by omega⟩ dL_law_1234 ?_
  rw [ha1]
  obtain ⟨r2, g1, h1, h⟩ := zbd_some h
  refine zr_callVi (n := 1) (As := [z_v a1]) (rest := []) hF hw (czX5_due l X N h1) zEf_6_0 (by decide) zC_6 (z_goodV qw_1048 qw_1049 qw_1050 qw_42 qw_1051) (by decide +kernel) ⟨Nat.le_of_ble_eq_true rfl, Nat.le_of_ble_eq_true rfl⟩ ⟨rfl, rfl⟩ rfl hl.1 rfl (Nat.le_of_ble_eq_true rfl) dL_law_1235 hcs (fun H locs hw => ?_)
  clear h1
  generalize g1 = g at *
  refine lv_istore (lv' := [(6, z_v r2), (5, z_v r1), (0, .ref b), (1, z_r N 0 0), (2, z_r N 6 0), (3, z_r N 17 0), (4, z_v i)]) hx hb dL_law_1238 hl (by decide) rfl (fun ls hl => ?_)
  refine lv_aload_n hx hb dL_law_1240 rfl (lv_at hl 4 rfl) ?_
  obtain ⟨r3, g1, h1, h⟩ := zbd_some h
  refine zr_callVi (n := 0) (As := []) (rest := []) hF hw (czX5_thrown l X N h1) zEf_6_0 (by decide) zC_6 (z_goodV qw_914 qw_915 qw_916 qw_42 qw_917) (by decide +kernel) ⟨Nat.le_of_ble_eq_true rfl, Nat.le_of_ble_eq_true rfl⟩ ⟨rfl, rfl⟩ rfl hl.1 rfl (Nat.le_of_ble_eq_true rfl) dL_law_1241 hcs (fun H locs hw => ?_)
  clear h1
  generalize g1 = g at *
  refine lv_iload hx hb dL_law_1244 (lv_at hl 1 rfl) ?_
  refine zr_icmp_eq (tgt := 1251) hF h dL_law_1246 (by decide) (fun h => ?_) (fun h => ?_)
  · refine lv_iload hx hb dL_law_1251 (lv_at hl 1 rfl) ?_
    refine zr_if_ne (tgt := 1268) hF h dL_law_1253 (by decide) (fun h => ?_) (fun h => ?_)
    · refine lv_goto (tgt := 1688) hx hb dL_law_1268 (by decide) ?_
      cases h
      exact kk N cells1 slots1 H locs ls hsm hcl hw (lv_sub hl [2, 3, 4, 5, 6] rfl)
    · refine lv_aload_n hx hb dL_law_1256 rfl (lv_at hl 5 rfl) ?_
      refine lv_iconst hx hb dL_law_1257 rfl ?_
      refine zr_lald hF hw zEf_17_0 h dL_law_1258 (fun h => ?_)
      refine lv_iload hx hb dL_law_1259 (lv_at hl 0 rfl) ?_
      refine zr_i2l hF h dL_law_1261 (fun h => ?_)
      refine zr_lcmp hF h dL_law_1262 (fun h => ?_)
      refine zr_if_eq (tgt := 1268) hF h dL_law_1263 (by decide) (fun h => ?_) (fun h => ?_)
      · refine lv_goto (tgt := 1688) hx hb dL_law_1268 (by decide) ?_
        cases h
        exact kk N cells1 slots1 H locs ls hsm hcl hw (lv_sub hl [2, 3, 4, 5, 6] rfl)
      · refine lv_iconst hx hb dL_law_1266 rfl ?_
        exact nomatch h
  · refine lv_iconst hx hb dL_law_1249 rfl ?_
    exact nomatch h
set_option maxHeartbeats 4000000 in
set_option maxRecDepth 100000 in
theorem wLc16 {p : Program} {l : Launch} {e : Env} {s : State} {m : MethodId} {args : Array Value} {below : List Frame} {meth : Method} {c : Code} {H : Heap} {locs : List Loc} {cells slots : Nat} {Q : State → Prop} {ls : Array Slot} {X : zC} {N : zN} {g g' : zG} {b L n : Nat} {xs : Nat → Int32} {i a1 a2 a3 a4 : Int} (hF : zF p s m args meth c X cL_law 7 RL) (hT : l.stackTraces = false) (hX : zX_ b L xs s X) (hi : 0 ≤ i ∧ i + 4 < L) (ha1 : zxs xs (i + 1) = a1) (ha2 : zxs xs (i + 2) = a2) (ha3 : zxs xs (i + 3) = a3) (ha4 : zxs xs (i + 4) = a4) (hnp : zNp N) (hw : zH X N g s H locs) (hl : lv_has ls 7 [(0, .ref b), (1, z_r N 0 0), (2, z_r N 6 0), (3, z_r N 17 0), (4, z_v i)]) (hcs0 : cells + 6 ≤ 601024 ∧ slots + 80 ≤ 7293034) (h : sLc16 n a1 a2 a3 a4 g = some g') (kk : ∀ (N2 : zN) (cells2 slots2 : Nat) (H : Heap) (locs : List Loc) (ls : Array Slot), zSame N N2 → (cells2 ≤ cells + 6 ∧ slots2 ≤ slots + 80) → zH X N2 g' s H locs → lv_has ls 7 [(0, .ref b), (1, z_r N2 0 0), (2, z_r N2 6 0), (3, z_r N2 17 0), (4, z_v i)] → W p l e zRL s m args below meth c H locs cells2 slots2 Q (F0 m 1688 ls [])) : W p l e zRL s m args below meth c H locs cells slots Q (F0 m 1271 ls []) := by
  have hx := hF.1.1
  have hb := hF.1.2.1
  unfold sLc16 at h
  refine lv_aload_n hx hb dL_law_1271 rfl (lv_at hl 1 rfl) ?_
  refine lv_aload_n hx hb dL_law_1272 rfl (lv_at hl 0 rfl) ?_
  refine lv_iload hx hb dL_law_1273 (lv_at hl 4 rfl) ?_
  refine lv_iconst hx hb dL_law_1275 rfl ?_
  refine zr_iadd hF dL_law_1276 ?_
  refine zl_sld hF hw hX ⟨by omega, by omega⟩ dL_law_1277 ?_
  rw [ha1]
  refine lv_aload_n hx hb dL_law_1278 rfl (lv_at hl 3 rfl) ?_
  obtain ⟨r1, g1, h1, h⟩ := zbd_some h
  refine zl_callW (n := 3) (As := [z_r N 0 0, z_v a1, z_r N 17 0]) (rest := []) hF hw (czL_dueAnew l hT X N h1) (z_goodSW qw_751 qw_752 qw_35 qw_753) (by decide +kernel) ⟨Nat.le_of_ble_eq_true rfl, Nat.le_of_ble_eq_true rfl⟩ rfl hl.1 rfl (Nat.le_of_ble_eq_true rfl) dL_law_1279 hcs0 ⟨Nat.le_of_ble_eq_true rfl, Nat.le_of_ble_eq_true rfl⟩ (fun N cells1 slots1 H locs hsm hcl hw => ?_)
  have hl := z_hl hsm hl
  have hcs : cells1 ≤ zRL.cells ∧ slots1 ≤ zRL.slots := z_hcs hcs0 hcl
  clear h1
  generalize g1 = g at *
  refine lv_istore (lv' := [(5, z_v r1), (0, .ref b), (1, z_r N 0 0), (2, z_r N 6 0), (3, z_r N 17 0), (4, z_v i)]) hx hb dL_law_1282 hl (by decide) rfl (fun ls hl => ?_)
  refine lv_aload_n hx hb dL_law_1284 rfl (lv_at hl 3 rfl) ?_
  refine lv_aload_n hx hb dL_law_1285 rfl (lv_at hl 1 rfl) ?_
  refine lv_iload hx hb dL_law_1286 (lv_at hl 5 rfl) ?_
  refine lv_iconst hx hb dL_law_1288 rfl ?_
  refine zr_iadd hF dL_law_1289 ?_
  refine zl_sld hF hw hX ⟨by omega, by omega⟩ dL_law_1290 ?_
  rw [ha1]
  obtain ⟨r2, g1, h1, h⟩ := zbd_some h
  refine zr_callVi (n := 1) (As := [z_v a1]) (rest := []) hF hw (czX5_dueAnew l X N h1) zEf_6_0 (by decide) zC_6 (z_goodV qw_1064 qw_1065 qw_1066 qw_42 qw_1067) (by decide +kernel) ⟨Nat.le_of_ble_eq_true rfl, Nat.le_of_ble_eq_true rfl⟩ ⟨rfl, rfl⟩ rfl hl.1 rfl (Nat.le_of_ble_eq_true rfl) dL_law_1291 hcs (fun H locs hw => ?_)
  clear h1
  generalize g1 = g at *
  refine lv_istore (lv' := [(6, z_v r2), (5, z_v r1), (0, .ref b), (1, z_r N 0 0), (2, z_r N 6 0), (3, z_r N 17 0), (4, z_v i)]) hx hb dL_law_1294 hl (by decide) rfl (fun ls hl => ?_)
  refine lv_aload_n hx hb dL_law_1296 rfl (lv_at hl 4 rfl) ?_
  obtain ⟨r3, g1, h1, h⟩ := zbd_some h
  refine zr_callVi (n := 0) (As := []) (rest := []) hF hw (czX5_thrown l X N h1) zEf_6_0 (by decide) zC_6 (z_goodV qw_914 qw_915 qw_916 qw_42 qw_917) (by decide +kernel) ⟨Nat.le_of_ble_eq_true rfl, Nat.le_of_ble_eq_true rfl⟩ ⟨rfl, rfl⟩ rfl hl.1 rfl (Nat.le_of_ble_eq_true rfl) dL_law_1297 hcs (fun H locs hw => ?_)
  clear h1
  generalize g1 = g at *
  refine lv_iload hx hb dL_law_1300 (lv_at hl 1 rfl) ?_
  refine zr_icmp_eq (tgt := 1307) hF h dL_law_1302 (by decide) (fun h => ?_) (fun h => ?_)
  · refine lv_iload hx hb dL_law_1307 (lv_at hl 1 rfl) ?_
    refine zr_if_ne (tgt := 1324) hF h dL_law_1309 (by decide) (fun h => ?_) (fun h => ?_)
    · refine lv_goto (tgt := 1688) hx hb dL_law_1324 (by decide) ?_
      cases h
      exact kk N cells1 slots1 H locs ls hsm hcl hw (lv_sub hl [2, 3, 4, 5, 6] rfl)
    · refine lv_aload_n hx hb dL_law_1312 rfl (lv_at hl 5 rfl) ?_
      refine lv_iconst hx hb dL_law_1313 rfl ?_
      refine zr_lald hF hw zEf_17_0 h dL_law_1314 (fun h => ?_)
      refine lv_iload hx hb dL_law_1315 (lv_at hl 0 rfl) ?_
      refine zr_i2l hF h dL_law_1317 (fun h => ?_)
      refine zr_lcmp hF h dL_law_1318 (fun h => ?_)
      refine zr_if_eq (tgt := 1324) hF h dL_law_1319 (by decide) (fun h => ?_) (fun h => ?_)
      · refine lv_goto (tgt := 1688) hx hb dL_law_1324 (by decide) ?_
        cases h
        exact kk N cells1 slots1 H locs ls hsm hcl hw (lv_sub hl [2, 3, 4, 5, 6] rfl)
      · refine lv_iconst hx hb dL_law_1322 rfl ?_
        exact nomatch h
  · refine lv_iconst hx hb dL_law_1305 rfl ?_
    exact nomatch h
set_option maxHeartbeats 4000000 in
set_option maxRecDepth 100000 in
theorem wLc17 {p : Program} {l : Launch} {e : Env} {s : State} {m : MethodId} {args : Array Value} {below : List Frame} {meth : Method} {c : Code} {H : Heap} {locs : List Loc} {cells slots : Nat} {Q : State → Prop} {ls : Array Slot} {X : zC} {N : zN} {g g' : zG} {b L n : Nat} {xs : Nat → Int32} {i a1 a2 a3 a4 : Int} (hF : zF p s m args meth c X cL_law 7 RL) (hT : l.stackTraces = false) (hX : zX_ b L xs s X) (hi : 0 ≤ i ∧ i + 4 < L) (ha1 : zxs xs (i + 1) = a1) (ha2 : zxs xs (i + 2) = a2) (ha3 : zxs xs (i + 3) = a3) (ha4 : zxs xs (i + 4) = a4) (hnp : zNp N) (hw : zH X N g s H locs) (hl : lv_has ls 7 [(0, .ref b), (1, z_r N 0 0), (2, z_r N 6 0), (3, z_r N 17 0), (4, z_v i)]) (hcs0 : cells + 6 ≤ 601024 ∧ slots + 80 ≤ 7293034) (h : sLc17 n a1 a2 a3 a4 g = some g') (kk : ∀ (N2 : zN) (cells2 slots2 : Nat) (H : Heap) (locs : List Loc) (ls : Array Slot), zSame N N2 → (cells2 ≤ cells + 6 ∧ slots2 ≤ slots + 80) → zH X N2 g' s H locs → lv_has ls 7 [(0, .ref b), (1, z_r N2 0 0), (2, z_r N2 6 0), (3, z_r N2 17 0), (4, z_v i)] → W p l e zRL s m args below meth c H locs cells2 slots2 Q (F0 m 1688 ls [])) : W p l e zRL s m args below meth c H locs cells slots Q (F0 m 1327 ls []) := by
  have hx := hF.1.1
  have hb := hF.1.2.1
  unfold sLc17 at h
  have hsm : zSame N N := zSame.rf
  have hcl : cells ≤ cells + 6 ∧ slots ≤ slots + 80 := ⟨Nat.le_add_right _ _, Nat.le_add_right _ _⟩
  have hcs : cells ≤ zRL.cells ∧ slots ≤ zRL.slots := z_hcs hcs0 hcl
  refine lv_aload_n hx hb dL_law_1327 rfl (lv_at hl 1 rfl) ?_
  obtain ⟨r1, g1, h1, h⟩ := zbd_some h
  refine zr_callVi (n := 0) (As := []) (rest := []) hF hw (czX4_allDue l X N h1) zEf_0_0 (by decide) zC_0 (z_goodV qw_158 qw_159 qw_160 qw_36 qw_161) (by decide +kernel) ⟨Nat.le_of_ble_eq_true rfl, Nat.le_of_ble_eq_true rfl⟩ ⟨rfl, rfl⟩ rfl hl.1 rfl (Nat.le_of_ble_eq_true rfl) dL_law_1328 hcs (fun H locs hw => ?_)
  clear h1
  generalize g1 = g at *
  refine lv_aload_n hx hb dL_law_1331 rfl (lv_at hl 2 rfl) ?_
  obtain ⟨r2, g1, h1, h⟩ := zbd_some h
  refine zr_callVi (n := 0) (As := []) (rest := [z_v r1]) hF hw (czX5_allDue l X N h1) zEf_6_0 (by decide) zC_6 (z_goodV qw_1069 qw_1070 qw_1071 qw_42 qw_1072) (by decide +kernel) ⟨Nat.le_of_ble_eq_true rfl, Nat.le_of_ble_eq_true rfl⟩ ⟨rfl, rfl⟩ rfl hl.1 rfl (Nat.le_of_ble_eq_true rfl) dL_law_1332 hcs (fun H locs hw => ?_)
  clear h1
  generalize g1 = g at *
  refine zr_icmp_eq (tgt := 1688) hF h dL_law_1335 (by decide) (fun h => ?_) (fun h => ?_)
  · cases h
    exact kk N cells slots H locs ls hsm hcl hw (lv_sub hl [0, 1, 2, 3, 4] rfl)
  · refine lv_iconst hx hb dL_law_1338 rfl ?_
    exact nomatch h
set_option maxHeartbeats 4000000 in
set_option maxRecDepth 100000 in
theorem wLc18 {p : Program} {l : Launch} {e : Env} {s : State} {m : MethodId} {args : Array Value} {below : List Frame} {meth : Method} {c : Code} {H : Heap} {locs : List Loc} {cells slots : Nat} {Q : State → Prop} {ls : Array Slot} {X : zC} {N : zN} {g g' : zG} {b L n : Nat} {xs : Nat → Int32} {i a1 a2 a3 a4 : Int} (hF : zF p s m args meth c X cL_law 7 RL) (hT : l.stackTraces = false) (hX : zX_ b L xs s X) (hi : 0 ≤ i ∧ i + 4 < L) (ha1 : zxs xs (i + 1) = a1) (ha2 : zxs xs (i + 2) = a2) (ha3 : zxs xs (i + 3) = a3) (ha4 : zxs xs (i + 4) = a4) (hnp : zNp N) (hw : zH X N g s H locs) (hl : lv_has ls 7 [(0, .ref b), (1, z_r N 0 0), (2, z_r N 6 0), (3, z_r N 17 0), (4, z_v i)]) (hcs0 : cells + 6 ≤ 601024 ∧ slots + 80 ≤ 7293034) (h : sLc18 n a1 a2 a3 a4 g = some g') (kk : ∀ (N2 : zN) (cells2 slots2 : Nat) (H : Heap) (locs : List Loc) (ls : Array Slot), zSame N N2 → (cells2 ≤ cells + 6 ∧ slots2 ≤ slots + 80) → zH X N2 g' s H locs → lv_has ls 7 [(0, .ref b), (1, z_r N2 0 0), (2, z_r N2 6 0), (3, z_r N2 17 0), (4, z_v i)] → W p l e zRL s m args below meth c H locs cells2 slots2 Q (F0 m 1688 ls [])) : W p l e zRL s m args below meth c H locs cells slots Q (F0 m 1340 ls []) := by
  have hx := hF.1.1
  have hb := hF.1.2.1
  unfold sLc18 at h
  refine lv_aload_n hx hb dL_law_1340 rfl (lv_at hl 1 rfl) ?_
  refine lv_aload_n hx hb dL_law_1341 rfl (lv_at hl 0 rfl) ?_
  refine lv_iload hx hb dL_law_1342 (lv_at hl 4 rfl) ?_
  refine lv_iconst hx hb dL_law_1344 rfl ?_
  refine zr_iadd hF dL_law_1345 ?_
  refine zl_sld hF hw hX ⟨by omega, by omega⟩ dL_law_1346 ?_
  rw [ha1]
  refine lv_aload_n hx hb dL_law_1347 rfl (lv_at hl 0 rfl) ?_
  refine lv_iload hx hb dL_law_1348 (lv_at hl 4 rfl) ?_
  refine lv_iconst hx hb dL_law_1350 rfl ?_
  refine zr_iadd hF dL_law_1351 ?_
  refine zl_sld hF hw hX ⟨by omega, by omega⟩ dL_law_1352 ?_
  rw [ha2]
  refine lv_aload_n hx hb dL_law_1353 rfl (lv_at hl 0 rfl) ?_
  refine lv_iload hx hb dL_law_1354 (lv_at hl 4 rfl) ?_
  refine lv_iconst hx hb dL_law_1356 rfl ?_
  refine zr_iadd hF dL_law_1357 ?_
  refine zl_sld hF hw hX ⟨by omega, by omega⟩ dL_law_1358 ?_
  rw [ha3]
  refine lv_aload_n hx hb dL_law_1359 rfl (lv_at hl 0 rfl) ?_
  refine lv_iload hx hb dL_law_1360 (lv_at hl 4 rfl) ?_
  refine lv_iconst hx hb dL_law_1362 rfl ?_
  refine zr_iadd hF dL_law_1363 ?_
  refine zl_sld hF hw hX ⟨by omega, by omega⟩ dL_law_1364 ?_
  rw [ha4]
  refine lv_aload_n hx hb dL_law_1365 rfl (lv_at hl 3 rfl) ?_
  obtain ⟨r1, g1, h1, h⟩ := zbd_some h
  refine zl_callW (n := 6) (As := [z_r N 0 0, z_v a1, z_v a2, z_v a3, z_v a4, z_r N 17 0]) (rest := []) hF hw (czL_would l hT X N hnp h1) (z_goodSW qw_767 qw_768 qw_35 qw_769) (by decide +kernel) ⟨Nat.le_of_ble_eq_true rfl, Nat.le_of_ble_eq_true rfl⟩ rfl hl.1 rfl (Nat.le_of_ble_eq_true rfl) dL_law_1366 hcs0 ⟨Nat.le_of_ble_eq_true rfl, Nat.le_of_ble_eq_true rfl⟩ (fun N cells1 slots1 H locs hsm hcl hw => ?_)
  have hl := z_hl hsm hl
  have hcs : cells1 ≤ zRL.cells ∧ slots1 ≤ zRL.slots := z_hcs hcs0 hcl
  clear h1
  generalize g1 = g at *
  refine lv_istore (lv' := [(5, z_v r1), (0, .ref b), (1, z_r N 0 0), (2, z_r N 6 0), (3, z_r N 17 0), (4, z_v i)]) hx hb dL_law_1369 hl (by decide) rfl (fun ls hl => ?_)
  refine lv_aload_n hx hb dL_law_1371 rfl (lv_at hl 3 rfl) ?_
  refine lv_aload_n hx hb dL_law_1372 rfl (lv_at hl 1 rfl) ?_
  refine lv_iload hx hb dL_law_1373 (lv_at hl 5 rfl) ?_
  refine lv_iconst hx hb dL_law_1375 rfl ?_
  refine zr_iadd hF dL_law_1376 ?_
  refine zl_sld hF hw hX ⟨by omega, by omega⟩ dL_law_1377 ?_
  rw [ha1]
  refine lv_aload_n hx hb dL_law_1378 rfl (lv_at hl 1 rfl) ?_
  refine lv_iload hx hb dL_law_1379 (lv_at hl 5 rfl) ?_
  refine lv_iconst hx hb dL_law_1381 rfl ?_
  refine zr_iadd hF dL_law_1382 ?_
  refine zl_sld hF hw hX ⟨by omega, by omega⟩ dL_law_1383 ?_
  rw [ha2]
  refine lv_aload_n hx hb dL_law_1384 rfl (lv_at hl 1 rfl) ?_
  refine lv_iload hx hb dL_law_1385 (lv_at hl 5 rfl) ?_
  refine lv_iconst hx hb dL_law_1387 rfl ?_
  refine zr_iadd hF dL_law_1388 ?_
  refine zl_sld hF hw hX ⟨by omega, by omega⟩ dL_law_1389 ?_
  rw [ha3]
  refine lv_aload_n hx hb dL_law_1390 rfl (lv_at hl 1 rfl) ?_
  refine lv_iload hx hb dL_law_1391 (lv_at hl 5 rfl) ?_
  refine lv_iconst hx hb dL_law_1393 rfl ?_
  refine zr_iadd hF dL_law_1394 ?_
  refine zl_sld hF hw hX ⟨by omega, by omega⟩ dL_law_1395 ?_
  rw [ha4]
  obtain ⟨r2, g1, h1, h⟩ := zbd_some h
  refine zr_callVi (n := 4) (As := [z_v a1, z_v a2, z_v a3, z_v a4]) (rest := []) hF hw (czX5_would l X N h1) zEf_6_0 (by decide) zC_6 (z_goodV qw_1077 qw_1078 qw_1079 qw_42 qw_1080) (by decide +kernel) ⟨Nat.le_of_ble_eq_true rfl, Nat.le_of_ble_eq_true rfl⟩ ⟨rfl, rfl⟩ rfl hl.1 rfl (Nat.le_of_ble_eq_true rfl) dL_law_1396 hcs (fun H locs hw => ?_)
  clear h1
  generalize g1 = g at *
  refine lv_istore (lv' := [(6, z_v r2), (5, z_v r1), (0, .ref b), (1, z_r N 0 0), (2, z_r N 6 0), (3, z_r N 17 0), (4, z_v i)]) hx hb dL_law_1399 hl (by decide) rfl (fun ls hl => ?_)
  refine lv_aload_n hx hb dL_law_1401 rfl (lv_at hl 4 rfl) ?_
  obtain ⟨r3, g1, h1, h⟩ := zbd_some h
  refine zr_callVi (n := 0) (As := []) (rest := []) hF hw (czX5_thrown l X N h1) zEf_6_0 (by decide) zC_6 (z_goodV qw_914 qw_915 qw_916 qw_42 qw_917) (by decide +kernel) ⟨Nat.le_of_ble_eq_true rfl, Nat.le_of_ble_eq_true rfl⟩ ⟨rfl, rfl⟩ rfl hl.1 rfl (Nat.le_of_ble_eq_true rfl) dL_law_1402 hcs (fun H locs hw => ?_)
  clear h1
  generalize g1 = g at *
  refine lv_iload hx hb dL_law_1405 (lv_at hl 1 rfl) ?_
  refine zr_icmp_eq (tgt := 1412) hF h dL_law_1407 (by decide) (fun h => ?_) (fun h => ?_)
  · refine lv_iload hx hb dL_law_1412 (lv_at hl 1 rfl) ?_
    refine zr_if_ne (tgt := 1429) hF h dL_law_1414 (by decide) (fun h => ?_) (fun h => ?_)
    · refine lv_goto (tgt := 1688) hx hb dL_law_1429 (by decide) ?_
      cases h
      exact kk N cells1 slots1 H locs ls hsm hcl hw (lv_sub hl [2, 3, 4, 5, 6] rfl)
    · refine lv_aload_n hx hb dL_law_1417 rfl (lv_at hl 5 rfl) ?_
      refine lv_iconst hx hb dL_law_1418 rfl ?_
      refine zr_lald hF hw zEf_17_0 h dL_law_1419 (fun h => ?_)
      refine lv_iload hx hb dL_law_1420 (lv_at hl 0 rfl) ?_
      refine zr_i2l hF h dL_law_1422 (fun h => ?_)
      refine zr_lcmp hF h dL_law_1423 (fun h => ?_)
      refine zr_if_eq (tgt := 1429) hF h dL_law_1424 (by decide) (fun h => ?_) (fun h => ?_)
      · refine lv_goto (tgt := 1688) hx hb dL_law_1429 (by decide) ?_
        cases h
        exact kk N cells1 slots1 H locs ls hsm hcl hw (lv_sub hl [2, 3, 4, 5, 6] rfl)
      · refine lv_iconst hx hb dL_law_1427 rfl ?_
        exact nomatch h
  · refine lv_iconst hx hb dL_law_1410 rfl ?_
    exact nomatch h
set_option maxHeartbeats 4000000 in
set_option maxRecDepth 100000 in
theorem wLc19 {p : Program} {l : Launch} {e : Env} {s : State} {m : MethodId} {args : Array Value} {below : List Frame} {meth : Method} {c : Code} {H : Heap} {locs : List Loc} {cells slots : Nat} {Q : State → Prop} {ls : Array Slot} {X : zC} {N : zN} {g g' : zG} {b L n : Nat} {xs : Nat → Int32} {i a1 a2 a3 a4 : Int} (hF : zF p s m args meth c X cL_law 7 RL) (hT : l.stackTraces = false) (hX : zX_ b L xs s X) (hi : 0 ≤ i ∧ i + 4 < L) (ha1 : zxs xs (i + 1) = a1) (ha2 : zxs xs (i + 2) = a2) (ha3 : zxs xs (i + 3) = a3) (ha4 : zxs xs (i + 4) = a4) (hnp : zNp N) (hw : zH X N g s H locs) (hl : lv_has ls 7 [(0, .ref b), (1, z_r N 0 0), (2, z_r N 6 0), (3, z_r N 17 0), (4, z_v i)]) (hcs0 : cells + 6 ≤ 601024 ∧ slots + 80 ≤ 7293034) (h : sLc19 n a1 a2 a3 a4 g = some g') (kk : ∀ (N2 : zN) (cells2 slots2 : Nat) (H : Heap) (locs : List Loc) (ls : Array Slot), zSame N N2 → (cells2 ≤ cells + 6 ∧ slots2 ≤ slots + 80) → zH X N2 g' s H locs → lv_has ls 7 [(0, .ref b), (1, z_r N2 0 0), (2, z_r N2 6 0), (3, z_r N2 17 0), (4, z_v i)] → W p l e zRL s m args below meth c H locs cells2 slots2 Q (F0 m 1688 ls [])) : W p l e zRL s m args below meth c H locs cells slots Q (F0 m 1432 ls []) := by
  have hx := hF.1.1
  have hb := hF.1.2.1
  unfold sLc19 at h
  have hsm : zSame N N := zSame.rf
  have hcl : cells ≤ cells + 6 ∧ slots ≤ slots + 80 := ⟨Nat.le_add_right _ _, Nat.le_add_right _ _⟩
  have hcs : cells ≤ zRL.cells ∧ slots ≤ zRL.slots := z_hcs hcs0 hcl
  refine lv_aload_n hx hb dL_law_1432 rfl (lv_at hl 1 rfl) ?_
  refine lv_aload_n hx hb dL_law_1433 rfl (lv_at hl 0 rfl) ?_
  refine lv_iload hx hb dL_law_1434 (lv_at hl 4 rfl) ?_
  refine lv_iconst hx hb dL_law_1436 rfl ?_
  refine zr_iadd hF dL_law_1437 ?_
  refine zl_sld hF hw hX ⟨by omega, by omega⟩ dL_law_1438 ?_
  rw [ha1]
  refine zr_if_eq (tgt := 1446) hF h dL_law_1439 (by decide) (fun h => ?_) (fun h => ?_)
  · refine lv_iconst hx hb dL_law_1446 rfl ?_
    obtain ⟨r1, g1, h1, h⟩ := zbd_some h
    refine zr_callVi (n := 1) (As := [z_v 0]) (rest := []) hF hw (czX4_deal l X N h1) zEf_0_0 (by decide) zC_0 (z_goodV qw_288 qw_289 qw_290 qw_36 qw_291) (by decide +kernel) ⟨Nat.le_of_ble_eq_true rfl, Nat.le_of_ble_eq_true rfl⟩ ⟨rfl, rfl⟩ rfl hl.1 rfl (Nat.le_of_ble_eq_true rfl) dL_law_1447 hcs (fun H locs hw => ?_)
    clear h1
    generalize g1 = g at *
    refine lv_aload_n hx hb dL_law_1450 rfl (lv_at hl 2 rfl) ?_
    refine lv_aload_n hx hb dL_law_1451 rfl (lv_at hl 0 rfl) ?_
    refine lv_iload hx hb dL_law_1452 (lv_at hl 4 rfl) ?_
    refine lv_iconst hx hb dL_law_1454 rfl ?_
    refine zr_iadd hF dL_law_1455 ?_
    refine zl_sld hF hw hX ⟨by omega, by omega⟩ dL_law_1456 ?_
    rw [ha1]
    refine zr_if_eq (tgt := 1464) hF h dL_law_1457 (by decide) (fun h => ?_) (fun h => ?_)
    · refine lv_iconst hx hb dL_law_1464 rfl ?_
      obtain ⟨r2, g1, h1, h⟩ := zbd_some h
      refine zr_callVi (n := 1) (As := [z_v 0]) (rest := [z_v r1]) hF hw (czX5_deal l X N h1) zEf_6_0 (by decide) zC_6 (z_goodV qw_1081 qw_1082 qw_1083 qw_42 qw_1084) (by decide +kernel) ⟨Nat.le_of_ble_eq_true rfl, Nat.le_of_ble_eq_true rfl⟩ ⟨rfl, rfl⟩ rfl hl.1 rfl (Nat.le_of_ble_eq_true rfl) dL_law_1465 hcs (fun H locs hw => ?_)
      clear h1
      generalize g1 = g at *
      refine zr_icmp_eq (tgt := 1688) hF h dL_law_1468 (by decide) (fun h => ?_) (fun h => ?_)
      · cases h
        exact kk N cells slots H locs ls hsm hcl hw (lv_sub hl [0, 1, 2, 3, 4] rfl)
      · refine lv_iconst hx hb dL_law_1471 rfl ?_
        exact nomatch h
    · refine lv_iconst hx hb dL_law_1460 rfl ?_
      refine lv_goto (tgt := 1465) hx hb dL_law_1461 (by decide) ?_
      obtain ⟨r3, g1, h1, h⟩ := zbd_some h
      refine zr_callVi (n := 1) (As := [z_v 1]) (rest := [z_v r1]) hF hw (czX5_deal l X N h1) zEf_6_0 (by decide) zC_6 (z_goodV qw_1081 qw_1082 qw_1083 qw_42 qw_1084) (by decide +kernel) ⟨Nat.le_of_ble_eq_true rfl, Nat.le_of_ble_eq_true rfl⟩ ⟨rfl, rfl⟩ rfl hl.1 rfl (Nat.le_of_ble_eq_true rfl) dL_law_1465 hcs (fun H locs hw => ?_)
      clear h1
      generalize g1 = g at *
      refine zr_icmp_eq (tgt := 1688) hF h dL_law_1468 (by decide) (fun h => ?_) (fun h => ?_)
      · cases h
        exact kk N cells slots H locs ls hsm hcl hw (lv_sub hl [0, 1, 2, 3, 4] rfl)
      · refine lv_iconst hx hb dL_law_1471 rfl ?_
        exact nomatch h
  · refine lv_iconst hx hb dL_law_1442 rfl ?_
    refine lv_goto (tgt := 1447) hx hb dL_law_1443 (by decide) ?_
    obtain ⟨r4, g1, h1, h⟩ := zbd_some h
    refine zr_callVi (n := 1) (As := [z_v 1]) (rest := []) hF hw (czX4_deal l X N h1) zEf_0_0 (by decide) zC_0 (z_goodV qw_288 qw_289 qw_290 qw_36 qw_291) (by decide +kernel) ⟨Nat.le_of_ble_eq_true rfl, Nat.le_of_ble_eq_true rfl⟩ ⟨rfl, rfl⟩ rfl hl.1 rfl (Nat.le_of_ble_eq_true rfl) dL_law_1447 hcs (fun H locs hw => ?_)
    clear h1
    generalize g1 = g at *
    refine lv_aload_n hx hb dL_law_1450 rfl (lv_at hl 2 rfl) ?_
    refine lv_aload_n hx hb dL_law_1451 rfl (lv_at hl 0 rfl) ?_
    refine lv_iload hx hb dL_law_1452 (lv_at hl 4 rfl) ?_
    refine lv_iconst hx hb dL_law_1454 rfl ?_
    refine zr_iadd hF dL_law_1455 ?_
    refine zl_sld hF hw hX ⟨by omega, by omega⟩ dL_law_1456 ?_
    rw [ha1]
    refine zr_if_eq (tgt := 1464) hF h dL_law_1457 (by decide) (fun h => ?_) (fun h => ?_)
    · refine lv_iconst hx hb dL_law_1464 rfl ?_
      obtain ⟨r5, g1, h1, h⟩ := zbd_some h
      refine zr_callVi (n := 1) (As := [z_v 0]) (rest := [z_v r4]) hF hw (czX5_deal l X N h1) zEf_6_0 (by decide) zC_6 (z_goodV qw_1081 qw_1082 qw_1083 qw_42 qw_1084) (by decide +kernel) ⟨Nat.le_of_ble_eq_true rfl, Nat.le_of_ble_eq_true rfl⟩ ⟨rfl, rfl⟩ rfl hl.1 rfl (Nat.le_of_ble_eq_true rfl) dL_law_1465 hcs (fun H locs hw => ?_)
      clear h1
      generalize g1 = g at *
      refine zr_icmp_eq (tgt := 1688) hF h dL_law_1468 (by decide) (fun h => ?_) (fun h => ?_)
      · cases h
        exact kk N cells slots H locs ls hsm hcl hw (lv_sub hl [0, 1, 2, 3, 4] rfl)
      · refine lv_iconst hx hb dL_law_1471 rfl ?_
        exact nomatch h
    · refine lv_iconst hx hb dL_law_1460 rfl ?_
      refine lv_goto (tgt := 1465) hx hb dL_law_1461 (by decide) ?_
      obtain ⟨r6, g1, h1, h⟩ := zbd_some h
      refine zr_callVi (n := 1) (As := [z_v 1]) (rest := [z_v r4]) hF hw (czX5_deal l X N h1) zEf_6_0 (by decide) zC_6 (z_goodV qw_1081 qw_1082 qw_1083 qw_42 qw_1084) (by decide +kernel) ⟨Nat.le_of_ble_eq_true rfl, Nat.le_of_ble_eq_true rfl⟩ ⟨rfl, rfl⟩ rfl hl.1 rfl (Nat.le_of_ble_eq_true rfl) dL_law_1465 hcs (fun H locs hw => ?_)
      clear h1
      generalize g1 = g at *
      refine zr_icmp_eq (tgt := 1688) hF h dL_law_1468 (by decide) (fun h => ?_) (fun h => ?_)
      · cases h
        exact kk N cells slots H locs ls hsm hcl hw (lv_sub hl [0, 1, 2, 3, 4] rfl)
      · refine lv_iconst hx hb dL_law_1471 rfl ?_
        exact nomatch h
set_option maxHeartbeats 4000000 in
set_option maxRecDepth 100000 in
theorem wLc20 {p : Program} {l : Launch} {e : Env} {s : State} {m : MethodId} {args : Array Value} {below : List Frame} {meth : Method} {c : Code} {H : Heap} {locs : List Loc} {cells slots : Nat} {Q : State → Prop} {ls : Array Slot} {X : zC} {N : zN} {g g' : zG} {b L n : Nat} {xs : Nat → Int32} {i a1 a2 a3 a4 : Int} (hF : zF p s m args meth c X cL_law 7 RL) (hT : l.stackTraces = false) (hX : zX_ b L xs s X) (hi : 0 ≤ i ∧ i + 4 < L) (ha1 : zxs xs (i + 1) = a1) (ha2 : zxs xs (i + 2) = a2) (ha3 : zxs xs (i + 3) = a3) (ha4 : zxs xs (i + 4) = a4) (hnp : zNp N) (hw : zH X N g s H locs) (hl : lv_has ls 7 [(0, .ref b), (1, z_r N 0 0), (2, z_r N 6 0), (3, z_r N 17 0), (4, z_v i)]) (hcs0 : cells + 6 ≤ 601024 ∧ slots + 80 ≤ 7293034) (h : sLc20 n a1 a2 a3 a4 g = some g') (kk : ∀ (N2 : zN) (cells2 slots2 : Nat) (H : Heap) (locs : List Loc) (ls : Array Slot), zSame N N2 → (cells2 ≤ cells + 6 ∧ slots2 ≤ slots + 80) → zH X N2 g' s H locs → lv_has ls 7 [(0, .ref b), (1, z_r N2 0 0), (2, z_r N2 6 0), (3, z_r N2 17 0), (4, z_v i)] → W p l e zRL s m args below meth c H locs cells2 slots2 Q (F0 m 1688 ls [])) : W p l e zRL s m args below meth c H locs cells slots Q (F0 m 1473 ls []) := by
  have hx := hF.1.1
  have hb := hF.1.2.1
  unfold sLc20 at h
  refine lv_aload_n hx hb dL_law_1473 rfl (lv_at hl 1 rfl) ?_
  refine lv_aload_n hx hb dL_law_1474 rfl (lv_at hl 0 rfl) ?_
  refine lv_iload hx hb dL_law_1475 (lv_at hl 4 rfl) ?_
  refine lv_iconst hx hb dL_law_1477 rfl ?_
  refine zr_iadd hF dL_law_1478 ?_
  refine zl_sld hF hw hX ⟨by omega, by omega⟩ dL_law_1479 ?_
  rw [ha1]
  refine lv_aload_n hx hb dL_law_1480 rfl (lv_at hl 0 rfl) ?_
  refine lv_iload hx hb dL_law_1481 (lv_at hl 4 rfl) ?_
  refine lv_iconst hx hb dL_law_1483 rfl ?_
  refine zr_iadd hF dL_law_1484 ?_
  refine zl_sld hF hw hX ⟨by omega, by omega⟩ dL_law_1485 ?_
  rw [ha2]
  obtain ⟨r1, g1, h1, h⟩ := zbd_some h
  refine zl_callW (n := 3) (As := [z_r N 0 0, z_v a1, z_v a2]) (rest := []) hF hw (czL_swap l hT X N h1) (z_goodSW qw_774 qw_775 qw_35 qw_776) (by decide +kernel) ⟨Nat.le_of_ble_eq_true rfl, Nat.le_of_ble_eq_true rfl⟩ rfl hl.1 rfl (Nat.le_of_ble_eq_true rfl) dL_law_1486 hcs0 ⟨Nat.le_of_ble_eq_true rfl, Nat.le_of_ble_eq_true rfl⟩ (fun N cells1 slots1 H locs hsm hcl hw => ?_)
  have hl := z_hl hsm hl
  have hcs : cells1 ≤ zRL.cells ∧ slots1 ≤ zRL.slots := z_hcs hcs0 hcl
  clear h1
  generalize g1 = g at *
  refine lv_istore (lv' := [(5, z_v r1), (0, .ref b), (1, z_r N 0 0), (2, z_r N 6 0), (3, z_r N 17 0), (4, z_v i)]) hx hb dL_law_1489 hl (by decide) rfl (fun ls hl => ?_)
  refine lv_aload_n hx hb dL_law_1491 rfl (lv_at hl 3 rfl) ?_
  refine lv_aload_n hx hb dL_law_1492 rfl (lv_at hl 1 rfl) ?_
  refine lv_iload hx hb dL_law_1493 (lv_at hl 5 rfl) ?_
  refine lv_iconst hx hb dL_law_1495 rfl ?_
  refine zr_iadd hF dL_law_1496 ?_
  refine zl_sld hF hw hX ⟨by omega, by omega⟩ dL_law_1497 ?_
  rw [ha1]
  refine lv_aload_n hx hb dL_law_1498 rfl (lv_at hl 1 rfl) ?_
  refine lv_iload hx hb dL_law_1499 (lv_at hl 5 rfl) ?_
  refine lv_iconst hx hb dL_law_1501 rfl ?_
  refine zr_iadd hF dL_law_1502 ?_
  refine zl_sld hF hw hX ⟨by omega, by omega⟩ dL_law_1503 ?_
  rw [ha2]
  obtain ⟨r2, g1, h1, h⟩ := zbd_some h
  refine zr_callVv (n := 2) (As := [z_v a1, z_v a2]) (rest := []) hF hw (czX5_swap l X N h1) zEf_6_0 (by decide) zC_6 (z_goodV qw_1089 qw_1090 qw_1091 qw_42 qw_1092) (by decide +kernel) ⟨Nat.le_of_ble_eq_true rfl, Nat.le_of_ble_eq_true rfl⟩ ⟨rfl, rfl⟩ rfl hl.1 rfl (Nat.le_of_ble_eq_true rfl) dL_law_1504 hcs (fun H locs hw => ?_)
  clear h1
  generalize g1 = g at *
  refine lv_aload_n hx hb dL_law_1507 rfl (lv_at hl 3 rfl) ?_
  obtain ⟨r3, g1, h1, h⟩ := zbd_some h
  refine zr_callVi (n := 0) (As := []) (rest := []) hF hw (czX5_thrown l X N h1) zEf_6_0 (by decide) zC_6 (z_goodV qw_914 qw_915 qw_916 qw_42 qw_917) (by decide +kernel) ⟨Nat.le_of_ble_eq_true rfl, Nat.le_of_ble_eq_true rfl⟩ ⟨rfl, rfl⟩ rfl hl.1 rfl (Nat.le_of_ble_eq_true rfl) dL_law_1508 hcs (fun H locs hw => ?_)
  clear h1
  generalize g1 = g at *
  refine lv_iload hx hb dL_law_1511 (lv_at hl 0 rfl) ?_
  refine zr_icmp_eq (tgt := 1518) hF h dL_law_1513 (by decide) (fun h => ?_) (fun h => ?_)
  · refine lv_goto (tgt := 1688) hx hb dL_law_1518 (by decide) ?_
    cases h
    exact kk N cells1 slots1 H locs ls hsm hcl hw (lv_sub hl [1, 2, 3, 4, 5] rfl)
  · refine lv_iconst hx hb dL_law_1516 rfl ?_
    exact nomatch h
set_option maxHeartbeats 4000000 in
set_option maxRecDepth 100000 in
theorem wLc21 {p : Program} {l : Launch} {e : Env} {s : State} {m : MethodId} {args : Array Value} {below : List Frame} {meth : Method} {c : Code} {H : Heap} {locs : List Loc} {cells slots : Nat} {Q : State → Prop} {ls : Array Slot} {X : zC} {N : zN} {g g' : zG} {b L n : Nat} {xs : Nat → Int32} {i a1 a2 a3 a4 : Int} (hF : zF p s m args meth c X cL_law 7 RL) (hT : l.stackTraces = false) (hX : zX_ b L xs s X) (hi : 0 ≤ i ∧ i + 4 < L) (ha1 : zxs xs (i + 1) = a1) (ha2 : zxs xs (i + 2) = a2) (ha3 : zxs xs (i + 3) = a3) (ha4 : zxs xs (i + 4) = a4) (hnp : zNp N) (hw : zH X N g s H locs) (hl : lv_has ls 7 [(0, .ref b), (1, z_r N 0 0), (2, z_r N 6 0), (3, z_r N 17 0), (4, z_v i)]) (hcs0 : cells + 6 ≤ 601024 ∧ slots + 80 ≤ 7293034) (h : sLc21 n a1 a2 a3 a4 g = some g') (kk : ∀ (N2 : zN) (cells2 slots2 : Nat) (H : Heap) (locs : List Loc) (ls : Array Slot), zSame N N2 → (cells2 ≤ cells + 6 ∧ slots2 ≤ slots + 80) → zH X N2 g' s H locs → lv_has ls 7 [(0, .ref b), (1, z_r N2 0 0), (2, z_r N2 6 0), (3, z_r N2 17 0), (4, z_v i)] → W p l e zRL s m args below meth c H locs cells2 slots2 Q (F0 m 1688 ls [])) : W p l e zRL s m args below meth c H locs cells slots Q (F0 m 1521 ls []) := by
  have hx := hF.1.1
  have hb := hF.1.2.1
  unfold sLc21 at h
  refine lv_aload_n hx hb dL_law_1521 rfl (lv_at hl 1 rfl) ?_
  refine lv_aload_n hx hb dL_law_1522 rfl (lv_at hl 0 rfl) ?_
  refine lv_iload hx hb dL_law_1523 (lv_at hl 4 rfl) ?_
  refine lv_iconst hx hb dL_law_1525 rfl ?_
  refine zr_iadd hF dL_law_1526 ?_
  refine zl_sld hF hw hX ⟨by omega, by omega⟩ dL_law_1527 ?_
  rw [ha1]
  refine lv_aload_n hx hb dL_law_1528 rfl (lv_at hl 0 rfl) ?_
  refine lv_iload hx hb dL_law_1529 (lv_at hl 4 rfl) ?_
  refine lv_iconst hx hb dL_law_1531 rfl ?_
  refine zr_iadd hF dL_law_1532 ?_
  refine zl_sld hF hw hX ⟨by omega, by omega⟩ dL_law_1533 ?_
  rw [ha2]
  refine lv_aload_n hx hb dL_law_1534 rfl (lv_at hl 0 rfl) ?_
  refine lv_iload hx hb dL_law_1535 (lv_at hl 4 rfl) ?_
  refine lv_iconst hx hb dL_law_1537 rfl ?_
  refine zr_iadd hF dL_law_1538 ?_
  refine zl_sld hF hw hX ⟨by omega, by omega⟩ dL_law_1539 ?_
  rw [ha3]
  refine lv_aload_n hx hb dL_law_1540 rfl (lv_at hl 0 rfl) ?_
  refine lv_iload hx hb dL_law_1541 (lv_at hl 4 rfl) ?_
  refine lv_iconst hx hb dL_law_1543 rfl ?_
  refine zr_iadd hF dL_law_1544 ?_
  refine zl_sld hF hw hX ⟨by omega, by omega⟩ dL_law_1545 ?_
  rw [ha4]
  refine lv_aload_n hx hb dL_law_1546 rfl (lv_at hl 3 rfl) ?_
  obtain ⟨r1, g1, h1, h⟩ := zbd_some h
  refine zl_callW (n := 6) (As := [z_r N 0 0, z_v a1, z_v a2, z_v a3, z_v a4, z_r N 17 0]) (rest := []) hF hw (czL_message l hT X N h1) (z_goodSW qw_789 qw_790 qw_35 qw_791) (by decide +kernel) ⟨Nat.le_of_ble_eq_true rfl, Nat.le_of_ble_eq_true rfl⟩ rfl hl.1 rfl (Nat.le_of_ble_eq_true rfl) dL_law_1547 hcs0 ⟨Nat.le_of_ble_eq_true rfl, Nat.le_of_ble_eq_true rfl⟩ (fun N cells1 slots1 H locs hsm hcl hw => ?_)
  have hl := z_hl hsm hl
  have hcs : cells1 ≤ zRL.cells ∧ slots1 ≤ zRL.slots := z_hcs hcs0 hcl
  clear h1
  generalize g1 = g at *
  refine lv_istore (lv' := [(5, z_v r1), (0, .ref b), (1, z_r N 0 0), (2, z_r N 6 0), (3, z_r N 17 0), (4, z_v i)]) hx hb dL_law_1550 hl (by decide) rfl (fun ls hl => ?_)
  refine lv_aload_n hx hb dL_law_1552 rfl (lv_at hl 3 rfl) ?_
  refine lv_aload_n hx hb dL_law_1553 rfl (lv_at hl 1 rfl) ?_
  refine lv_iload hx hb dL_law_1554 (lv_at hl 5 rfl) ?_
  refine lv_iconst hx hb dL_law_1556 rfl ?_
  refine zr_iadd hF dL_law_1557 ?_
  refine zl_sld hF hw hX ⟨by omega, by omega⟩ dL_law_1558 ?_
  rw [ha1]
  refine lv_aload_n hx hb dL_law_1559 rfl (lv_at hl 1 rfl) ?_
  refine lv_iload hx hb dL_law_1560 (lv_at hl 5 rfl) ?_
  refine lv_iconst hx hb dL_law_1562 rfl ?_
  refine zr_iadd hF dL_law_1563 ?_
  refine zl_sld hF hw hX ⟨by omega, by omega⟩ dL_law_1564 ?_
  rw [ha2]
  refine lv_aload_n hx hb dL_law_1565 rfl (lv_at hl 1 rfl) ?_
  refine lv_iload hx hb dL_law_1566 (lv_at hl 5 rfl) ?_
  refine lv_iconst hx hb dL_law_1568 rfl ?_
  refine zr_iadd hF dL_law_1569 ?_
  refine zl_sld hF hw hX ⟨by omega, by omega⟩ dL_law_1570 ?_
  rw [ha3]
  refine lv_aload_n hx hb dL_law_1571 rfl (lv_at hl 1 rfl) ?_
  refine lv_iload hx hb dL_law_1572 (lv_at hl 5 rfl) ?_
  refine lv_iconst hx hb dL_law_1574 rfl ?_
  refine zr_iadd hF dL_law_1575 ?_
  refine zl_sld hF hw hX ⟨by omega, by omega⟩ dL_law_1576 ?_
  rw [ha4]
  obtain ⟨r2, g1, h1, h⟩ := zbd_some h
  refine zr_callVi (n := 4) (As := [z_v a1, z_v a2, z_v a3, z_v a4]) (rest := []) hF hw (czX5_message l X N h1) zEf_6_0 (by decide) zC_6 (z_goodV qw_1093 qw_1094 qw_1095 qw_42 qw_1096) (by decide +kernel) ⟨Nat.le_of_ble_eq_true rfl, Nat.le_of_ble_eq_true rfl⟩ ⟨rfl, rfl⟩ rfl hl.1 rfl (Nat.le_of_ble_eq_true rfl) dL_law_1577 hcs (fun H locs hw => ?_)
  clear h1
  generalize g1 = g at *
  refine lv_istore (lv' := [(6, z_v r2), (5, z_v r1), (0, .ref b), (1, z_r N 0 0), (2, z_r N 6 0), (3, z_r N 17 0), (4, z_v i)]) hx hb dL_law_1580 hl (by decide) rfl (fun ls hl => ?_)
  refine lv_aload_n hx hb dL_law_1582 rfl (lv_at hl 4 rfl) ?_
  obtain ⟨r3, g1, h1, h⟩ := zbd_some h
  refine zr_callVi (n := 0) (As := []) (rest := []) hF hw (czX5_thrown l X N h1) zEf_6_0 (by decide) zC_6 (z_goodV qw_914 qw_915 qw_916 qw_42 qw_917) (by decide +kernel) ⟨Nat.le_of_ble_eq_true rfl, Nat.le_of_ble_eq_true rfl⟩ ⟨rfl, rfl⟩ rfl hl.1 rfl (Nat.le_of_ble_eq_true rfl) dL_law_1583 hcs (fun H locs hw => ?_)
  clear h1
  generalize g1 = g at *
  refine lv_iload hx hb dL_law_1586 (lv_at hl 1 rfl) ?_
  refine zr_icmp_eq (tgt := 1593) hF h dL_law_1588 (by decide) (fun h => ?_) (fun h => ?_)
  · refine lv_iload hx hb dL_law_1593 (lv_at hl 1 rfl) ?_
    refine zr_if_ne (tgt := 1617) hF h dL_law_1595 (by decide) (fun h => ?_) (fun h => ?_)
    · refine lv_goto (tgt := 1688) hx hb dL_law_1617 (by decide) ?_
      cases h
      exact kk N cells1 slots1 H locs ls hsm hcl hw (lv_sub hl [2, 3, 4, 5, 6] rfl)
    · refine lv_aload_n hx hb dL_law_1598 rfl (lv_at hl 5 rfl) ?_
      refine lv_iconst hx hb dL_law_1599 rfl ?_
      refine zr_lald hF hw zEf_17_0 h dL_law_1600 (fun h => ?_)
      refine lv_iload hx hb dL_law_1601 (lv_at hl 0 rfl) ?_
      refine zr_if_eq (tgt := 1610) hF h dL_law_1603 (by decide) (fun h => ?_) (fun h => ?_)
      · refine lv_lconst (v := Int64.ofInt 0) hx hb dL_law_1610 (by decide) ?_
        refine zr_lcmp hF h dL_law_1611 (fun h => ?_)
        refine zr_if_eq (tgt := 1617) hF h dL_law_1612 (by decide) (fun h => ?_) (fun h => ?_)
        · refine lv_goto (tgt := 1688) hx hb dL_law_1617 (by decide) ?_
          cases h
          exact kk N cells1 slots1 H locs ls hsm hcl hw (lv_sub hl [2, 3, 4, 5, 6] rfl)
        · refine lv_iconst hx hb dL_law_1615 rfl ?_
          exact nomatch h
      · refine lv_lconst (v := Int64.ofInt 1) hx hb dL_law_1606 (by decide) ?_
        refine lv_goto (tgt := 1611) hx hb dL_law_1607 (by decide) ?_
        refine zr_lcmp hF h dL_law_1611 (fun h => ?_)
        refine zr_if_eq (tgt := 1617) hF h dL_law_1612 (by decide) (fun h => ?_) (fun h => ?_)
        · refine lv_goto (tgt := 1688) hx hb dL_law_1617 (by decide) ?_
          cases h
          exact kk N cells1 slots1 H locs ls hsm hcl hw (lv_sub hl [2, 3, 4, 5, 6] rfl)
        · refine lv_iconst hx hb dL_law_1615 rfl ?_
          exact nomatch h
  · refine lv_iconst hx hb dL_law_1591 rfl ?_
    exact nomatch h
set_option maxHeartbeats 4000000 in
set_option maxRecDepth 100000 in
theorem wLc22 {p : Program} {l : Launch} {e : Env} {s : State} {m : MethodId} {args : Array Value} {below : List Frame} {meth : Method} {c : Code} {H : Heap} {locs : List Loc} {cells slots : Nat} {Q : State → Prop} {ls : Array Slot} {X : zC} {N : zN} {g g' : zG} {b L n : Nat} {xs : Nat → Int32} {i a1 a2 a3 a4 : Int} (hF : zF p s m args meth c X cL_law 7 RL) (hT : l.stackTraces = false) (hX : zX_ b L xs s X) (hi : 0 ≤ i ∧ i + 4 < L) (ha1 : zxs xs (i + 1) = a1) (ha2 : zxs xs (i + 2) = a2) (ha3 : zxs xs (i + 3) = a3) (ha4 : zxs xs (i + 4) = a4) (hnp : zNp N) (hw : zH X N g s H locs) (hl : lv_has ls 7 [(0, .ref b), (1, z_r N 0 0), (2, z_r N 6 0), (3, z_r N 17 0), (4, z_v i)]) (hcs0 : cells + 6 ≤ 601024 ∧ slots + 80 ≤ 7293034) (h : sLc22 n a1 a2 a3 a4 g = some g') (kk : ∀ (N2 : zN) (cells2 slots2 : Nat) (H : Heap) (locs : List Loc) (ls : Array Slot), zSame N N2 → (cells2 ≤ cells + 6 ∧ slots2 ≤ slots + 80) → zH X N2 g' s H locs → lv_has ls 7 [(0, .ref b), (1, z_r N2 0 0), (2, z_r N2 6 0), (3, z_r N2 17 0), (4, z_v i)] → W p l e zRL s m args below meth c H locs cells2 slots2 Q (F0 m 1688 ls [])) : W p l e zRL s m args below meth c H locs cells slots Q (F0 m 1620 ls []) := by
  have hx := hF.1.1
  have hb := hF.1.2.1
  unfold sLc22 at h
  refine lv_aload_n hx hb dL_law_1620 rfl (lv_at hl 1 rfl) ?_
  refine lv_aload_n hx hb dL_law_1621 rfl (lv_at hl 0 rfl) ?_
  refine lv_iload hx hb dL_law_1622 (lv_at hl 4 rfl) ?_
  refine lv_iconst hx hb dL_law_1624 rfl ?_
  refine zr_iadd hF dL_law_1625 ?_
  refine zl_sld hF hw hX ⟨by omega, by omega⟩ dL_law_1626 ?_
  rw [ha1]
  refine lv_aload_n hx hb dL_law_1627 rfl (lv_at hl 0 rfl) ?_
  refine lv_iload hx hb dL_law_1628 (lv_at hl 4 rfl) ?_
  refine lv_iconst hx hb dL_law_1630 rfl ?_
  refine zr_iadd hF dL_law_1631 ?_
  refine zl_sld hF hw hX ⟨by omega, by omega⟩ dL_law_1632 ?_
  rw [ha2]
  refine lv_aload_n hx hb dL_law_1633 rfl (lv_at hl 3 rfl) ?_
  obtain ⟨r1, g1, h1, h⟩ := zbd_some h
  refine zl_callW (n := 4) (As := [z_r N 0 0, z_v a1, z_v a2, z_r N 17 0]) (rest := []) hF hw (czL_companyIs l hT X N h1) (z_goodSW qw_800 qw_801 qw_35 qw_802) (by decide +kernel) ⟨Nat.le_of_ble_eq_true rfl, Nat.le_of_ble_eq_true rfl⟩ rfl hl.1 rfl (Nat.le_of_ble_eq_true rfl) dL_law_1634 hcs0 ⟨Nat.le_of_ble_eq_true rfl, Nat.le_of_ble_eq_true rfl⟩ (fun N cells1 slots1 H locs hsm hcl hw => ?_)
  have hl := z_hl hsm hl
  have hcs : cells1 ≤ zRL.cells ∧ slots1 ≤ zRL.slots := z_hcs hcs0 hcl
  clear h1
  generalize g1 = g at *
  refine lv_istore (lv' := [(5, z_v r1), (0, .ref b), (1, z_r N 0 0), (2, z_r N 6 0), (3, z_r N 17 0), (4, z_v i)]) hx hb dL_law_1637 hl (by decide) rfl (fun ls hl => ?_)
  refine lv_aload_n hx hb dL_law_1639 rfl (lv_at hl 3 rfl) ?_
  refine lv_aload_n hx hb dL_law_1640 rfl (lv_at hl 1 rfl) ?_
  refine lv_iload hx hb dL_law_1641 (lv_at hl 5 rfl) ?_
  refine lv_iconst hx hb dL_law_1643 rfl ?_
  refine zr_iadd hF dL_law_1644 ?_
  refine zl_sld hF hw hX ⟨by omega, by omega⟩ dL_law_1645 ?_
  rw [ha1]
  refine lv_aload_n hx hb dL_law_1646 rfl (lv_at hl 1 rfl) ?_
  refine lv_iload hx hb dL_law_1647 (lv_at hl 5 rfl) ?_
  refine lv_iconst hx hb dL_law_1649 rfl ?_
  refine zr_iadd hF dL_law_1650 ?_
  refine zl_sld hF hw hX ⟨by omega, by omega⟩ dL_law_1651 ?_
  rw [ha2]
  obtain ⟨r2, g1, h1, h⟩ := zbd_some h
  refine zr_callVi (n := 2) (As := [z_v a1, z_v a2]) (rest := []) hF hw (czX5_companyIs l X N h1) zEf_6_0 (by decide) zC_6 (z_goodV qw_1101 qw_1102 qw_1103 qw_42 qw_1104) (by decide +kernel) ⟨Nat.le_of_ble_eq_true rfl, Nat.le_of_ble_eq_true rfl⟩ ⟨rfl, rfl⟩ rfl hl.1 rfl (Nat.le_of_ble_eq_true rfl) dL_law_1652 hcs (fun H locs hw => ?_)
  clear h1
  generalize g1 = g at *
  refine lv_istore (lv' := [(6, z_v r2), (5, z_v r1), (0, .ref b), (1, z_r N 0 0), (2, z_r N 6 0), (3, z_r N 17 0), (4, z_v i)]) hx hb dL_law_1655 hl (by decide) rfl (fun ls hl => ?_)
  refine lv_aload_n hx hb dL_law_1657 rfl (lv_at hl 4 rfl) ?_
  obtain ⟨r3, g1, h1, h⟩ := zbd_some h
  refine zr_callVi (n := 0) (As := []) (rest := []) hF hw (czX5_thrown l X N h1) zEf_6_0 (by decide) zC_6 (z_goodV qw_914 qw_915 qw_916 qw_42 qw_917) (by decide +kernel) ⟨Nat.le_of_ble_eq_true rfl, Nat.le_of_ble_eq_true rfl⟩ ⟨rfl, rfl⟩ rfl hl.1 rfl (Nat.le_of_ble_eq_true rfl) dL_law_1658 hcs (fun H locs hw => ?_)
  clear h1
  generalize g1 = g at *
  refine lv_iload hx hb dL_law_1661 (lv_at hl 1 rfl) ?_
  refine zr_icmp_eq (tgt := 1668) hF h dL_law_1663 (by decide) (fun h => ?_) (fun h => ?_)
  · refine lv_iload hx hb dL_law_1668 (lv_at hl 1 rfl) ?_
    refine zr_if_ne (tgt := 1685) hF h dL_law_1670 (by decide) (fun h => ?_) (fun h => ?_)
    · refine lv_goto (tgt := 1688) hx hb dL_law_1685 (by decide) ?_
      cases h
      exact kk N cells1 slots1 H locs ls hsm hcl hw (lv_sub hl [2, 3, 4, 5, 6] rfl)
    · refine lv_aload_n hx hb dL_law_1673 rfl (lv_at hl 5 rfl) ?_
      refine lv_iconst hx hb dL_law_1674 rfl ?_
      refine zr_lald hF hw zEf_17_0 h dL_law_1675 (fun h => ?_)
      refine lv_iload hx hb dL_law_1676 (lv_at hl 0 rfl) ?_
      refine zr_i2l hF h dL_law_1678 (fun h => ?_)
      refine zr_lcmp hF h dL_law_1679 (fun h => ?_)
      refine zr_if_eq (tgt := 1685) hF h dL_law_1680 (by decide) (fun h => ?_) (fun h => ?_)
      · refine lv_goto (tgt := 1688) hx hb dL_law_1685 (by decide) ?_
        cases h
        exact kk N cells1 slots1 H locs ls hsm hcl hw (lv_sub hl [2, 3, 4, 5, 6] rfl)
      · refine lv_iconst hx hb dL_law_1683 rfl ?_
        exact nomatch h
  · refine lv_iconst hx hb dL_law_1666 rfl ?_
    exact nomatch h

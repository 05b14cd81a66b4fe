/-! more rows: lists, Math, casts, named numbers -/
theorem z_inG {ws : List Cond} (ps : List Nat) (hp : ws = ps.filterMap (fun i => lw_tbl[i]?)) (h : ws.all goodWord = true) : ∀ w ∈ ws, w ∈ lw_G := by
  intro w hw
  have h1 := List.all_eq_true.mp h w hw
  rw [hp] at hw
  obtain ⟨i, -, hi⟩ := List.mem_filterMap.mp hw
  exact List.mem_filter.mpr ⟨List.mem_of_getElem? hi, h1⟩
theorem zC_0 : zCls 0 RX4 TX4 4 := ⟨rfl, z_inG [127, 129, 131, 133] (by decide +kernel) (by decide +kernel), nmX4, tyX4, tyX4_ok⟩
theorem zC_1 : zCls 1 RJx4a65c TJx4a65c 3 := ⟨rfl, z_inG [66, 62, 64] (by decide +kernel) (by decide +kernel), nmJx4a65c, tyJx4a65c, tyJx4a65c_ok⟩
theorem zC_2 : zCls 2 RX0 TX0 5 := ⟨rfl, z_inG [110, 112, 114, 116, 118] (by decide +kernel) (by decide +kernel), nmX0, tyX0, tyX0_ok⟩
theorem zC_3 : zCls 3 RX2 TX2 5 := ⟨rfl, z_inG [88, 90, 92, 94, 96] (by decide +kernel) (by decide +kernel), nmX2, tyX2, tyX2_ok⟩
theorem zC_4 : zCls 4 RX1 TX1 14 := ⟨rfl, z_inG [484, 486, 488, 490, 492, 494, 496, 498, 500, 502, 504, 506, 508, 510] (by decide +kernel) (by decide +kernel), nmX1, tyX1, tyX1_ok⟩
theorem zC_5 : zCls 5 RX3 TX3 5 := ⟨rfl, z_inG [607, 609, 611, 613, 615] (by decide +kernel) (by decide +kernel), nmX3, tyX3, tyX3_ok⟩
theorem zEf_0_0 {N : zN} : zE N 0 0 := zE_fix (by decide)
theorem zEf_1_0 {N : zN} : zE N 1 0 := zE_fix (by decide)
theorem zEf_1_1 {N : zN} : zE N 1 1 := zE_fix (by decide)
theorem zEf_2_0 {N : zN} : zE N 2 0 := zE_fix (by decide)
theorem zEf_3_0 {N : zN} : zE N 3 0 := zE_fix (by decide)
theorem zEf_3_1 {N : zN} : zE N 3 1 := zE_fix (by decide)
theorem zEf_3_2 {N : zN} : zE N 3 2 := zE_fix (by decide)
theorem zEf_17_0 {N : zN} : zE N 17 0 := zE_fix (by decide)
theorem zEf_10_0 {N : zN} : zE N 10 0 := zE_fix (by decide)
theorem zEf_10_1 {N : zN} : zE N 10 1 := zE_fix (by decide)
theorem zEf_10_2 {N : zN} : zE N 10 2 := zE_fix (by decide)
theorem zEf_11_0 {N : zN} : zE N 11 0 := zE_fix (by decide)
theorem zEf_11_1 {N : zN} : zE N 11 1 := zE_fix (by decide)
theorem zEf_11_2 {N : zN} : zE N 11 2 := zE_fix (by decide)
theorem zEf_12_0 {N : zN} : zE N 12 0 := zE_fix (by decide)
theorem zEf_12_1 {N : zN} : zE N 12 1 := zE_fix (by decide)
theorem zEf_12_2 {N : zN} : zE N 12 2 := zE_fix (by decide)
theorem zEf_13_0 {N : zN} : zE N 13 0 := zE_fix (by decide)
theorem zEf_13_1 {N : zN} : zE N 13 1 := zE_fix (by decide)
theorem zEf_13_2 {N : zN} : zE N 13 2 := zE_fix (by decide)
theorem qm_max1 : Cond.static Lib.Math.max.name ∈ lw_G := List.mem_filter.mpr ⟨List.mem_of_getElem? (i := 278) (by decide +kernel), by decide +kernel⟩
theorem qm_max2 : Cond.code Lib.Math.max.name Lib.Math.max.code 2 (some .int) ∈ lw_G := List.mem_filter.mpr ⟨List.mem_of_getElem? (i := 279) (by decide +kernel), by decide +kernel⟩
theorem qm_min1 : Cond.static Lib.Math.min.name ∈ lw_G := List.mem_filter.mpr ⟨List.mem_of_getElem? (i := 357) (by decide +kernel), by decide +kernel⟩
theorem qm_min2 : Cond.code Lib.Math.min.name Lib.Math.min.code 2 (some .int) ∈ lw_G := List.mem_filter.mpr ⟨List.mem_of_getElem? (i := 358) (by decide +kernel), by decide +kernel⟩
section ZR2
variable {p : Program} {l : Launch} {e : Env} {R : Room} {s : State} {m : MethodId} {args : Array Value} {below : List Frame} {meth : Method} {c : Code} {H : Heap} {locs : List Loc} {cells slots : Nat} {Q : State → Prop}
variable {cc : ByteArray} {pc nL : Nat} {ls : Array Slot} {rest : List Value} {own : String} {X : zC} {N : zN} {g : zG} {α : Type} {o : α}
theorem zlet_elim {x : Int} {F : Int → Option α} (h : zlet x F = some o) : F x = some o := h
theorem zr_let {x : Int} {F : Int → Option α} (h : zlet x F = some o) (kk : ∀ y : Int, F y = some o → W p l e R s m args below meth c H locs cells slots Q (F0 m pc ls (z_v y :: rest))) : W p l e R s m args below meth c H locs cells slots Q (F0 m pc ls (z_v x :: rest)) := kk x h
theorem zr_iinc (hF : zF p s m args meth c X cc nL own) {i k : Nat} {n x : Int} {lv : List (Nat × Value)} {lv' : Int → List (Nat × Value)} {F : Int → Option α} (h : zlet (x + n) F = some o) (hdg : decode cc pc = .ok (.iinc i n, 3)) (hl : lv_has ls nL lv) (hk : lv[k]? = some (i, z_v x)) (hn : i < nL) (hv : ∀ y : Int, (i, z_v y) :: lv.filter (fun q => !(q.1 == i) && !(q.1 + 1 == i && q.2.category == 2)) = lv' y)
    (kk : ∀ (y : Int) (ls : Array Slot), lv_has ls nL (lv' y) → F y = some o → W p l e R s m args below meth c H locs cells slots Q (F0 m (pc + 3) ls rest)) : W p l e R s m args below meth c H locs cells slots Q (F0 m pc ls rest) :=
  lv_iinc (v := Int32.ofInt (x + n)) (lv' := lv' (x + n)) hF.1.1 hF.1.2.1 hdg hl hk (Int32.ofInt_add x n).symm hn (hv _) (fun ls' hl' => kk (x + n) ls' hl' h)
theorem zr_case {P : Prop} {x y : Int} {A B : Option α} (h : zeq x y A B = some o) (kA : x = y → A = some o → P) (kB : ¬ x = y → zIn x → B = some o → P) : P := by
  unfold zeq at h
  split at h
  · rename_i q
    split at h
    · rename_i z
      exact kA z h
    · rename_i z
      exact kB z q.1 h
  · cases h
theorem zr_cast (hF : zF p s m args meth c X cc nL own) (hw : zH X N g s H locs) {k i : Nat} (hE : zE N k i) (hk : k < 10) {C : String} {T : u_T} {n idx : Nat} (hc : zCls k C T n) (hl : Cond.classLink own idx C ∈ lw_G) (hdg : decode cc pc = .ok (.checkcast idx, 3))
    (kk : W p l e R s m args below meth c H locs cells slots Q (F0 m (pc + 3) ls (z_r N k i :: rest))) : W p l e R s m args below meth c H locs cells slots Q (F0 m pc ls (z_r N k i :: rest)) :=
  va_castS hF.1.1 hF.1.2.1 hF.1.2.2.2.1 (hF.1.2.2.2.2 _ hl) (hF.2.1.1 _ _ hc.1).2 (z_recv hF hw hE hk hc) hdg kk
theorem zr_max (hF : zF p s m args meth c X cc nL own) (hl : ls.size = nL) {x y : Int} {idx : Nat} (hlink : Cond.methodLink own idx Lib.Math.max.name ∈ lw_G) {A : Option α} (h : zri x (zri y A) = some o) (hdg : decode cc pc = .ok (.invokestatic idx, 3)) (hR : 1 ≤ R.frames ∧ 21 ≤ R.locals) (hrest : (rest.map fun v => v.category).sum ≤ 8) (hcs : cells ≤ R.cells ∧ slots ≤ R.slots)
    (kk : A = some o → W p l e R s m args below meth c H locs cells slots Q (F0 m (pc + 3) ls (z_v (max x y) :: rest))) : W p l e R s m args below meth c H locs cells slots Q (F0 m pc ls (z_v y :: z_v x :: rest)) := by
  unfold zri at h
  split at h
  · rename_i hx
    split at h
    · rename_i hy
      have hm : (if Int32.ofInt x < Int32.ofInt y then Int32.ofInt y else Int32.ofInt x) = Int32.ofInt (max x y) := by
        by_cases c9 : x < y
        · rw [if_pos ((z_lt hx hy).mpr c9), Int.max_eq_right (by omega)]
        · rw [if_neg (fun z => c9 ((z_lt hx hy).mp z)), Int.max_eq_left (by omega)]
      refine va_mmax hF.1.1 hF.1.2.1 (hF.1.2.2.1.trans hl.symm) hF.1.2.2.2.1 (hF.1.2.2.2.2 _ hlink) (hF.1.2.2.2.2 _ qm_max1) (hF.1.2.2.2.2 _ qw_23) (hF.1.2.2.2.2 _ qm_max2) hR.1 (by omega) hcs.1 hcs.2 hdg ?_
      rw [hm]
      exact kk h
    · cases h
  · cases h
theorem zr_min (hF : zF p s m args meth c X cc nL own) (hl : ls.size = nL) {x y : Int} {idx : Nat} (hlink : Cond.methodLink own idx Lib.Math.min.name ∈ lw_G) {A : Option α} (h : zri x (zri y A) = some o) (hdg : decode cc pc = .ok (.invokestatic idx, 3)) (hR : 1 ≤ R.frames ∧ 21 ≤ R.locals) (hrest : (rest.map fun v => v.category).sum ≤ 8) (hcs : cells ≤ R.cells ∧ slots ≤ R.slots)
    (kk : A = some o → W p l e R s m args below meth c H locs cells slots Q (F0 m (pc + 3) ls (z_v (min x y) :: rest))) : W p l e R s m args below meth c H locs cells slots Q (F0 m pc ls (z_v y :: z_v x :: rest)) := by
  unfold zri at h
  split at h
  · rename_i hx
    split at h
    · rename_i hy
      have hm : (if Int32.ofInt y < Int32.ofInt x then Int32.ofInt y else Int32.ofInt x) = Int32.ofInt (min x y) := by
        by_cases c9 : y < x
        · rw [if_pos ((z_lt hy hx).mpr c9), Int.min_eq_right (by omega)]
        · rw [if_neg (fun z => c9 ((z_lt hy hx).mp z)), Int.min_eq_left (by omega)]
      refine va_mmin hF.1.1 hF.1.2.1 (hF.1.2.2.1.trans hl.symm) hF.1.2.2.2.1 (hF.1.2.2.2.2 _ hlink) (hF.1.2.2.2.2 _ qm_min1) (hF.1.2.2.2.2 _ qw_23) (hF.1.2.2.2.2 _ qm_min2) hR.1 (by omega) hcs.1 hcs.2 hdg ?_
      rw [hm]
      exact kk h
    · cases h
  · cases h
end ZR2
/-! the JDK's lists: size, get -/
set_option maxHeartbeats 4000000 in
set_option maxRecDepth 100000 in
theorem c_size (l : Launch) (X : zC) (N : zN) {g : zG} {i : Nat} (hE : zE N 1 i) : zM l yJx4a65c_size_8abf5 cJx4a65c_size_8abf5 1 (some .int) { frames := 0, cells := 0, slots := 0, locals := 0 } X N g [z_r N 1 i] (zQi X N (g 1 i 2) g) := by
  refine z_ofW (own := RJx4a65c) (by decide +kernel) rfl (Nat.le_of_ble_eq_true rfl) ?_
  intro p e s m args below meth c ls hF hr hw hl
  have hl : lv_has ls 1 [(0, z_r N 1 i)] := hl
  have hx := hF.1.1
  have hb := hF.1.2.1
  refine lv_aload_n hx hb dJx4a65c_size_8abf5_0 rfl (lv_at hl 0 rfl) ?_
  refine zr_get hF hw hE (by decide) zC_1 2 (by decide) qw_58 rfl dJx4a65c_size_8abf5_1 ?_
  exact zr_iret hF hr hw rfl dJx4a65c_size_8abf5_4
set_option maxHeartbeats 4000000 in
set_option maxRecDepth 100000 in
theorem c_chk3 (l : Launch) (X : zC) (N : zN) {g : zG} {j n : Int} (hj : 0 ≤ j ∧ j < n) (hn : zIn n) : zM l yJ3_checkIndex_8e157 cJ3_checkIndex_8e157 3 (some .int) { frames := 0, cells := 0, slots := 0, locals := 0 } X N g [z_v j, z_v n, .null] (zQi X N j g) := by
  refine z_ofW (own := RJ3) (by decide +kernel) rfl (Nat.le_of_ble_eq_true rfl) ?_
  intro p e s m args below meth c ls hF hr hw hl
  have hl : lv_has ls 3 [(0, z_v j), (1, z_v n), (2, .null)] := hl
  have hx := hF.1.1
  have hb := hF.1.2.1
  refine lv_iload_n hx hb dJ3_checkIndex_8e157_0 rfl (lv_at hl 0 rfl) ?_
  refine lv_if_lt (tgt := 9) hx hb dJ3_checkIndex_8e157_1 (by decide) (fun z => ?_) (fun _ => ?_)
  · exact absurd ((z_lt (x := j) (y := 0) ⟨by omega, by omega⟩ (by decide)).mp z) (by omega)
  refine lv_iload_n hx hb dJ3_checkIndex_8e157_4 rfl (lv_at hl 0 rfl) ?_
  refine lv_iload_n hx hb dJ3_checkIndex_8e157_5 rfl (lv_at hl 1 rfl) ?_
  refine lv_icmp_lt (tgt := 16) hx hb dJ3_checkIndex_8e157_6 (by decide) (fun _ => ?_) (fun z => ?_)
  · refine lv_iload_n hx hb dJ3_checkIndex_8e157_16 rfl (lv_at hl 0 rfl) ?_
    exact zr_iret hF hr hw rfl dJ3_checkIndex_8e157_17
  · exact absurd ((z_lt (x := j) (y := n) ⟨by omega, by omega⟩ hn).mpr hj.2) z
set_option maxHeartbeats 4000000 in
set_option maxRecDepth 100000 in
theorem c_chk2 (l : Launch) (X : zC) (N : zN) {g : zG} {j n : Int} (hj : 0 ≤ j ∧ j < n) (hn : zIn n) : zM l yJ15_checkIndex_7cf53 cJ15_checkIndex_7cf53 2 (some .int) { frames := 1, cells := 0, slots := 0, locals := 22 } X N g [z_v j, z_v n] (zQi X N j g) := by
  refine z_ofW (own := RJ15) (by decide +kernel) rfl (Nat.le_of_ble_eq_true rfl) ?_
  intro p e s m args below meth c ls hF hr hw hl
  have hl : lv_has ls 2 [(0, z_v j), (1, z_v n)] := hl
  have hx := hF.1.1
  have hb := hF.1.2.1
  refine lv_iload_n hx hb dJ15_checkIndex_7cf53_0 rfl (lv_at hl 0 rfl) ?_
  refine lv_iload_n hx hb dJ15_checkIndex_7cf53_1 rfl (lv_at hl 1 rfl) ?_
  refine lv_null hx hb dJ15_checkIndex_7cf53_2 ?_
  refine zr_callSi (n := 3) (As := [z_v j, z_v n, .null]) (rest := []) hF hw (c_chk3 l X N hj hn) (z_goodS qw_245 qw_246 qw_22 qw_247) (by decide +kernel) ⟨Nat.le_of_ble_eq_true rfl, Nat.le_of_ble_eq_true rfl⟩ ⟨rfl, rfl⟩ rfl hl.1 rfl (Nat.le_of_ble_eq_true rfl) dJ15_checkIndex_7cf53_3 ⟨Nat.le_of_ble_eq_true rfl, Nat.le_of_ble_eq_true rfl⟩ (fun H locs hw => ?_)
  exact zr_iret hF hr hw rfl dJ15_checkIndex_7cf53_6
theorem zr_aret {p : Program} {l : Launch} {e : Env} {R : Room} {s : State} {m : MethodId} {args : Array Value} {below : List Frame} {meth : Method} {c : Code} {H : Heap} {locs : List Loc} {cells slots : Nat} {cc : ByteArray} {pc nL : Nat} {ls : Array Slot} {own : String} {X : zC} {N : zN} {g : zG} (hF : zF p s m args meth c X cc nL own) {rt : FieldType} (hr : meth.sig.returnType = some rt) (hw : zH X N g s H locs) {k : Nat} {x r : Int} {g' : zG} (hE : zE N k x.toNat) (h : (some (x, g) : Option (Int × zG)) = some (r, g')) (hn : (∃ n, rt = .object n) ∨ ∃ t, rt = .array t) (hdg : decode cc pc = .ok (.areturn, 1)) : W p l e R s m args below meth c H locs cells slots (MQ below (zQr X N k r g') args s cells slots (zA X)) (F0 m pc ls [z_r N k x.toNat]) := by
  cases h
  exact W.aret (v := .ref (N.1 k x.toNat)) hF.1.1 hF.1.2.1 hr hn (Or.inr ⟨_, rfl⟩) (fun t ht hW => ⟨⟨(), N.1 k x.toNat, rfl, trivial, rfl, hE, by rw [ht]; exact hw.1, va_K.moved hW.alike hF.2.1, zS_pass hF.2.2.1 hw.2.1 hW ht⟩, hw.2.1.F ht⟩) hw.2.1.2.2 hdg hF.2.2.2
set_option maxHeartbeats 4000000 in
set_option maxRecDepth 100000 in
theorem c_elem (l : Launch) (X : zC) (N : zN) {g : zG} {i : Nat} (hi : i = 0 ∨ i = 1) {j : Int} (hj : 0 ≤ j ∧ j < g 1 i 2) : zM l yJx4a65c_elementData_915e3 cJx4a65c_elementData_915e3 2 (some (.object "java/lang/Object")) { frames := 0, cells := 0, slots := 0, locals := 0 } X N g [z_r N 1 i, z_v j] (zQr X N (4 + i) j g) := by
  refine z_ofW (own := RJx4a65c) (by decide +kernel) rfl (Nat.le_of_ble_eq_true rfl) ?_
  intro p e s m args below meth c ls hF hr hw hl
  have hl : lv_has ls 2 [(0, z_r N 1 i), (1, z_v j)] := hl
  have hx := hF.1.1
  have hb := hF.1.2.1
  have hE : zE N 1 i := hi.elim (fun z => by rw [z]; exact zEf_1_0) (fun z => by rw [z]; exact zEf_1_1)
  obtain ⟨s1, s2, s3, s4, s5, s6, s7, s8, -⟩ := hw.1.2.2.1
  have hlt : j.toNat < N.2 i ∧ N.2 i ≤ N.2 (2 + i) ∧ N.2 (2 + i) ≤ 40 := by
    rcases hi with rfl | rfl
    · rw [s1] at hj; exact ⟨by omega, s5, s7⟩
    · rw [s2] at hj; exact ⟨by omega, s6, s8⟩
  have hE2 : zE N 16 i := zE_iff.mpr ⟨by decide, by rcases hi with rfl | rfl <;> decide, by
    have h1 : i < 2 := by omega
    have h2 : N.2 (2 + i) ≠ 0 := by omega
    simp [z_ex, h1, h2]⟩
  have hE4 : zE N (4 + i) j.toNat := by
    rcases hi with rfl | rfl
    · exact zE_fl hw.1.2.2.1 hlt.1
    · exact zE_rg hw.1.2.2.1 hlt.1
  refine lv_aload_n hx hb dJx4a65c_elementData_915e3_0 rfl (lv_at hl 0 rfl) ?_
  refine zr_get (v := z_r N 16 i) hF hw hE (by decide) zC_1 1 (by decide) qw_57 (by
    have h2 : ¬ N.2 (2 + i) = 0 := by omega
    simp [z_obj, h2]) dJx4a65c_elementData_915e3_1 ?_
  refine lv_iload_n hx hb dJx4a65c_elementData_915e3_4 rfl (lv_at hl 1 rfl) ?_
  obtain ⟨q0, -, hq⟩ := z_place (X := X) (g := g) hE2
  obtain ⟨hin, he⟩ := z_vin (j := j) (n := N.2 (2 + i)) (by omega) ⟨hj.1, by omega⟩
  refine va_aldq (f := fun j => if j < N.2 i then some (N.1 (4 + i) j) else none) (n := N.2 (2 + i)) hx hb hF.2.1 hw.1.1 q0 3 hq rfl hin dJx4a65c_elementData_915e3_5 ?_
  rw [he]
  have hv : va_rf (if j.toNat < N.2 i then some (N.1 (4 + i) j.toNat) else none) = z_r N (4 + i) j.toNat := by rw [if_pos hlt.1]; rfl
  rw [hv]
  exact zr_aret hF hr hw hE4 rfl (Or.inl ⟨_, rfl⟩) dJx4a65c_elementData_915e3_6
set_option maxHeartbeats 4000000 in
set_option maxRecDepth 100000 in
theorem c_lget (l : Launch) (X : zC) (N : zN) {g : zG} {i : Nat} (hi : i = 0 ∨ i = 1) {j : Int} (hj : 0 ≤ j ∧ j < g 1 i 2) : zM l yJx4a65c_get_915e3 cJx4a65c_get_915e3 2 (some (.object "java/lang/Object")) { frames := 2, cells := 0, slots := 0, locals := 60 } X N g [z_r N 1 i, z_v j] (zQr X N (4 + i) j g) := by
  refine z_ofW (own := RJx4a65c) (by decide +kernel) rfl (Nat.le_of_ble_eq_true rfl) ?_
  intro p e s m args below meth c ls hF hr hw hl
  have hl : lv_has ls 2 [(0, z_r N 1 i), (1, z_v j)] := hl
  have hx := hF.1.1
  have hb := hF.1.2.1
  have hE : zE N 1 i := hi.elim (fun z => by rw [z]; exact zEf_1_0) (fun z => by rw [z]; exact zEf_1_1)
  have hz : zIn (g 1 i 2) := by
    obtain ⟨s1, s2, s3, s4, -, -, -, -, s9, s10⟩ := hw.1.2.2.1
    rcases hi with rfl | rfl
    · rw [s1]; exact ⟨by omega, by omega⟩
    · rw [s2]; exact ⟨by omega, by omega⟩
  refine lv_iload_n hx hb dJx4a65c_get_915e3_0 rfl (lv_at hl 1 rfl) ?_
  refine lv_aload_n hx hb dJx4a65c_get_915e3_1 rfl (lv_at hl 0 rfl) ?_
  refine zr_get hF hw hE (by decide) zC_1 2 (by decide) qw_58 rfl dJx4a65c_get_915e3_2 ?_
  refine zr_callSi (n := 2) (As := [z_v j, z_v (g 1 i 2)]) (rest := []) hF hw (c_chk2 l X N hj hz) (z_goodS qw_242 qw_243 qw_21 qw_244) (by decide +kernel) ⟨Nat.le_of_ble_eq_true rfl, Nat.le_of_ble_eq_true rfl⟩ ⟨rfl, rfl⟩ rfl hl.1 rfl (Nat.le_of_ble_eq_true rfl) dJx4a65c_get_915e3_5 ⟨Nat.le_of_ble_eq_true rfl, Nat.le_of_ble_eq_true rfl⟩ (fun H locs hw => ?_)
  refine lv_pop hx hb dJx4a65c_get_915e3_8 rfl ?_
  refine lv_aload_n hx hb dJx4a65c_get_915e3_9 rfl (lv_at hl 0 rfl) ?_
  refine lv_iload_n hx hb dJx4a65c_get_915e3_10 rfl (lv_at hl 1 rfl) ?_
  refine zr_callVr (n := 1) (As := [z_v j]) (rest := []) hF hw (c_elem l X N hi hj) hE (by decide) zC_1 (z_goodV qw_248 qw_249 qw_250 qw_18 qw_251) (by decide +kernel) ⟨Nat.le_of_ble_eq_true rfl, Nat.le_of_ble_eq_true rfl⟩ ⟨rfl, rfl⟩ rfl hl.1 rfl (Nat.le_of_ble_eq_true rfl) dJx4a65c_get_915e3_11 ⟨Nat.le_of_ble_eq_true rfl, Nat.le_of_ble_eq_true rfl⟩ (fun H locs hw hE4 => ?_)
  exact zr_aret hF hr hw hE4 rfl (Or.inl ⟨_, rfl⟩) dJx4a65c_get_915e3_14
section ZR3
variable {p : Program} {l : Launch} {e : Env} {R : Room} {s : State} {m : MethodId} {args : Array Value} {below : List Frame} {meth : Method} {c : Code} {H : Heap} {locs : List Loc} {cells slots : Nat} {Q : State → Prop}
variable {cc : ByteArray} {pc nL : Nat} {ls : Array Slot} {rest : List Value} {own : String} {X : zC} {N : zN} {g : zG} {α : Type} {o : α}
theorem zr_size (hF : zF p s m args meth c X cc nL own) (hw : zH X N g s H locs) (hl : ls.size = nL) {i idx : Nat} (hE : zE N 1 i) (hq : Cond.methodLink own idx yJx4a65c_size_8abf5 ∈ lw_G) (hrest : (rest.map fun v => v.category).sum ≤ 8) (hdg : decode cc pc = .ok (.invokevirtual idx, 3)) (hR : 1 ≤ R.frames ∧ 20 ≤ R.locals) (hcs : cells ≤ R.cells ∧ slots ≤ R.slots)
    (kk : ∀ (H : Heap) (locs : List Loc), zH X N g s H locs → W p l e R s m args below meth c H locs cells slots Q (F0 m (pc + 3) ls (z_v (g 1 i 2) :: rest))) : W p l e R s m args below meth c H locs cells slots Q (F0 m pc ls (z_r N 1 i :: rest)) :=
  zr_callVi (n := 0) (As := []) (rest := rest) hF hw (c_size l X N hE) hE (by decide) zC_1 (z_goodV hq qw_235 qw_236 qw_18 qw_237) (by decide +kernel) ⟨hR.1, hR.2⟩ ⟨rfl, rfl⟩ rfl hl rfl hrest hdg hcs kk
theorem zr_lget (hF : zF p s m args meth c X cc nL own) (hw : zH X N g s H locs) (hl : ls.size = nL) {i idx : Nat} (hi : i = 0 ∨ i = 1) (hE : zE N 1 i) (hq : Cond.methodLink own idx yJx4a65c_get_915e3 ∈ lw_G) {j : Int} {A : Option α} (h : zli j (g 1 i 2) A = some o) (hrest : (rest.map fun v => v.category).sum ≤ 8) (hdg : decode cc pc = .ok (.invokevirtual idx, 3)) (hR : 3 ≤ R.frames ∧ 81 ≤ R.locals) (hcs : cells ≤ R.cells ∧ slots ≤ R.slots)
    (kk : ∀ (H : Heap) (locs : List Loc), zH X N g s H locs → zE N (4 + i) j.toNat → A = some o → W p l e R s m args below meth c H locs cells slots Q (F0 m (pc + 3) ls (z_r N (4 + i) j.toNat :: rest))) : W p l e R s m args below meth c H locs cells slots Q (F0 m pc ls (z_v j :: z_r N 1 i :: rest)) := by
  unfold zli at h
  split at h
  · rename_i hj
    exact zr_callVr (n := 1) (As := [z_v j]) (rest := rest) hF hw (c_lget l X N hi hj) hE (by decide) zC_1 (z_goodV hq qw_239 qw_240 qw_18 qw_241) (by decide +kernel) ⟨hR.1, hR.2⟩ ⟨rfl, rfl⟩ rfl hl rfl hrest hdg hcs (fun H1 locs1 hw1 hE4 => kk H1 locs1 hw1 hE4 h)
  · cases h
theorem zr_lget0 (hF : zF p s m args meth c X cc nL own) (hw : zH X N g s H locs) (hl : ls.size = nL) {idx : Nat} (hq : Cond.methodLink own idx yJx4a65c_get_915e3 ∈ lw_G) {j : Int} {A : Option α} (h : zli j (g 1 0 2) A = some o) (hrest : (rest.map fun v => v.category).sum ≤ 8) (hdg : decode cc pc = .ok (.invokevirtual idx, 3)) (hR : 3 ≤ R.frames ∧ 81 ≤ R.locals) (hcs : cells ≤ R.cells ∧ slots ≤ R.slots)
    (kk : ∀ (H : Heap) (locs : List Loc), zH X N g s H locs → zE N 4 j.toNat → A = some o → W p l e R s m args below meth c H locs cells slots Q (F0 m (pc + 3) ls (z_r N 4 j.toNat :: rest))) : W p l e R s m args below meth c H locs cells slots Q (F0 m pc ls (z_v j :: z_r N 1 0 :: rest)) :=
  zr_lget hF hw hl (Or.inl rfl) zEf_1_0 hq h hrest hdg hR hcs kk
theorem zr_lget1 (hF : zF p s m args meth c X cc nL own) (hw : zH X N g s H locs) (hl : ls.size = nL) {idx : Nat} (hq : Cond.methodLink own idx yJx4a65c_get_915e3 ∈ lw_G) {j : Int} {A : Option α} (h : zli j (g 1 1 2) A = some o) (hrest : (rest.map fun v => v.category).sum ≤ 8) (hdg : decode cc pc = .ok (.invokevirtual idx, 3)) (hR : 3 ≤ R.frames ∧ 81 ≤ R.locals) (hcs : cells ≤ R.cells ∧ slots ≤ R.slots)
    (kk : ∀ (H : Heap) (locs : List Loc), zH X N g s H locs → zE N 5 j.toNat → A = some o → W p l e R s m args below meth c H locs cells slots Q (F0 m (pc + 3) ls (z_r N 5 j.toNat :: rest))) : W p l e R s m args below meth c H locs cells slots Q (F0 m pc ls (z_v j :: z_r N 1 1 :: rest)) :=
  zr_lget hF hw hl (Or.inr rfl) zEf_1_1 hq h hrest hdg hR hcs kk
end ZR3

/-! rows of the law's body: its script, its draws -/
abbrev zRL : Room := { frames := 13, cells := 600104, slots := 7301314, locals := 520 }
/-- what the law's body knows of its script -/
def zX_ (b L : Nat) (xs : Nat → Int32) (s : State) (X : zC) : Prop := va_X b L xs s s.heap ∧ b < s.heap.size ∧ X.2.2.1 = s.heap.size ∧ L ≤ 260
def zxs (xs : Nat → Int32) (j : Int) : Int := (xs j.toNat).toInt
def zdr (x : Int) : Int := x % 2147483648
theorem z_andM (x : Int32) : x &&& 2147483647 = Int32.ofInt (zdr x.toInt) := by
  unfold zdr
  apply Int32.toBitVec_inj.mp
  rw [Int32.toBitVec_and]
  apply BitVec.eq_of_toNat_eq
  have e31 : (2147483647 : Int32).toBitVec = BitVec.ofNat 32 2147483647 := by decide
  rw [e31, BitVec.toNat_and]
  have e2 : (Int32.ofInt (x.toInt % 2147483648)).toBitVec = BitVec.ofInt 32 (x.toInt % 2147483648) := rfl
  rw [e2, BitVec.toNat_ofInt]
  have e3 : x.toInt = x.toBitVec.toInt := rfl
  rw [e3, BitVec.toInt_eq_toNat_cond]
  have e4 : (BitVec.ofNat 32 2147483647).toNat = 2 ^ 31 - 1 := by decide
  rw [e4, Nat.and_two_pow_sub_one_eq_mod]
  have hx := x.toBitVec.isLt
  split <;> omega
theorem zUX_blind {X : zC} {N : zN} {g : zG} {b L : Nat} {xs : Nat → Int32} {av : List Value} : FrameBlind (va_Pc av (fun U => zU X N g U ∧ va_X b L xs U U.heap)) := by
  intro a U g9 mk q
  obtain ⟨q0, q1, q2⟩ := q
  exact ⟨q0, (zU_blind (av := av) a U g9 mk ⟨q0, q1⟩).2, va_X.moved (u := U) (U := U.calling g9 mk a) (Vm.Alike.refl U.vm) q2⟩
set_option maxHeartbeats 4000000 in
theorem czL_draw (l : Launch) (X : zC) (N : zN) {g : zG} {b L : Nat} {xs : Nat → Int32} {j : Int} (hbX : b < X.2.2.1) (hj : 0 ≤ j ∧ j < L) (hL : L ≤ 260) : Met l yL_draw (zws yL_draw cL_draw 2 (some .int)) { frames := 1, cells := 0, slots := 0, locals := 40 } (va_Pc [.ref b, z_v j] (fun U => zU X N g U ∧ va_X b L xs U U.heap)) (zQi X N (zdr (zxs xs j)) g) 0 0 (zA X) := by
  refine Met.ofW (cc := cL_draw) (maxL := 2) (ret := some .int) (by decide +kernel) rfl ?_
  intro p e s m args below meth c s₁ B hml hv
  obtain ⟨rfl, ⟨hWd, hK, hS⟩, hXX⟩ := hv
  have hts : ∀ w ∈ lw_G, w.before [Value.ref b, z_v j].toArray s = true := fun w hw => atoms_spec (ws := zws yL_draw cL_draw 2 (some .int)) B.pre w (List.mem_cons_of_mem _ hw)
  have hown : s.vm.findClass RL = some m.cls := findClass_of_methodNamed B.named
  have hl := lv_entry [Value.ref b, z_v j] (n := 2) (Nat.le_of_ble_eq_true rfl)
  rw [lg_entry_eq]
  have hF : zF p s m [Value.ref b, z_v j].toArray meth c X cL_draw 2 RL := ⟨⟨B.exec, B.bytes, hml, hown, hts⟩, hK, hS, B.notSynchronized⟩
  have hw : zH X N g s s.heap [] := ⟨hWd, va_S.rf, hWd.2.2.2.2.1⟩
  generalize (lg_sl ([Value.ref b, z_v j]) ++ List.replicate (2 - (lg_sl ([Value.ref b, z_v j])).length) Slot.unset).toArray = ls at hl ⊢
  have hl : lv_has ls 2 [(0, .ref b), (1, z_v j)] := hl
  have hx := hF.1.1
  have hb := hF.1.2.1
  have hbl : b < s.heap.size := Nat.lt_of_lt_of_le hbX hw.2.2
  have hbA : ¬ zA X b := by show ¬ X.2.2.1 ≤ b; omega
  refine lv_iload_n hx hb dL_draw_0 rfl (lv_at hl 1 rfl) ?_
  refine lv_aload_n hx hb dL_draw_1 rfl (lv_at hl 0 rfl) ?_
  refine va_slen (A := zA X) hx hb hXX hbl hbA hw.2.1 dL_draw_2 ?_
  refine zr_icmp_ge (tgt := 15) (x := j) (y := (L : Int)) (A := some ()) (B := none) (o := ()) hF (by unfold zlt; simp only [zIn]; rw [if_pos (by omega), if_pos (by omega)]) dL_draw_3 (by decide) (fun h => nomatch h) (fun _ => ?_)
  refine lv_aload_n hx hb dL_draw_6 rfl (lv_at hl 0 rfl) ?_
  refine lv_iload_n hx hb dL_draw_7 rfl (lv_at hl 1 rfl) ?_
  obtain ⟨hin, he⟩ := z_vin (n := L) (by omega) hj
  refine va_sld (A := zA X) hx hb hXX hbl hbA hw.2.1 hin dL_draw_8 ?_
  rw [he]
  refine lv_ldc (v := 2147483647) hx hb hown (hts _ qw_426) dL_draw_9 ?_
  refine lv_iand hx hb dL_draw_11 ?_
  rw [z_andM]
  refine lv_goto (tgt := 24) hx hb dL_draw_12 (by decide) ?_
  exact zr_iret hF B.returns hw rfl dL_draw_24
section ZL
variable {p : Program} {l : Launch} {e : Env} {R : Room} {s : State} {m : MethodId} {args : Array Value} {below : List Frame} {meth : Method} {c : Code} {H : Heap} {locs : List Loc} {cells slots : Nat} {Q : State → Prop}
variable {cc : ByteArray} {pc nL : Nat} {ls : Array Slot} {rest : List Value} {X : zC} {N : zN} {g g' : zG}
theorem zl_slen {own : String} (hF : zF p s m args meth c X cc nL own) (hw : zH X N g s H locs) {b L : Nat} {xs : Nat → Int32} (hX : zX_ b L xs s X) (hdg : decode cc pc = .ok (.arraylength, 1))
    (kk : W p l e R s m args below meth c H locs cells slots Q (F0 m (pc + 1) ls (z_v (L : Int) :: rest))) : W p l e R s m args below meth c H locs cells slots Q (F0 m pc ls (.ref b :: rest)) := by
  obtain ⟨h1, h2, h3, h4⟩ := hX
  exact va_slen (A := zA X) hF.1.1 hF.1.2.1 h1 h2 (by show ¬ X.2.2.1 ≤ b; omega) hw.2.1 hdg kk
theorem zl_draw (hF : zF p s m args meth c X cc nL RL) (hw : zH X N g s H locs) {b L : Nat} {xs : Nat → Int32} (hX : zX_ b L xs s X) {j : Int} (hj : 0 ≤ j ∧ j < L) (hl : ls.size = nL) (hR : 2 ≤ R.frames ∧ 80 ≤ R.locals) (hrest : (rest.map fun v => v.category).sum ≤ 8) (hdg : decode cc pc = .ok (.invokestatic 128, 3)) (hcs : cells ≤ R.cells ∧ slots ≤ R.slots)
    (kk : ∀ (H : Heap) (locs : List Loc), zH X N g s H locs → W p l e R s m args below meth c H locs cells slots Q (F0 m (pc + 3) ls (z_v (zdr (zxs xs j)) :: rest))) : W p l e R s m args below meth c H locs cells slots Q (F0 m pc ls (z_v j :: .ref b :: rest)) := by
  obtain ⟨h1, h2, h3, h4⟩ := hX
  refine va_calli (va_runS (As := [.ref b, z_v j]) (rest := rest) hF.1 (czL_draw l X N (g := g) (b := b) (L := L) (xs := xs) (j := j) (by omega) hj h4) (va_cwS 2 hF.1.2.2.2.2 (z_goodS qw_423 qw_424 qw_14 qw_425) rfl rfl rfl (by decide +kernel) ⟨by show 1 + 1 ≤ _; omega, by show 8 + (2 + 11) + 40 ≤ _; omega⟩) ⟨zUX_blind, fun U hU hW => ?_⟩ rfl rfl hl rfl (lv_room hrest) hdg hcs) hw.2.1 (fun q _ h => h) (fun q h => h) (fun r' u t H1 locs1 ht hvm hp hB hz1 hk1 hS => ?_)
  · have z := z_pre (av := [.ref b, z_v j]) hF hw U hU hW
    refine ⟨z.1, z.2, ?_⟩
    rw [hU]
    refine va_X.kept (va_X.moved hW.alike h1) ?_
    exact hw.2.1.2.1 b h2 (by show ¬ X.2.2.1 ≤ b; omega)
  · rw [hp]
    exact kk H1 locs1 (zH_back hw ht hB hS)
end ZL

/-! rows of the law's body: its small methods, its script -/
abbrev zRL : Room := { frames := 12, cells := 601024, slots := 7293034, locals := 438 }
/-- what the law's body knows of its script -/
def zX_ (b L : Nat) (xs : Nat → Int32) (s : State) (X : zC) : Prop := va_X b L xs s s.heap ∧ b < s.heap.size ∧ X.2.2.1 = s.heap.size ∧ L ≤ 2560
def zxs (xs : Nat → Int32) (j : Int) : Int := (xs j.toNat).toInt
section ZL
variable {p : Program} {l : Launch} {e : Env} {R : Room} {s : State} {m : MethodId} {args : Array Value} {below : List Frame} {meth : Method} {c : Code} {H : Heap} {locs : List Loc} {cells slots : Nat} {Q : State → Prop}
variable {cc : ByteArray} {pc nL : Nat} {ls : Array Slot} {rest : List Value} {own : String} {X : zC} {N : zN} {g g' : zG} {o : Nat × Int} {α : Type} {w : α}
theorem zl_call (hF : zF p s m args meth c X cc nL own) (hw : zH X N g s H locs) {y : MethodName} {b : ByteArray} {mL n idx : Nat} {rt : Option FieldType} {hh : List (Nat × Nat × Nat × Nat)} {rm : Room} {As : List Value} {r : Int} {g' : zG} (hM : zMW l y b mL rt hh rm X N g As (zQn X N r g'))
    (hG : GoodIn lw_G (va_wsS own idx y (zws2 y b mL rt hh))) (hd : y.cls ≠ "java/lang/invoke/MethodHandle" ∧ y.cls ≠ "java/lang/invoke/VarHandle" ∧ (parseMethodDescriptor y.desc).map (fun d => d.parameters.length) = some n) (hR : rm.frames + 1 ≤ R.frames ∧ 8 + (mL + 11) + rm.locals ≤ R.locals) (hn : As.length = n) (hl : ls.size = nL) {st0 : List Value} (hst : st0 = As.reverse ++ rest) (hrest : (rest.map fun v => v.category).sum ≤ 8) (hdg : decode cc pc = .ok (.invokestatic idx, 3)) (hcs : cells + rm.cells ≤ R.cells ∧ slots + rm.slots ≤ R.slots)
    (kk : ∀ (N' : zN) (H : Heap) (locs : List Loc), zSame N N' → zH X N' g' s H locs → W p l e R s m args below meth c H locs (cells + rm.cells) (slots + rm.slots) Q (F0 m (pc + 3) ls (z_v r :: rest))) : W p l e R s m args below meth c H locs cells slots Q (F0 m pc ls st0) := by
  refine va_calli (vx_runSW (As := As) (rest := rest) hF.1 hM (vx_cwSW n hF.1.2.2.2.2 hG rfl rfl rfl hd hR) ⟨zU_blind, z_pre hF hw⟩ rfl hn hl hst (lv_room hrest) hdg hcs) hw.2.1 (fun q _ h => h) (fun q h => h) (fun r' N' t H1 locs1 ht hvm hp hB hz1 hk1 hS => ?_)
  rw [hp]
  exact kk N' H1 locs1 hB.1 (zH_back hw ht hB.2 hS)
theorem zl_sld (hF : zF p s m args meth c X cc nL own) (hw : zH X N g s H locs) {b L : Nat} {xs : Nat → Int32} (hX : zX_ b L xs s X) {j : Int} (hj : 0 ≤ j ∧ j < L) (hdg : decode cc pc = .ok (.iaload, 1))
    (kk : W p l e R s m args below meth c H locs cells slots Q (F0 m (pc + 1) ls (z_v (zxs xs j) :: rest))) : W p l e R s m args below meth c H locs cells slots Q (F0 m pc ls (z_v j :: .ref b :: rest)) := by
  obtain ⟨h1, h2, h3, h4⟩ := hX
  obtain ⟨hin, he⟩ := z_vin (n := L) (by omega) hj
  refine va_sld (A := zA X) hF.1.1 hF.1.2.1 h1 h2 (by show ¬ X.2.2.1 ≤ b; omega) hw.2.1 hin hdg ?_
  rw [he]
  have : (Int32.ofInt (zxs xs j)) = xs j.toNat := Int32.ofInt_toInt _
  rw [← this]
  exact kk
theorem zl_slen (hF : zF p s m args meth c X cc nL own) (hw : zH X N g s H locs) {b L : Nat} {xs : Nat → Int32} (hX : zX_ b L xs s X) (hdg : decode cc pc = .ok (.arraylength, 1))
    (kk : W p l e R s m args below meth c H locs cells slots Q (F0 m (pc + 1) ls (z_v (L : Int) :: rest))) : W p l e R s m args below meth c H locs cells slots Q (F0 m pc ls (.ref b :: rest)) := by
  obtain ⟨h1, h2, h3, h4⟩ := hX
  refine va_slen (A := zA X) hF.1.1 hF.1.2.1 h1 h2 (by show ¬ X.2.2.1 ≤ b; omega) hw.2.1 hdg ?_
  exact kk
theorem z_and31 (x : Int32) : x &&& Int32.ofInt 31 = Int32.ofInt (x.toInt % 32) := by
  have h1 : x = Int32.ofInt x.toInt := (Int32.ofInt_toInt x).symm
  apply Int32.toBitVec_inj.mp
  rw [Int32.toBitVec_and]
  apply BitVec.eq_of_toNat_eq
  have e31 : (Int32.ofInt 31).toBitVec = BitVec.ofNat 32 31 := by decide
  rw [e31, BitVec.toNat_and]
  have e2 : (Int32.ofInt (x.toInt % 32)).toBitVec = BitVec.ofInt 32 (x.toInt % 32) := rfl
  rw [e2, BitVec.toNat_ofInt]
  have e3 : x.toInt = x.toBitVec.toInt := rfl
  rw [e3, BitVec.toInt_eq_toNat_cond]
  have e4 : (BitVec.ofNat 32 31).toNat = 2 ^ 5 - 1 := by decide
  rw [e4, Nat.and_two_pow_sub_one_eq_mod]
  have hx := x.toBitVec.isLt
  split <;> omega
end ZL

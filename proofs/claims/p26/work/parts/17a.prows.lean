/-! ROWS of the law's own methods: they call what may throw (and doesn't, or is caught), and each other -/
def zbn {β : Type} (a : Option ((Nat × Int) × zG)) (f : Int → zG → Option β) : Option β := match a with
  | none => none
  | some o => if o.1.1 = 0 then f o.1.2 o.2 else none
theorem zbn_some {β : Type} {a : Option ((Nat × Int) × zG)} {f : Int → zG → Option β} {w : β} (h : zbn a f = some w) : ∃ (o : Nat × Int) (g : zG), a = some (o, g) ∧ ((o.1 = 0 ∧ f o.2 g = some w) ∨ (o.1 ≠ 0 ∧ False)) := by
  unfold zbn at h
  split at h
  · cases h
  · rename_i q
    refine ⟨q.1, q.2, rfl, ?_⟩
    split at h
    · rename_i z
      exact Or.inl ⟨z, h⟩
    · cases h
/-- a call whose throws number c1 and c2 are caught, and answered by v1, v2 -/
def zbk {β : Type} (c1 : Nat) (v1 : zG → Option β) (c2 : Nat) (v2 : zG → Option β) (a : Option ((Nat × Int) × zG)) (f : Int → zG → Option β) : Option β := match a with
  | none => none
  | some o => if o.1.1 = 0 then f o.1.2 o.2 else if o.1.1 = c1 then v1 o.2 else if o.1.1 = c2 then v2 o.2 else none
theorem zbk_some {β : Type} {c1 c2 : Nat} {v1 v2 : zG → Option β} {a : Option ((Nat × Int) × zG)} {f : Int → zG → Option β} {w : β} (h : zbk c1 v1 c2 v2 a f = some w) : ∃ (o : Nat × Int) (g : zG), a = some (o, g) ∧ ((o.1 = 0 ∧ f o.2 g = some w) ∨ (o.1 ≠ 0 ∧ ((o.1 = c1 ∧ v1 g = some w) ∨ (o.1 = c2 ∧ v2 g = some w)))) := by
  unfold zbk at h
  split at h
  · cases h
  · rename_i q
    refine ⟨q.1, q.2, rfl, ?_⟩
    split at h
    · rename_i z
      exact Or.inl ⟨z, h⟩
    · rename_i z
      refine Or.inr ⟨z, ?_⟩
      split at h
      · rename_i z1
        exact Or.inl ⟨z1, h⟩
      · split at h
        · rename_i z1
          exact Or.inr ⟨z1, h⟩
        · cases h
theorem zSame.tr {N N1 N2 : zN} (h : zSame N N1) (h' : zSame N1 N2) : zSame N N2 := ⟨fun k i a b c d e => (h'.1 k i a b c d e).trans (h.1 k i a b c d e), fun q => h'.2 (h.2 q)⟩
theorem z_e0 {N N' : zN} (h : zSame N N') : z_r N' 0 0 = z_r N 0 0 := congrArg Value.ref (h.1 0 0 (by decide) (by decide) (by decide) (by decide) (by decide))
theorem z_e17 {N N' : zN} (h : zSame N N') : z_r N' 17 0 = z_r N 17 0 := congrArg Value.ref (h.1 17 0 (by decide) (by decide) (by decide) (by decide) (by decide))
/-- contracts of the law's methods without handlers; those with handlers are zMW -/
abbrev zMC (l : Launch) (y : MethodName) (b : ByteArray) (n : Nat) (ret : Option FieldType) (rm : Room) (X : zC) (N : zN) (g : zG) (av : List Value) (Qc : Array Value → State → Outcome → State → Prop) : Prop :=
  Met l y (zws y b n ret) rm (va_Pc av (fun U => zU X N g U)) Qc rm.cells rm.slots (zA X)
theorem z_cofW {l : Launch} {y : MethodName} {cc : ByteArray} {maxL : Nat} {ret : Option FieldType} {rm : Room} {X : zC} {N : zN} {g : zG} {av : List Value} {Qc : Array Value → State → Outcome → State → Prop} {own : String} (hy : plainName y.cls = true) (ho : y.cls = own) (hn : (lg_sl av).length ≤ maxL)
    (body : ∀ p e s m args below meth c ls, zF p s m args meth c X cc maxL own → meth.sig.returnType = ret → zH X N g s s.heap [] → lv_has ls maxL (lv_args 0 av) → W p l e rm s m args below meth c s.heap [] 0 0 (MQ below Qc args s rm.cells rm.slots (zA X)) (F0 m 0 ls [])) : zMC l y cc maxL ret rm X N g av Qc := by
  refine Met.ofW (cc := cc) (maxL := maxL) (ret := ret) hy rfl ?_
  intro p e s m args below meth c s₁ B hml hv
  obtain ⟨rfl, hWd, hK, hS⟩ := hv
  have hts : ∀ w ∈ lw_G, w.before av.toArray s = true := fun w hw => atoms_spec (ws := zws y cc maxL ret) B.pre w (List.mem_cons_of_mem _ hw)
  have hown : s.vm.findClass own = some m.cls := by rw [← ho]; exact findClass_of_methodNamed B.named
  have hl := lv_entry av (n := maxL) hn
  rw [lg_entry_eq]
  exact body p e s m _ below meth c _ ⟨⟨B.exec, B.bytes, hml, hown, hts⟩, hK, hS, B.notSynchronized⟩ B.returns ⟨hWd, va_S.rf, hWd.2.2.2.2.1⟩ hl
section ZP
variable {p : Program} {l : Launch} {e : Env} {R : Room} {s : State} {m : MethodId} {args : Array Value} {below : List Frame} {meth : Method} {c : Code} {H : Heap} {locs : List Loc} {cells slots : Nat} {Q : State → Prop}
variable {cc : ByteArray} {pc nL : Nat} {ls : Array Slot} {rest : List Value} {own : String} {X : zC} {N : zN} {g g' : zG} {o : Nat × Int} {α : Type} {w : α}
theorem zr_irem (hF : zF p s m args meth c X cc nL own) {x y : Int} {A : Option α} (h : zdv x y A = some w) (hdg : decode cc pc = .ok (.irem, 1)) (k : A = some w → W p l e R s m args below meth c H locs cells slots Q (F0 m (pc + 1) ls (z_v (x.tmod y) :: rest))) : W p l e R s m args below meth c H locs cells slots Q (F0 m pc ls (z_v y :: z_v x :: rest)) := by
  unfold zdv at h
  split at h
  · rename_i q
    obtain ⟨hx, hy, h0⟩ := q
    have hne : ¬ Int32.ofInt y = 0 := fun z => h0 ((z_inj hy (by decide)).mp (z.trans (by decide : (0 : Int32) = Int32.ofInt 0)))
    have he : Int32.ofInt (x.tdiv y) = Int32.ofInt x / Int32.ofInt y := Int32.ofInt_tdiv (by show (-2147483648 : Int) ≤ x; exact hx.1) (by show x ≤ (2147483647 : Int); exact hx.2) (by show (-2147483648 : Int) ≤ y; exact hy.1) (by show y ≤ (2147483647 : Int); exact hy.2)
    have hm : x.tmod y = x - x.tdiv y * y := by
      have := Int.mul_tdiv_add_tmod x y
      rw [Int.mul_comm] at this
      omega
    have he2 : Int32.ofInt (x.tmod y) = Int32.ofInt x - Int32.ofInt x / Int32.ofInt y * Int32.ofInt y := by
      rw [hm, Int32.ofInt_sub, Int32.ofInt_mul, he]
    exact lv_irem hF.1.1 hF.1.2.1 hdg hne (W.eq (congrArg (fun z => F0 m (pc + 1) ls (Value.int z :: rest)) he2.symm) (k h))
  · cases h
theorem zp_zretn {N0 : zN} (hF : zF p s m args meth c X cc nL own) (hr : meth.sig.returnType = some .boolean) (hs : zSame N0 N) (hw : zH X N g s H locs) {x r : Int} (h : zbo x (some (x, g) : Option (Int × zG)) = some (r, g')) (hdg : decode cc pc = .ok (.ireturn, 1)) {mc ms : Nat} (hc : cells ≤ mc ∧ slots ≤ ms) : W p l e R s m args below meth c H locs cells slots (MQ below (zQn X N0 r g') args s mc ms (zA X)) (F0 m pc ls [z_v x]) := by
  unfold zbo at h
  split at h
  · rename_i hb
    cases h
    refine W.widen (k := mc) (n := ms) hc.1 hc.2 ?_
    exact W.zret (v := Int32.ofInt x) hF.1.1 hF.1.2.1 hr (by rcases hb with rfl | rfl <;> decide) (fun t ht hW => ⟨⟨Int32.ofInt x, N, rfl, rfl, hs, by rw [ht]; exact hw.1, va_K.moved hW.alike hF.2.1, zS_pass hF.2.2.1 hw.2.1 hW ht⟩, hw.2.1.F ht⟩) hw.2.1.2.2 hdg hF.2.2.2
  · cases h
theorem zp_zret (hF : zF p s m args meth c X cc nL own) (hr : meth.sig.returnType = some .boolean) (hw : zH X N g s H locs) {x r : Int} (h : zbo x (some (x, g) : Option (Int × zG)) = some (r, g')) (hdg : decode cc pc = .ok (.ireturn, 1)) {mc ms : Nat} (hc : cells ≤ mc ∧ slots ≤ ms) : W p l e R s m args below meth c H locs cells slots (MQ below (zQi X N r g') args s mc ms (zA X)) (F0 m pc ls [z_v x]) := by
  unfold zbo at h
  split at h
  · rename_i hb
    cases h
    refine W.widen (k := mc) (n := ms) hc.1 hc.2 ?_
    exact W.zret (v := Int32.ofInt x) hF.1.1 hF.1.2.1 hr (by rcases hb with rfl | rfl <;> decide) (fun t ht hW => ⟨⟨Int32.ofInt x, (), rfl, rfl, by rw [ht]; exact hw.1, va_K.moved hW.alike hF.2.1, zS_pass hF.2.2.1 hw.2.1 hW ht⟩, hw.2.1.F ht⟩) hw.2.1.2.2 hdg hF.2.2.2
  · cases h
theorem zp_iret (hF : zF p s m args meth c X cc nL own) (hr : meth.sig.returnType = some .int) (hw : zH X N g s H locs) {x r : Int} (h : (some (x, g) : Option (Int × zG)) = some (r, g')) (hdg : decode cc pc = .ok (.ireturn, 1)) {mc ms : Nat} (hc : cells ≤ mc ∧ slots ≤ ms) : W p l e R s m args below meth c H locs cells slots (MQ below (zQi X N r g') args s mc ms (zA X)) (F0 m pc ls [z_v x]) := by
  cases h
  refine W.widen (k := mc) (n := ms) hc.1 hc.2 ?_
  exact W.iret (v := Int32.ofInt x) hF.1.1 hF.1.2.1 hr (fun t ht hW => ⟨⟨Int32.ofInt x, (), rfl, rfl, by rw [ht]; exact hw.1, va_K.moved hW.alike hF.2.1, zS_pass hF.2.2.1 hw.2.1 hW ht⟩, hw.2.1.F ht⟩) hw.2.1.2.2 hdg hF.2.2.2
/-! calls of the law's methods -/
theorem zp_callC (hF : zF p s m args meth c X cc nL own) (hw : zH X N g s H locs) {y : MethodName} {b : ByteArray} {mL n idx : Nat} {rt : Option FieldType} {rm : Room} {As : List Value} {r : Int} {g' : zG} (hM : zMC l y b mL rt rm X N g As (zQi X N r g'))
    (hG : GoodIn lw_G (va_wsS own idx y (zws y b mL rt))) (hd : y.cls ≠ "java/lang/invoke/MethodHandle" ∧ y.cls ≠ "java/lang/invoke/VarHandle" ∧ (parseMethodDescriptor y.desc).map (fun d => d.parameters.length) = some n) (hR : rm.frames + 1 ≤ R.frames ∧ 8 + (mL + 11) + rm.locals ≤ R.locals) (hn : As.length = n) (hl : ls.size = nL) {st0 : List Value} (hst : st0 = As.reverse ++ rest) (hrest : (rest.map fun v => v.category).sum ≤ 8) (hdg : decode cc pc = .ok (.invokestatic idx, 3)) (hcs : cells + rm.cells ≤ R.cells ∧ slots + rm.slots ≤ R.slots)
    (kk : ∀ (H : Heap) (locs : List Loc), zH X N g' s H locs → W p l e R s m args below meth c H locs (cells + rm.cells) (slots + rm.slots) Q (F0 m (pc + 3) ls (z_v r :: rest))) : W p l e R s m args below meth c H locs cells slots Q (F0 m pc ls st0) := by
  refine va_calli (va_runS (As := As) (rest := rest) hF.1 hM (va_cwS n hF.1.2.2.2.2 hG rfl rfl rfl hd hR) ⟨zU_blind, z_pre hF hw⟩ rfl hn hl hst (lv_room hrest) hdg hcs) hw.2.1 (fun q _ h => h) (fun q h => h) (fun r' u t H1 locs1 ht hvm hp hB hz1 hk1 hS => ?_)
  rw [hp]
  exact kk H1 locs1 (zH_back hw ht hB hS)
theorem zp_callCn (hF : zF p s m args meth c X cc nL own) (hw : zH X N g s H locs) {y : MethodName} {b : ByteArray} {mL n idx : Nat} {rt : Option FieldType} {rm : Room} {As : List Value} {r : Int} {g' : zG} (hM : zMC l y b mL rt rm X N g As (zQn X N r g'))
    (hG : GoodIn lw_G (va_wsS own idx y (zws y b mL rt))) (hd : y.cls ≠ "java/lang/invoke/MethodHandle" ∧ y.cls ≠ "java/lang/invoke/VarHandle" ∧ (parseMethodDescriptor y.desc).map (fun d => d.parameters.length) = some n) (hR : rm.frames + 1 ≤ R.frames ∧ 8 + (mL + 11) + rm.locals ≤ R.locals) (hn : As.length = n) (hl : ls.size = nL) {st0 : List Value} (hst : st0 = As.reverse ++ rest) (hrest : (rest.map fun v => v.category).sum ≤ 8) (hdg : decode cc pc = .ok (.invokestatic idx, 3)) (hcs : cells + rm.cells ≤ R.cells ∧ slots + rm.slots ≤ R.slots)
    (kk : ∀ (N' : zN) (H : Heap) (locs : List Loc), zSame N N' → zH X N' g' s H locs → W p l e R s m args below meth c H locs (cells + rm.cells) (slots + rm.slots) Q (F0 m (pc + 3) ls (z_v r :: rest))) : W p l e R s m args below meth c H locs cells slots Q (F0 m pc ls st0) := by
  refine va_calli (va_runS (As := As) (rest := rest) hF.1 hM (va_cwS n hF.1.2.2.2.2 hG rfl rfl rfl hd hR) ⟨zU_blind, z_pre hF hw⟩ rfl hn hl hst (lv_room hrest) hdg hcs) hw.2.1 (fun q _ h => h) (fun q h => h) (fun r' N' t H1 locs1 ht hvm hp hB hz1 hk1 hS => ?_)
  rw [hp]
  exact kk N' H1 locs1 hB.1 (zH_back hw ht hB.2 hS)
theorem zp_callW (hF : zF p s m args meth c X cc nL own) (hw : zH X N g s H locs) {y : MethodName} {b : ByteArray} {mL n idx : Nat} {rt : Option FieldType} {hh : List (Nat × Nat × Nat × Nat)} {rm : Room} {As : List Value} {r : Int} {g' : zG} (hM : zMW l y b mL rt hh rm X N g As (zQi X N r g'))
    (hG : GoodIn lw_G (va_wsS own idx y (zws2 y b mL rt hh))) (hd : y.cls ≠ "java/lang/invoke/MethodHandle" ∧ y.cls ≠ "java/lang/invoke/VarHandle" ∧ (parseMethodDescriptor y.desc).map (fun d => d.parameters.length) = some n) (hR : rm.frames + 1 ≤ R.frames ∧ 8 + (mL + 11) + rm.locals ≤ R.locals) (hn : As.length = n) (hl : ls.size = nL) {st0 : List Value} (hst : st0 = As.reverse ++ rest) (hrest : (rest.map fun v => v.category).sum ≤ 8) (hdg : decode cc pc = .ok (.invokestatic idx, 3)) (hcs : cells + rm.cells ≤ R.cells ∧ slots + rm.slots ≤ R.slots)
    (kk : ∀ (H : Heap) (locs : List Loc), zH X N g' s H locs → W p l e R s m args below meth c H locs (cells + rm.cells) (slots + rm.slots) Q (F0 m (pc + 3) ls (z_v r :: rest))) : W p l e R s m args below meth c H locs cells slots Q (F0 m pc ls st0) := by
  refine va_calli (vx_runSW (As := As) (rest := rest) hF.1 hM (vx_cwSW n hF.1.2.2.2.2 hG rfl rfl rfl hd hR) ⟨zU_blind, z_pre hF hw⟩ rfl hn hl hst (lv_room hrest) hdg hcs) hw.2.1 (fun q _ h => h) (fun q h => h) (fun r' u t H1 locs1 ht hvm hp hB hz1 hk1 hS => ?_)
  rw [hp]
  exact kk H1 locs1 (zH_back hw ht hB hS)
theorem zp_callWn (hF : zF p s m args meth c X cc nL own) (hw : zH X N g s H locs) {y : MethodName} {b : ByteArray} {mL n idx : Nat} {rt : Option FieldType} {hh : List (Nat × Nat × Nat × Nat)} {rm : Room} {As : List Value} {r : Int} {g' : zG} (hM : zMW l y b mL rt hh rm X N g As (zQn X N r g'))
    (hG : GoodIn lw_G (va_wsS own idx y (zws2 y b mL rt hh))) (hd : y.cls ≠ "java/lang/invoke/MethodHandle" ∧ y.cls ≠ "java/lang/invoke/VarHandle" ∧ (parseMethodDescriptor y.desc).map (fun d => d.parameters.length) = some n) (hR : rm.frames + 1 ≤ R.frames ∧ 8 + (mL + 11) + rm.locals ≤ R.locals) (hn : As.length = n) (hl : ls.size = nL) {st0 : List Value} (hst : st0 = As.reverse ++ rest) (hrest : (rest.map fun v => v.category).sum ≤ 8) (hdg : decode cc pc = .ok (.invokestatic idx, 3)) (hcs : cells + rm.cells ≤ R.cells ∧ slots + rm.slots ≤ R.slots)
    (kk : ∀ (N' : zN) (H : Heap) (locs : List Loc), zSame N N' → zH X N' g' s H locs → W p l e R s m args below meth c H locs (cells + rm.cells) (slots + rm.slots) Q (F0 m (pc + 3) ls (z_v r :: rest))) : W p l e R s m args below meth c H locs cells slots Q (F0 m pc ls st0) := by
  refine va_calli (vx_runSW (As := As) (rest := rest) hF.1 hM (vx_cwSW n hF.1.2.2.2.2 hG rfl rfl rfl hd hR) ⟨zU_blind, z_pre hF hw⟩ rfl hn hl hst (lv_room hrest) hdg hcs) hw.2.1 (fun q _ h => h) (fun q h => h) (fun r' N' t H1 locs1 ht hvm hp hB hz1 hk1 hS => ?_)
  rw [hp]
  exact kk N' H1 locs1 hB.1 (zH_back hw ht hB.2 hS)
end ZP

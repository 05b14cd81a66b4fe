/-! THROWING: rows and contracts of methods that throw -/
theorem zEm.lt {X : zC} {H : Heap} (h : zEm X H) : X.2.2.2 < H.size := by
  obtain ⟨cell, h1, -⟩ := h
  exact (Array.getElem?_eq_some_iff.mp h1).1
abbrev z_sup : List String := ["java/lang/RuntimeException", "java/lang/Exception"]
abbrev z_bad (E : String) : List Cond := [.castable E E, .declares ⟨"java/lang/RuntimeException", "<init>", "(Ljava/lang/String;)V"⟩, .declares ⟨"java/lang/Exception", "<init>", "(Ljava/lang/String;)V"⟩, .declares ⟨"java/lang/Throwable", "<init>", "(Ljava/lang/String;)V"⟩]
def zXn (k : Nat) : String := if k = 1 then "java/lang/IndexOutOfBoundsException" else if k = 2 then "java/lang/IllegalArgumentException" else "java/lang/IllegalStateException"
theorem zT_1 : ∀ w ∈ (vx_atS RX4 192 "java/lang/IndexOutOfBoundsException" z_sup).filter goodWord, w ∈ lw_G := z_inG [24, 165, 174, 178, 181, 183, 166, 167, 41, 42, 168, 173, 179, 199, 155, 200, 157, 201, 159, 169, 171, 161, 195, 196, 198, 161, 186, 187, 188, 189, 189, 190, 191, 192, 192, 193, 194, 195, 185, 144, 152, 153, 154, 156, 158, 160, 164, 163, 162] (by decide +kernel) (by decide +kernel)
theorem zTb_1 : ∀ w ∈ (vx_atS RX4 192 "java/lang/IndexOutOfBoundsException" z_sup).filter (fun w => !goodWord w), w ∈ z_bad "java/lang/IndexOutOfBoundsException" := by decide +kernel
theorem zTg_1 : ∀ w ∈ vx_atS RX4 192 "java/lang/IndexOutOfBoundsException" z_sup, vx_ot w = true := by decide +kernel
theorem zT_2 : ∀ w ∈ (vx_atS RX4 229 "java/lang/IllegalArgumentException" z_sup).filter goodWord, w ∈ lw_G := z_inG [24, 165, 174, 178, 181, 183, 166, 167, 41, 42, 168, 173, 179, 199, 155, 200, 157, 201, 159, 169, 171, 161, 195, 196, 198, 161, 225, 226, 227, 189, 189, 190, 191, 192, 192, 193, 194, 195, 224, 215, 217, 176, 218, 219, 220, 221, 164, 163, 222] (by decide +kernel) (by decide +kernel)
theorem zTb_2 : ∀ w ∈ (vx_atS RX4 229 "java/lang/IllegalArgumentException" z_sup).filter (fun w => !goodWord w), w ∈ z_bad "java/lang/IllegalArgumentException" := by decide +kernel
theorem zTg_2 : ∀ w ∈ vx_atS RX4 229 "java/lang/IllegalArgumentException" z_sup, vx_ot w = true := by decide +kernel
theorem zT_3 : ∀ w ∈ (vx_atS RX4 49 "java/lang/IllegalStateException" z_sup).filter goodWord, w ∈ lw_G := z_inG [24, 165, 174, 178, 181, 183, 166, 167, 41, 42, 168, 173, 179, 199, 155, 200, 157, 201, 159, 169, 171, 161, 195, 196, 198, 161, 451, 452, 453, 189, 189, 190, 191, 192, 192, 193, 194, 195, 450, 441, 443, 177, 444, 445, 446, 447, 164, 163, 448] (by decide +kernel) (by decide +kernel)
theorem zTb_3 : ∀ w ∈ (vx_atS RX4 49 "java/lang/IllegalStateException" z_sup).filter (fun w => !goodWord w), w ∈ z_bad "java/lang/IllegalStateException" := by decide +kernel
theorem zTg_3 : ∀ w ∈ vx_atS RX4 49 "java/lang/IllegalStateException" z_sup, vx_ot w = true := by decide +kernel
/-- what a method leaves that throws the exception number k -/
def zXC (X : zC) (N : zN) (o : Nat × Int) (g' : zG) : String → State → State → Prop := vx_X (fun (_ : Unit) => True) (fun E _ t => (o.1 ≠ 0 ∧ E = zXn o.1) ∧ zW X N g' t.heap) (zA X)
def zYi (X : zC) (N : zN) (o : Nat × Int) (g' : zG) : Array Value → State → Outcome → State → Prop := va_Qi (fun (r' : Int32) (_ : Unit) => o.1 = 0 ∧ r' = Int32.ofInt o.2) (fun _ t => zU X N g' t) (zA X)
def zYv (X : zC) (N : zN) (o : Nat × Int) (g' : zG) : Array Value → State → Outcome → State → Prop := va_Qv (fun (_ : Unit) => o.1 = 0) (fun _ t => zU X N g' t) (zA X)
def zYr (X : zC) (N : zN) (k : Nat) (o : Nat × Int) (g' : zG) : Array Value → State → Outcome → State → Prop := va_Qr (fun (_ : Unit) => o.1 = 0) (fun _ a t => a = N.1 k o.2.toNat ∧ zE N k o.2.toNat ∧ zU X N g' t) (zA X)
abbrev zXM (l : Launch) (y : MethodName) (b : ByteArray) (n : Nat) (ret : Option FieldType) (rm : Room) (X : zC) (N : zN) (g : zG) (av : List Value) (Qc : Array Value → State → Outcome → State → Prop) (o : Nat × Int) (g' : zG) : Prop :=
  vx_Met l y (zws y b n ret) rm (va_Pc av (fun U => zU X N g U)) Qc (zXC X N o g') rm.cells rm.slots (zA X)
/-- a call that may throw: none, what it threw, or on -/
def zbx (a : Option ((Nat × Int) × zG)) (f : Int → zG → Option ((Nat × Int) × zG)) : Option ((Nat × Int) × zG) := match a with
  | none => none
  | some o => if o.1.1 = 0 then f o.1.2 o.2 else some ((o.1.1, 0), o.2)
theorem zbx_some {a : Option ((Nat × Int) × zG)} {f : Int → zG → Option ((Nat × Int) × zG)} {w : (Nat × Int) × zG} (h : zbx a f = some w) : ∃ (o : Nat × Int) (g : zG), a = some (o, g) ∧ ((o.1 = 0 ∧ f o.2 g = some w) ∨ (o.1 ≠ 0 ∧ w = ((o.1, 0), g))) := by
  unfold zbx at h
  split at h
  · cases h
  · rename_i q
    split at h
    · rename_i z
      exact ⟨q.1, q.2, rfl, Or.inl ⟨z, h⟩⟩
    · rename_i z
      exact ⟨q.1, q.2, rfl, Or.inr ⟨z, (Option.some.inj h).symm⟩⟩
theorem z_xofW {l : Launch} {y : MethodName} {cc : ByteArray} {maxL : Nat} {ret : Option FieldType} {rm : Room} {X : zC} {N : zN} {g g' : zG} {o : Nat × Int} {av : List Value} {Qc : Array Value → State → Outcome → State → Prop} {own : String} (hy : plainName y.cls = true) (ho : y.cls = own) (hn : (lg_sl av).length ≤ maxL)
    (body : ∀ p e s m args below meth c ls, zF p s m args meth c X cc maxL own → meth.sig.returnType = ret → (∀ x ∈ c.exceptionTable.toList, False) → zH X N g s s.heap [] → lv_has ls maxL (lv_args 0 av) → W p l e rm s m args below meth c s.heap [] 0 0 (vx_MQ below Qc (zXC X N o g') args s rm.cells rm.slots (zA X)) (F0 m 0 ls [])) : zXM l y cc maxL ret rm X N g av Qc o g' := by
  refine vx_ofW (cc := cc) (maxL := maxL) (ret := ret) hy rfl ?_
  intro p e s m args below meth c s₁ B hml hnt hv
  obtain ⟨rfl, hWd, hK, hS⟩ := hv
  have hts : ∀ w ∈ lw_G, w.before av.toArray s = true := fun w hw => atoms_spec (ws := zws y cc maxL ret) B.pre w (List.mem_cons_of_mem _ hw)
  have hown : s.vm.findClass own = some m.cls := by rw [← ho]; exact findClass_of_methodNamed B.named
  have hl := lv_entry av (n := maxL) hn
  rw [lg_entry_eq]
  exact body p e s m _ below meth c _ ⟨⟨B.exec, B.bytes, hml, hown, hts⟩, hK, hS, B.notSynchronized⟩ B.returns hnt ⟨hWd, va_S.rf, hWd.2.2.2.2.1⟩ hl
theorem zW_kept {X : zC} {N : zN} {g : zG} {H H1 : Heap} (h : zW X N g H) (hsz : H.size ≤ H1.size) (hq : ∀ q : Nat, q < H.size → H1[q]? = H[q]?) : zW X N g H1 := by
  obtain ⟨w1, w2, w3, w4, w5, w6⟩ := h
  exact ⟨va_P.kept w1 (fun k9 q hq9 => hq _ (w1 k9 q hq9).lt), w2, w3, w4, Nat.le_trans w5 hsz, w6.kept (hq _ w6.lt)⟩
section ZX
variable {p : Program} {l : Launch} {e : Env} {R : Room} {s : State} {m : MethodId} {args : Array Value} {below : List Frame} {meth : Method} {c : Code} {H : Heap} {locs : List Loc} {cells slots : Nat} {Q : State → Prop}
variable {cc : ByteArray} {pc nL : Nat} {ls : Array Slot} {rest : List Value} {own : String} {X : zC} {N : zN} {g g' gg : zG} {o oo : Nat × Int} {Qc : Array Value → State → Outcome → State → Prop} {mc ms : Nat}
theorem z_tables (hF : zF p s m args meth c X cc nL own) {ic : Nat} {E : String} (h1 : ∀ w ∈ (vx_atS RX4 ic E z_sup).filter goodWord, w ∈ lw_G) (h2 : ∀ w ∈ (vx_atS RX4 ic E z_sup).filter (fun w => !goodWord w), w ∈ z_bad E) (hE : (E, E) ∈ z_casts) : ∀ w ∈ vx_atS RX4 ic E z_sup, w.before args s = true := by
  obtain ⟨-, -, -, h4, -, -, h7, -⟩ := hF.2.2.1
  refine vx_hat (B := z_bad E) (fun w hw => hF.1.2.2.2.2 _ (h1 w hw)) h2 ?_
  intro w hw
  simp only [z_bad, List.mem_cons, List.not_mem_nil, or_false] at hw
  rcases hw with rfl | rfl | rfl | rfl
  · exact va_Nw.use rfl (h4 _ hE)
  · exact va_Nw.use rfl (h7 _ (List.mem_of_getElem? (i := 0) rfl))
  · exact va_Nw.use rfl (h7 _ (List.mem_of_getElem? (i := 1) rfl))
  · exact va_Nw.use rfl (h7 _ (List.mem_of_getElem? (i := 2) rfl))
theorem zx_throw (hF : zF p s m args meth c X cc nL RX4) (hT : l.stackTraces = false) (hnt : ∀ x ∈ c.exceptionTable.toList, False) (hw : zH X N g s H locs) (hl : ls.size = nL) (k : Nat) {E text : String} {ik is ic : Nat} (hk0 : k ≠ 0) (hkE : zXn k = E) (hE : (E, E) ∈ z_casts) (hcl : Cond.classLink RX4 ik E ∈ lw_G) (hini : Cond.initialized E ∈ lw_G) (hcls : Bundle.fit E = true)
    (h1 : ∀ w ∈ (vx_atS RX4 ic E z_sup).filter goodWord, w ∈ lw_G) (h2 : ∀ w ∈ (vx_atS RX4 ic E z_sup).filter (fun w => !goodWord w), w ∈ z_bad E) (h3 : ∀ w ∈ vx_atS RX4 ic E z_sup, vx_ot w = true) (htx : (is, text) ∈ z_texts)
    (h : (some ((k, 0), g) : Option ((Nat × Int) × zG)) = some (o, g'))
    (d0 : decode cc pc = .ok (.new ik, 3)) (d3 : decode cc (pc + 3) = .ok (.dup, 1)) (d4 : decode cc (pc + 4) = .ok (.ldc is, 2)) (d6 : decode cc (pc + 6) = .ok (.invokespecial ic, 3)) (d9 : decode cc (pc + 9) = .ok (.athrow, 1))
    (hRf : 5 < R.frames) (hRl : (rest.map fun v => v.category).sum + 82 ≤ R.locals) (hRc : cells + 1 ≤ R.cells) (hRs : slots + 6 ≤ R.slots) (hc : cells + 1 ≤ mc) (hs : slots + 6 ≤ ms) :
    W p l e R s m args below meth c H locs cells slots (vx_MQ below Qc (zXC X N o g') args s mc ms (zA X)) (F0 m pc ls rest) := by
  cases h
  obtain ⟨sU, sN, -, h4, -, h6, -⟩ := id hF.2.2.1
  obtain ⟨sa, hsa⟩ := h6 _ htx
  refine vx_throwS (A := zA X) (names := z_sup) hF.1.1 hF.1.2.1 hT hF.1.2.2.2.1 hcls (by decide +kernel) (hF.1.2.2.2.2 _ hcl) (hF.1.2.2.2.2 _ hini) hsa (z_tables hF h1 h2 hE) ?_ sU sN hw.2.1 (hl.trans hF.1.2.2.1.symm) d0 d3 d4 d6 d9 (fun x hx => (hnt x hx).elim) hRf hRl hRc hRs hF.2.2.2 ?_ hw.2.1.2.2 hc hs
  · intro w hw9
    rcases List.mem_cons.mp hw9 with rfl | hw9
    · rfl
    · rcases List.mem_cons.mp hw9 with rfl | hw9
      · rfl
      · exact h3 w hw9
  · intro t hal hsz hq
    exact ⟨(), trivial, ⟨⟨hk0, hkE.symm⟩, zW_kept hw.1 hsz hq⟩, Nat.le_trans hw.2.1.1 hsz, fun a h1 h2 => by rw [hq a (Nat.lt_of_lt_of_le h1 hw.2.1.1)]; exact hw.2.1.2.1 a h1 h2⟩
theorem zx_throwW (hF : zF p s m args meth c X cc nL RX4) (hT : l.stackTraces = false) (hnt : ∀ x ∈ c.exceptionTable.toList, False) (hw : zH X N g s H locs) (hl : ls.size = nL) (k : Nat) {E text : String} {ik is ic : Nat} (hk0 : k ≠ 0) (hkE : zXn k = E) (hE : (E, E) ∈ z_casts) (hcl : Cond.classLink RX4 ik E ∈ lw_G) (hini : Cond.initialized E ∈ lw_G) (hcls : Bundle.fit E = true)
    (h1 : ∀ w ∈ (vx_atS RX4 ic E z_sup).filter goodWord, w ∈ lw_G) (h2 : ∀ w ∈ (vx_atS RX4 ic E z_sup).filter (fun w => !goodWord w), w ∈ z_bad E) (h3 : ∀ w ∈ vx_atS RX4 ic E z_sup, vx_ot w = true) (htx : (is, text) ∈ z_texts)
    (h : (some ((k, 0), g) : Option ((Nat × Int) × zG)) = some (o, g'))
    (d0 : decode cc pc = .ok (.new ik, 3)) (d3 : decode cc (pc + 3) = .ok (.dup, 1)) (d4 : decode cc (pc + 4) = .ok (.ldc_w is, 3)) (d6 : decode cc (pc + 7) = .ok (.invokespecial ic, 3)) (d9 : decode cc (pc + 10) = .ok (.athrow, 1))
    (hRf : 5 < R.frames) (hRl : (rest.map fun v => v.category).sum + 82 ≤ R.locals) (hRc : cells + 1 ≤ R.cells) (hRs : slots + 6 ≤ R.slots) (hc : cells + 1 ≤ mc) (hs : slots + 6 ≤ ms) :
    W p l e R s m args below meth c H locs cells slots (vx_MQ below Qc (zXC X N o g') args s mc ms (zA X)) (F0 m pc ls rest) := by
  cases h
  obtain ⟨sU, sN, -, h4, -, h6, -⟩ := id hF.2.2.1
  obtain ⟨sa, hsa⟩ := h6 _ htx
  refine vx_throwSW (A := zA X) (names := z_sup) hF.1.1 hF.1.2.1 hT hF.1.2.2.2.1 hcls (by decide +kernel) (hF.1.2.2.2.2 _ hcl) (hF.1.2.2.2.2 _ hini) hsa (z_tables hF h1 h2 hE) ?_ sU sN hw.2.1 (hl.trans hF.1.2.2.1.symm) d0 d3 d4 d6 d9 (fun x hx => (hnt x hx).elim) hRf hRl hRc hRs hF.2.2.2 ?_ hw.2.1.2.2 hc hs
  · intro w hw9
    rcases List.mem_cons.mp hw9 with rfl | hw9
    · rfl
    · rcases List.mem_cons.mp hw9 with rfl | hw9
      · rfl
      · exact h3 w hw9
  · intro t hal hsz hq
    exact ⟨(), trivial, ⟨⟨hk0, hkE.symm⟩, zW_kept hw.1 hsz hq⟩, Nat.le_trans hw.2.1.1 hsz, fun a h1 h2 => by rw [hq a (Nat.lt_of_lt_of_le h1 hw.2.1.1)]; exact hw.2.1.2.1 a h1 h2⟩
/-! the ends of a method that may throw -/
theorem zx_iret (hF : zF p s m args meth c X cc nL own) (hr : meth.sig.returnType = some .int) (hw : zH X N g s H locs) {x : Int} (h : (some ((0, x), g) : Option ((Nat × Int) × zG)) = some (o, g')) (hdg : decode cc pc = .ok (.ireturn, 1)) (hc : cells ≤ mc ∧ slots ≤ ms) : W p l e R s m args below meth c H locs cells slots (vx_MQ below (zYi X N o g') (zXC X N o g') args s mc ms (zA X)) (F0 m pc ls [z_v x]) := by
  cases h
  refine W.widen (k := mc) (n := ms) hc.1 hc.2 (vx_ret ?_)
  exact W.iret (v := Int32.ofInt x) hF.1.1 hF.1.2.1 hr (fun t ht hW => ⟨⟨Int32.ofInt x, (), rfl, ⟨rfl, rfl⟩, by rw [ht]; exact hw.1, va_K.moved hW.alike hF.2.1, zS_pass hF.2.2.1 hw.2.1 hW ht⟩, hw.2.1.F ht⟩) hw.2.1.2.2 hdg hF.2.2.2
theorem zx_zret (hF : zF p s m args meth c X cc nL own) (hr : meth.sig.returnType = some .boolean) (hw : zH X N g s H locs) {x : Int} (h : zbo x (some ((0, x), g) : Option ((Nat × Int) × zG)) = some (o, g')) (hdg : decode cc pc = .ok (.ireturn, 1)) (hc : cells ≤ mc ∧ slots ≤ ms) : W p l e R s m args below meth c H locs cells slots (vx_MQ below (zYi X N o g') (zXC X N o g') args s mc ms (zA X)) (F0 m pc ls [z_v x]) := by
  unfold zbo at h
  split at h
  · rename_i hb
    cases h
    refine W.widen (k := mc) (n := ms) hc.1 hc.2 (vx_ret ?_)
    exact W.zret (v := Int32.ofInt x) hF.1.1 hF.1.2.1 hr (by rcases hb with rfl | rfl <;> decide) (fun t ht hW => ⟨⟨Int32.ofInt x, (), rfl, ⟨rfl, rfl⟩, by rw [ht]; exact hw.1, va_K.moved hW.alike hF.2.1, zS_pass hF.2.2.1 hw.2.1 hW ht⟩, hw.2.1.F ht⟩) hw.2.1.2.2 hdg hF.2.2.2
  · cases h
theorem zx_vret (hF : zF p s m args meth c X cc nL own) (hr : meth.sig.returnType = none) (hw : zH X N g s H locs) (h : (some ((0, 0), g) : Option ((Nat × Int) × zG)) = some (o, g')) (hdg : decode cc pc = .ok (.return_, 1)) (hc : cells ≤ mc ∧ slots ≤ ms) : W p l e R s m args below meth c H locs cells slots (vx_MQ below (zYv X N o g') (zXC X N o g') args s mc ms (zA X)) (F0 m pc ls []) := by
  cases h
  refine W.widen (k := mc) (n := ms) hc.1 hc.2 (vx_ret ?_)
  exact W.vret hF.1.1 hF.1.2.1 hr (fun t ht hW => ⟨⟨(), rfl, rfl, by rw [ht]; exact hw.1, va_K.moved hW.alike hF.2.1, zS_pass hF.2.2.1 hw.2.1 hW ht⟩, hw.2.1.F ht⟩) hw.2.1.2.2 hdg hF.2.2.2
theorem zx_aret (hF : zF p s m args meth c X cc nL own) {rt : FieldType} (hr : meth.sig.returnType = some rt) (hw : zH X N g s H locs) {k : Nat} {x : Int} (hE : zE N k x.toNat) (h : (some ((0, x), g) : Option ((Nat × Int) × zG)) = some (o, g')) (hn : (∃ n, rt = .object n) ∨ ∃ t, rt = .array t) (hdg : decode cc pc = .ok (.areturn, 1)) (hc : cells ≤ mc ∧ slots ≤ ms) : W p l e R s m args below meth c H locs cells slots (vx_MQ below (zYr X N k o g') (zXC X N o g') args s mc ms (zA X)) (F0 m pc ls [z_r N k x.toNat]) := by
  cases h
  refine W.widen (k := mc) (n := ms) hc.1 hc.2 (vx_ret ?_)
  exact W.aret (v := .ref (N.1 k x.toNat)) hF.1.1 hF.1.2.1 hr hn (Or.inr ⟨_, rfl⟩) (fun t ht hW => ⟨⟨(), N.1 k x.toNat, rfl, rfl, rfl, hE, by rw [ht]; exact hw.1, va_K.moved hW.alike hF.2.1, zS_pass hF.2.2.1 hw.2.1 hW ht⟩, hw.2.1.F ht⟩) hw.2.1.2.2 hdg hF.2.2.2
/-! calls of methods that may throw, in methods that don't catch -/
theorem zx_go {mc2 ms2 : Nat} {st0 : List Value} {Qa : State → Outcome → State → Prop} (hnt : ∀ x ∈ c.exceptionTable.toList, False) (hF : zF p s m args meth c X cc nL own) (hw : zH X N g s H locs)
    (hr : vx_Run p l e R s m args below meth c H locs cells slots mc2 ms2 (F0 m pc ls st0) rest Qa (zXC X N o g') (zA X)) (ho : o.1 ≠ 0 → (oo, gg) = ((o.1, (0 : Int)), g')) (hc : cells + mc2 ≤ mc ∧ slots + ms2 ≤ ms)
    (kk : ∀ (v : Option Value) (st₀ t T' : State) (L : List Loc), st₀.heap = H → Stand p l e R s m args below meth c T' (locs ++ L) (cells + mc2) (slots + ms2) → (∀ q ∈ L, zA X q.base) → T'.heap = t.heap → T'.vm = t.vm → Qa st₀ (.returned v) t → ∃ t2, Steps p.tables e below (T'.setTop (F0 m (pc + 3) ls (v.toList ++ rest))) t2 ∧ vx_MQ below Qc (zXC X N oo gg) args s mc ms (zA X) t2) :
    W p l e R s m args below meth c H locs cells slots (vx_MQ below Qc (zXC X N oo gg) args s mc ms (zA X)) (F0 m pc ls st0) := by
  intro T hT Y
  rcases hr T hT Y with ⟨v, st₀, t, T', L, h0, X', hL, e1, e2, hq, st⟩ | ⟨q, st₀, t, T', L, E, ce, h0, X', hL, e1, e2, ⟨u, -, ⟨⟨hn, rfl⟩, hb⟩, hFr⟩, hce, hcv, hcl, st⟩
  · obtain ⟨t2, a1, b1⟩ := kk v st₀ t T' L h0 X' hL e1 e2 hq
    exact ⟨t2, st t2 a1, b1⟩
  · obtain ⟨k1, k2, k3⟩ := vx_keep (A0 := zA X) (free := zA X) h0 e1 hw.2.1 (fun q _ h => h) (fun q h => h) hL hFr
    cases ho hn
    have key : vx_W p l e R s m args below meth c T'.heap (locs ++ L) (cells + mc2) (slots + ms2) (vx_MQ below Qc (zXC X N (o.1, 0) g') args s mc ms (zA X)) (F0 m pc ls rest) q := by
      refine vx_out (ce := ce) (E := zXn o.1) (fun x hx => (hnt x hx).elim) hF.2.2.2 (by rw [e1]; exact hce) hcv hcl (fun t9 ht9 _ => ?_) k3.2.2 hc.1 hc.2
      exact ⟨(), trivial, ⟨⟨hn, rfl⟩, by rw [ht9, e1]; exact hb⟩, k3.F ht9⟩
    obtain ⟨t2, a1, b1⟩ := key T' rfl X'
    exact ⟨t2, st.trans a1, b1⟩
theorem zx_callVr (hF : zF p s m args meth c X cc nL own) (hnt : ∀ x ∈ c.exceptionTable.toList, False) (hw : zH X N g s H locs) {y : MethodName} {b : ByteArray} {mL n idx : Nat} {rt : Option FieldType} {rm : Room} {k i kr : Nat} {As : List Value} {P : Prop} (hM : zXM l y b mL rt rm X N g (z_r N k i :: As) (zYr X N kr o g') o g') (h : (o.1 = 0 ∧ P) ∨ (o.1 ≠ 0 ∧ (oo, gg) = ((o.1, 0), g'))) (hE : zE N k i) (hk : k < 10) {C : String} {T : u_T} {n9 : Nat} (hc : zCls k C T n9)
    (hG : GoodIn lw_G (wsV own idx C y (zws y b mL rt))) (hd : y.cls = C ∧ y.cls ≠ "java/lang/invoke/MethodHandle" ∧ y.cls ≠ "java/lang/invoke/VarHandle" ∧ (parseMethodDescriptor y.desc).map (fun d => d.parameters.length) = some n) (hR : rm.frames + 1 ≤ R.frames ∧ 8 + (mL + 11) + rm.locals ≤ R.locals) (hn : As.length = n) (hl : ls.size = nL) {st0 : List Value} (hst : st0 = As.reverse ++ z_r N k i :: rest) (hrest : (rest.map fun v => v.category).sum ≤ 8) (hdg : decode cc pc = .ok (.invokevirtual idx, 3)) (hcs : cells + rm.cells ≤ R.cells ∧ slots + rm.slots ≤ R.slots) (hms : cells + rm.cells ≤ mc ∧ slots + rm.slots ≤ ms)
    (kk : ∀ (H : Heap) (locs : List Loc), zH X N g' s H locs → zE N kr o.2.toNat → P → W p l e R s m args below meth c H locs (cells + rm.cells) (slots + rm.slots) (vx_MQ below Qc (zXC X N oo gg) args s mc ms (zA X)) (F0 m (pc + 3) ls (z_r N kr o.2.toNat :: rest))) : W p l e R s m args below meth c H locs cells slots (vx_MQ below Qc (zXC X N oo gg) args s mc ms (zA X)) (F0 m pc ls st0) := by
  refine zx_go hnt hF hw (vx_runV (As := As) (rest := rest) hF.1 hM (cwV n hF.1.2.2.2.2 hG rfl rfl rfl hd hR) ⟨zU_blind, z_recv hF hw hE hk hc, z_pre hF hw⟩ rfl hn hl hst (lv_room hrest) hdg hcs) (fun z => (h.resolve_left (fun q => z q.1)).2) hms ?_
  intro v st₀ t T' L h0 X' hL e1 e2 hq
  obtain ⟨⟨u, ra, hv, hz, hB, hE2, hU⟩, hFr⟩ := hq
  cases hv
  subst hB
  obtain ⟨-, -, k3⟩ := vx_keep (A0 := zA X) (free := zA X) h0 e1 hw.2.1 (fun q _ h => h) (fun q h => h) hL hFr
  exact kk T'.heap (locs ++ L) (zH_back hw e1.symm hU k3) hE2 (h.resolve_right (fun q => q.1 hz)).2 T' rfl X'
theorem zx_callVi (hF : zF p s m args meth c X cc nL own) (hnt : ∀ x ∈ c.exceptionTable.toList, False) (hw : zH X N g s H locs) {y : MethodName} {b : ByteArray} {mL n idx : Nat} {rt : Option FieldType} {rm : Room} {k i : Nat} {As : List Value} {P : Prop} (hM : zXM l y b mL rt rm X N g (z_r N k i :: As) (zYi X N o g') o g') (h : (o.1 = 0 ∧ P) ∨ (o.1 ≠ 0 ∧ (oo, gg) = ((o.1, 0), g'))) (hE : zE N k i) (hk : k < 10) {C : String} {T : u_T} {n9 : Nat} (hc : zCls k C T n9)
    (hG : GoodIn lw_G (wsV own idx C y (zws y b mL rt))) (hd : y.cls = C ∧ y.cls ≠ "java/lang/invoke/MethodHandle" ∧ y.cls ≠ "java/lang/invoke/VarHandle" ∧ (parseMethodDescriptor y.desc).map (fun d => d.parameters.length) = some n) (hR : rm.frames + 1 ≤ R.frames ∧ 8 + (mL + 11) + rm.locals ≤ R.locals) (hn : As.length = n) (hl : ls.size = nL) {st0 : List Value} (hst : st0 = As.reverse ++ z_r N k i :: rest) (hrest : (rest.map fun v => v.category).sum ≤ 8) (hdg : decode cc pc = .ok (.invokevirtual idx, 3)) (hcs : cells + rm.cells ≤ R.cells ∧ slots + rm.slots ≤ R.slots) (hms : cells + rm.cells ≤ mc ∧ slots + rm.slots ≤ ms)
    (kk : ∀ (H : Heap) (locs : List Loc), zH X N g' s H locs → P → W p l e R s m args below meth c H locs (cells + rm.cells) (slots + rm.slots) (vx_MQ below Qc (zXC X N oo gg) args s mc ms (zA X)) (F0 m (pc + 3) ls (z_v o.2 :: rest))) : W p l e R s m args below meth c H locs cells slots (vx_MQ below Qc (zXC X N oo gg) args s mc ms (zA X)) (F0 m pc ls st0) := by
  refine zx_go hnt hF hw (vx_runV (As := As) (rest := rest) hF.1 hM (cwV n hF.1.2.2.2.2 hG rfl rfl rfl hd hR) ⟨zU_blind, z_recv hF hw hE hk hc, z_pre hF hw⟩ rfl hn hl hst (lv_room hrest) hdg hcs) (fun z => (h.resolve_left (fun q => z q.1)).2) hms ?_
  intro v st₀ t T' L h0 X' hL e1 e2 hq
  obtain ⟨⟨r', u, hv, ⟨hz, hr'⟩, hU⟩, hFr⟩ := hq
  cases hv
  subst hr'
  obtain ⟨-, -, k3⟩ := vx_keep (A0 := zA X) (free := zA X) h0 e1 hw.2.1 (fun q _ h => h) (fun q h => h) hL hFr
  exact kk T'.heap (locs ++ L) (zH_back hw e1.symm hU k3) (h.resolve_right (fun q => q.1 hz)).2 T' rfl X'
theorem zx_callVv (hF : zF p s m args meth c X cc nL own) (hnt : ∀ x ∈ c.exceptionTable.toList, False) (hw : zH X N g s H locs) {y : MethodName} {b : ByteArray} {mL n idx : Nat} {rt : Option FieldType} {rm : Room} {k i : Nat} {As : List Value} {P : Prop} (hM : zXM l y b mL rt rm X N g (z_r N k i :: As) (zYv X N o g') o g') (h : (o.1 = 0 ∧ P) ∨ (o.1 ≠ 0 ∧ (oo, gg) = ((o.1, 0), g'))) (hE : zE N k i) (hk : k < 10) {C : String} {T : u_T} {n9 : Nat} (hc : zCls k C T n9)
    (hG : GoodIn lw_G (wsV own idx C y (zws y b mL rt))) (hd : y.cls = C ∧ y.cls ≠ "java/lang/invoke/MethodHandle" ∧ y.cls ≠ "java/lang/invoke/VarHandle" ∧ (parseMethodDescriptor y.desc).map (fun d => d.parameters.length) = some n) (hR : rm.frames + 1 ≤ R.frames ∧ 8 + (mL + 11) + rm.locals ≤ R.locals) (hn : As.length = n) (hl : ls.size = nL) {st0 : List Value} (hst : st0 = As.reverse ++ z_r N k i :: rest) (hrest : (rest.map fun v => v.category).sum ≤ 8) (hdg : decode cc pc = .ok (.invokevirtual idx, 3)) (hcs : cells + rm.cells ≤ R.cells ∧ slots + rm.slots ≤ R.slots) (hms : cells + rm.cells ≤ mc ∧ slots + rm.slots ≤ ms)
    (kk : ∀ (H : Heap) (locs : List Loc), zH X N g' s H locs → P → W p l e R s m args below meth c H locs (cells + rm.cells) (slots + rm.slots) (vx_MQ below Qc (zXC X N oo gg) args s mc ms (zA X)) (F0 m (pc + 3) ls rest)) : W p l e R s m args below meth c H locs cells slots (vx_MQ below Qc (zXC X N oo gg) args s mc ms (zA X)) (F0 m pc ls st0) := by
  refine zx_go hnt hF hw (vx_runV (As := As) (rest := rest) hF.1 hM (cwV n hF.1.2.2.2.2 hG rfl rfl rfl hd hR) ⟨zU_blind, z_recv hF hw hE hk hc, z_pre hF hw⟩ rfl hn hl hst (lv_room hrest) hdg hcs) (fun z => (h.resolve_left (fun q => z q.1)).2) hms ?_
  intro v st₀ t T' L h0 X' hL e1 e2 hq
  obtain ⟨⟨u, hv, hz, hU⟩, hFr⟩ := hq
  cases hv
  obtain ⟨-, -, k3⟩ := vx_keep (A0 := zA X) (free := zA X) h0 e1 hw.2.1 (fun q _ h => h) (fun q h => h) hL hFr
  exact kk T'.heap (locs ++ L) (zH_back hw e1.symm hU k3) (h.resolve_right (fun q => q.1 hz)).2 T' rfl X'
theorem zx_callSv (hF : zF p s m args meth c X cc nL own) (hnt : ∀ x ∈ c.exceptionTable.toList, False) (hw : zH X N g s H locs) {y : MethodName} {b : ByteArray} {mL n idx : Nat} {rt : Option FieldType} {rm : Room} {As : List Value} {P : Prop} (hM : zXM l y b mL rt rm X N g As (zYv X N o g') o g') (h : (o.1 = 0 ∧ P) ∨ (o.1 ≠ 0 ∧ (oo, gg) = ((o.1, 0), g')))
    (hG : GoodIn lw_G (va_wsS own idx y (zws y b mL rt))) (hd : y.cls ≠ "java/lang/invoke/MethodHandle" ∧ y.cls ≠ "java/lang/invoke/VarHandle" ∧ (parseMethodDescriptor y.desc).map (fun d => d.parameters.length) = some n) (hR : rm.frames + 1 ≤ R.frames ∧ 8 + (mL + 11) + rm.locals ≤ R.locals) (hn : As.length = n) (hl : ls.size = nL) {st0 : List Value} (hst : st0 = As.reverse ++ rest) (hrest : (rest.map fun v => v.category).sum ≤ 8) (hdg : decode cc pc = .ok (.invokestatic idx, 3)) (hcs : cells + rm.cells ≤ R.cells ∧ slots + rm.slots ≤ R.slots) (hms : cells + rm.cells ≤ mc ∧ slots + rm.slots ≤ ms)
    (kk : ∀ (H : Heap) (locs : List Loc), zH X N g' s H locs → P → W p l e R s m args below meth c H locs (cells + rm.cells) (slots + rm.slots) (vx_MQ below Qc (zXC X N oo gg) args s mc ms (zA X)) (F0 m (pc + 3) ls rest)) : W p l e R s m args below meth c H locs cells slots (vx_MQ below Qc (zXC X N oo gg) args s mc ms (zA X)) (F0 m pc ls st0) := by
  refine zx_go hnt hF hw (vx_runS (As := As) (rest := rest) hF.1 hM (va_cwS n hF.1.2.2.2.2 hG rfl rfl rfl hd hR) ⟨zU_blind, z_pre hF hw⟩ rfl hn hl hst (lv_room hrest) hdg hcs) (fun z => (h.resolve_left (fun q => z q.1)).2) hms ?_
  intro v st₀ t T' L h0 X' hL e1 e2 hq
  obtain ⟨⟨u, hv, hz, hU⟩, hFr⟩ := hq
  cases hv
  obtain ⟨-, -, k3⟩ := vx_keep (A0 := zA X) (free := zA X) h0 e1 hw.2.1 (fun q _ h => h) (fun q h => h) hL hFr
  exact kk T'.heap (locs ++ L) (zH_back hw e1.symm hU k3) (h.resolve_right (fun q => q.1 hz)).2 T' rfl X'
end ZX

/-! THE LAW'S OWN SMALL METHODS: they call, catch, and tell the place -/
def zws2 (y : MethodName) (b : ByteArray) (n : Nat) (ret : Option FieldType) (hh : List (Nat × Nat × Nat × Nat)) : List Cond := Cond.codeWith y b n ret hh :: lw_G
theorem z_goodSW {own : String} {idx : Nat} {y : MethodName} {b : ByteArray} {n : Nat} {ret : Option FieldType} {hh : List (Nat × Nat × Nat × Nat)} (h1 : Cond.methodLink own idx y ∈ lw_G) (h2 : Cond.static y ∈ lw_G) (h3 : Cond.initialized y.cls ∈ lw_G) (h5 : Cond.codeWith y b n ret hh ∈ lw_G) : GoodIn lw_G (va_wsS own idx y (zws2 y b n ret hh)) := by
  intro w hw
  have hm : w ∈ lw_G := by
    simp only [va_wsS, zws2, List.cons_append, List.nil_append, List.mem_cons] at hw
    rcases hw with rfl | rfl | rfl | rfl | h
    · exact h1
    · exact h2
    · exact h3
    · exact h5
    · exact h
  exact ⟨hm, zG_good hm⟩
/-- the addresses of what is there once are the same -/
def zNp (N : zN) : Prop := N.2 0 = N.2 7 ∧ N.2 1 = N.2 8 ∧ (N.2 3 = 0 ∨ 10 ≤ N.2 3)
def zSame (N N' : zN) : Prop := (∀ k i : Nat, k ≠ 4 → k ≠ 5 → k ≠ 14 → k ≠ 15 → k ≠ 16 → N'.1 k i = N.1 k i) ∧ (zNp N → zNp N')
theorem zSame.rf {N : zN} : zSame N N := ⟨fun _ _ _ _ _ _ _ => rfl, fun h => h⟩
def zQn (X : zC) (N : zN) (r : Int) (g' : zG) : Array Value → State → Outcome → State → Prop := va_Qi (fun (r' : Int32) (_ : zN) => r' = Int32.ofInt r) (fun N' t => zSame N N' ∧ zU X N' g' t) (zA X)
/-- a contract of a method that throws, or makes something -/
def zYn (X : zC) (N : zN) (o : Nat × Int) (g' : zG) : Array Value → State → Outcome → State → Prop := va_Qi (fun (r' : Int32) (_ : zN) => o.1 = 0 ∧ r' = Int32.ofInt o.2) (fun N' t => zSame N N' ∧ zU X N' g' t) (zA X)
abbrev zMW (l : Launch) (y : MethodName) (b : ByteArray) (n : Nat) (ret : Option FieldType) (hh : List (Nat × Nat × Nat × Nat)) (rm : Room) (X : zC) (N : zN) (g : zG) (av : List Value) (Qc : Array Value → State → Outcome → State → Prop) : Prop :=
  Met l y (zws2 y b n ret hh) rm (va_Pc av (fun U => zU X N g U)) Qc rm.cells rm.slots (zA X)
theorem z_wofW {l : Launch} {y : MethodName} {cc : ByteArray} {maxL : Nat} {ret : Option FieldType} {hh : List (Nat × Nat × Nat × Nat)} {rm : Room} {X : zC} {N : zN} {g : zG} {av : List Value} {Qc : Array Value → State → Outcome → State → Prop} {own : String} (hy : plainName y.cls = true) (ho : y.cls = own) (hn : (lg_sl av).length ≤ maxL)
    (body : ∀ p e s m args below meth c ls, zF p s m args meth c X cc maxL own → meth.sig.returnType = ret → c.exceptionTable.toList = tableOf hh → zH X N g s s.heap [] → lv_has ls maxL (lv_args 0 av) → W p l e rm s m args below meth c s.heap [] 0 0 (MQ below Qc args s rm.cells rm.slots (zA X)) (F0 m 0 ls [])) : zMW l y cc maxL ret hh rm X N g av Qc := by
  refine MetFree.of_bodyS (code := cc) (maxLocals := maxL) (ret := ret) hy ?_ ?_
  · intro args s m h hn
    obtain ⟨m9, meth, c, hn9, h1, h2, h3, h4, -, h5, h6, -⟩ := Cond.codeWith_spec (atoms_spec (ws := zws2 y cc maxL ret hh) h _ List.mem_cons_self)
    cases hn.symm.trans hn9
    exact ⟨meth, c, h1, h2, h3, h4, h5, h6⟩
  · intro p e s m args below meth c s₁ B hml hv _
    have hh0 : s₁.heap = s.heap := by rw [B.state]; rfl
    obtain ⟨rfl, hWd, hK, hS⟩ := hv
    have hts0 := atoms_spec (ws := zws2 y cc maxL ret hh) B.pre
    have hts : ∀ w ∈ lw_G, w.before av.toArray s = true := fun w hw => hts0 w (List.mem_cons_of_mem _ hw)
    have htab : c.exceptionTable.toList = tableOf hh := vx_table (x := y) B (hts0 _ List.mem_cons_self)
    have hown : s.vm.findClass own = some m.cls := by rw [← ho]; exact findClass_of_methodNamed B.named
    have hl := lv_entry av (n := maxL) hn
    have key : W p l e rm s m av.toArray below meth c s.heap [] 0 0 (MQ below Qc av.toArray s rm.cells rm.slots (zA X)) (entryFrame m av.toArray maxL) := by
      rw [lg_entry_eq]
      exact body p e s m _ below meth c _ ⟨⟨B.exec, B.bytes, hml, hown, hts⟩, hK, hS, B.notSynchronized⟩ B.returns htab ⟨hWd, va_S.rf, hWd.2.2.2.2.1⟩ hl
    obtain ⟨t, a1, o, b1, b2, b3⟩ := key s₁ hh0 (Stand.of_body B)
    exact ⟨t, o, a1, b1, b2, ⟨b3.1, b3.2⟩⟩
def zbc (L : List Nat) (a : Option ((Nat × Int) × zG)) (f : Int → zG → Option (Int × zG)) : Option (Int × zG) := match a with
  | none => none
  | some o => if o.1.1 = 0 then f o.1.2 o.2 else if L[0]? = some o.1.1 then some (1, o.2) else if L[1]? = some o.1.1 then some (2, o.2) else if L[2]? = some o.1.1 then some (3, o.2) else none
theorem zbc_some {L : List Nat} {a : Option ((Nat × Int) × zG)} {f : Int → zG → Option (Int × zG)} {w : Int × zG} (h : zbc L a f = some w) : ∃ (o : Nat × Int) (g : zG), a = some (o, g) ∧ ((o.1 = 0 ∧ f o.2 g = some w) ∨ (o.1 ≠ 0 ∧ ((L[0]? = some o.1 ∧ some (1, g) = some w) ∨ (L[1]? = some o.1 ∧ some (2, g) = some w) ∨ (L[2]? = some o.1 ∧ some (3, g) = some w)))) := by
  unfold zbc at h
  split at h
  · cases h
  · rename_i q
    refine ⟨q.1, q.2, rfl, ?_⟩
    split at h
    · rename_i z
      exact Or.inl ⟨z, h⟩
    · rename_i z
      refine Or.inr ⟨z, ?_⟩
      split at h
      · rename_i z1
        exact Or.inl ⟨z1, h⟩
      · split at h
        · rename_i z1
          exact Or.inr (Or.inl ⟨z1, h⟩)
        · split at h
          · rename_i z1
            exact Or.inr (Or.inr ⟨z1, h⟩)
          · cases h
section ZW
variable {p : Program} {l : Launch} {e : Env} {R : Room} {s : State} {m : MethodId} {args : Array Value} {below : List Frame} {meth : Method} {c : Code} {H : Heap} {locs : List Loc} {cells slots : Nat} {Q : State → Prop}
variable {cc : ByteArray} {pc nL : Nat} {ls : Array Slot} {rest : List Value} {own : String} {X : zC} {N : zN} {g g' : zG} {o : Nat × Int} {α : Type} {w : α}
theorem zw_iret {N0 : zN} (hF : zF p s m args meth c X cc nL own) (hr : meth.sig.returnType = some .int) (hs : zSame N0 N) (hw : zH X N g s H locs) {x r : Int} (h : (some (x, g) : Option (Int × zG)) = some (r, g')) (hdg : decode cc pc = .ok (.ireturn, 1)) {mc ms : Nat} (hc : cells ≤ mc ∧ slots ≤ ms) : W p l e R s m args below meth c H locs cells slots (MQ below (zQn X N0 r g') args s mc ms (zA X)) (F0 m pc ls [z_v x]) := by
  cases h
  refine W.widen (k := mc) (n := ms) hc.1 hc.2 ?_
  exact W.iret (v := Int32.ofInt x) hF.1.1 hF.1.2.1 hr (fun t ht hW => ⟨⟨Int32.ofInt x, N, rfl, rfl, hs, by rw [ht]; exact hw.1, va_K.moved hW.alike hF.2.1, zS_pass hF.2.2.1 hw.2.1 hW ht⟩, hw.2.1.F ht⟩) hw.2.1.2.2 hdg hF.2.2.2
theorem zw_go {mc2 ms2 : Nat} {st0 : List Value} {Qa : State → Outcome → State → Prop} (hF : zF p s m args meth c X cc nL own) (hw : zH X N g s H locs)
    (hr : vx_Run p l e R s m args below meth c H locs cells slots mc2 ms2 (F0 m pc ls st0) rest Qa (zXC X N o g') (zA X))
    (kx : o.1 ≠ 0 → ∀ (H : Heap) (locs : List Loc) (ce : Cell) (q : Addr), zH X N g' s H locs → H[q]? = some ce → ce.vm = .none → s.vm.findClass (zXn o.1) = some ce.cls → vx_W p l e R s m args below meth c H locs (cells + mc2) (slots + ms2) Q (F0 m pc ls rest) q)
    (kk : ∀ (v : Option Value) (st₀ t T' : State) (L : List Loc), st₀.heap = H → Stand p l e R s m args below meth c T' (locs ++ L) (cells + mc2) (slots + ms2) → (∀ q ∈ L, zA X q.base) → T'.heap = t.heap → T'.vm = t.vm → Qa st₀ (.returned v) t → ∃ t2, Steps p.tables e below (T'.setTop (F0 m (pc + 3) ls (v.toList ++ rest))) t2 ∧ Q t2) :
    W p l e R s m args below meth c H locs cells slots Q (F0 m pc ls st0) := by
  intro T hT Y
  rcases hr T hT Y with ⟨v, st₀, t, T', L, h0, X', hL, e1, e2, hq, st⟩ | ⟨q, st₀, t, T', L, E, ce, h0, X', hL, e1, e2, ⟨u, -, ⟨⟨hn, rfl⟩, hb⟩, hFr⟩, hce, hcv, hcl, st⟩
  · obtain ⟨t2, a1, b1⟩ := kk v st₀ t T' L h0 X' hL e1 e2 hq
    exact ⟨t2, st t2 a1, b1⟩
  · obtain ⟨k1, k2, k3⟩ := vx_keep (A0 := zA X) (free := zA X) h0 e1 hw.2.1 (fun q _ h => h) (fun q h => h) hL hFr
    obtain ⟨t2, a1, b1⟩ := kx hn T'.heap (locs ++ L) ce q ⟨by rw [e1]; exact hb, k3, hw.2.2⟩ (by rw [e1]; exact hce) hcv hcl T' rfl X'
    exact ⟨t2, st.trans a1, b1⟩
theorem zw_callVi (hF : zF p s m args meth c X cc nL own) (hw : zH X N g s H locs) {y : MethodName} {b : ByteArray} {mL n idx : Nat} {rt : Option FieldType} {rm : Room} {k i : Nat} {As : List Value} {P PX : Prop} (hM : zXM l y b mL rt rm X N g (z_r N k i :: As) (zYi X N o g') o g') (h : (o.1 = 0 ∧ P) ∨ (o.1 ≠ 0 ∧ PX)) (hE : zE N k i) (hk : k < 10) {C : String} {T : u_T} {n9 : Nat} (hc : zCls k C T n9)
    (hG : GoodIn lw_G (wsV own idx C y (zws y b mL rt))) (hd : y.cls = C ∧ y.cls ≠ "java/lang/invoke/MethodHandle" ∧ y.cls ≠ "java/lang/invoke/VarHandle" ∧ (parseMethodDescriptor y.desc).map (fun d => d.parameters.length) = some n) (hR : rm.frames + 1 ≤ R.frames ∧ 8 + (mL + 11) + rm.locals ≤ R.locals) (hn : As.length = n) (hl : ls.size = nL) {st0 : List Value} (hst : st0 = As.reverse ++ z_r N k i :: rest) (hrest : (rest.map fun v => v.category).sum ≤ 8) (hdg : decode cc pc = .ok (.invokevirtual idx, 3)) (hcs : cells + rm.cells ≤ R.cells ∧ slots + rm.slots ≤ R.slots)
    (kx : PX → ∀ (H : Heap) (locs : List Loc) (ce : Cell) (q : Addr), zH X N g' s H locs → H[q]? = some ce → ce.vm = .none → s.vm.findClass (zXn o.1) = some ce.cls → vx_W p l e R s m args below meth c H locs (cells + rm.cells) (slots + rm.slots) Q (F0 m pc ls rest) q)
    (kk : ∀ (H : Heap) (locs : List Loc), zH X N g' s H locs → P → W p l e R s m args below meth c H locs (cells + rm.cells) (slots + rm.slots) Q (F0 m (pc + 3) ls (z_v o.2 :: rest))) : W p l e R s m args below meth c H locs cells slots Q (F0 m pc ls st0) := by
  refine zw_go hF hw (vx_runV (As := As) (rest := rest) hF.1 hM (cwV n hF.1.2.2.2.2 hG rfl rfl rfl hd hR) ⟨zU_blind, z_recv hF hw hE hk hc, z_pre hF hw⟩ rfl hn hl hst (lv_room hrest) hdg hcs) (fun z => kx (h.resolve_left (fun q => z q.1)).2) ?_
  intro v st₀ t T' L h0 X' hL e1 e2 hq
  obtain ⟨⟨r', u, hv, ⟨hz, hr'⟩, hU⟩, hFr⟩ := hq
  cases hv
  subst hr'
  obtain ⟨-, -, k3⟩ := vx_keep (A0 := zA X) (free := zA X) h0 e1 hw.2.1 (fun q _ h => h) (fun q h => h) hL hFr
  exact kk T'.heap (locs ++ L) (zH_back hw e1.symm hU k3) (h.resolve_right (fun q => q.1 hz)).2 T' rfl X'
theorem zw_callVn (hF : zF p s m args meth c X cc nL own) (hw : zH X N g s H locs) {y : MethodName} {b : ByteArray} {mL n idx : Nat} {rt : Option FieldType} {rm : Room} {k i : Nat} {As : List Value} {P PX : Prop} (hM : zXM l y b mL rt rm X N g (z_r N k i :: As) (zYn X N o g') o g') (h : (o.1 = 0 ∧ P) ∨ (o.1 ≠ 0 ∧ PX)) (hE : zE N k i) (hk : k < 10) {C : String} {T : u_T} {n9 : Nat} (hc : zCls k C T n9)
    (hG : GoodIn lw_G (wsV own idx C y (zws y b mL rt))) (hd : y.cls = C ∧ y.cls ≠ "java/lang/invoke/MethodHandle" ∧ y.cls ≠ "java/lang/invoke/VarHandle" ∧ (parseMethodDescriptor y.desc).map (fun d => d.parameters.length) = some n) (hR : rm.frames + 1 ≤ R.frames ∧ 8 + (mL + 11) + rm.locals ≤ R.locals) (hn : As.length = n) (hl : ls.size = nL) {st0 : List Value} (hst : st0 = As.reverse ++ z_r N k i :: rest) (hrest : (rest.map fun v => v.category).sum ≤ 8) (hdg : decode cc pc = .ok (.invokevirtual idx, 3)) (hcs : cells + rm.cells ≤ R.cells ∧ slots + rm.slots ≤ R.slots)
    (kx : PX → ∀ (H : Heap) (locs : List Loc) (ce : Cell) (q : Addr), zH X N g' s H locs → H[q]? = some ce → ce.vm = .none → s.vm.findClass (zXn o.1) = some ce.cls → vx_W p l e R s m args below meth c H locs (cells + rm.cells) (slots + rm.slots) Q (F0 m pc ls rest) q)
    (kk : ∀ (N' : zN) (H : Heap) (locs : List Loc), zSame N N' → zH X N' g' s H locs → P → W p l e R s m args below meth c H locs (cells + rm.cells) (slots + rm.slots) Q (F0 m (pc + 3) ls (z_v o.2 :: rest))) : W p l e R s m args below meth c H locs cells slots Q (F0 m pc ls st0) := by
  refine zw_go hF hw (vx_runV (As := As) (rest := rest) hF.1 hM (cwV n hF.1.2.2.2.2 hG rfl rfl rfl hd hR) ⟨zU_blind, z_recv hF hw hE hk hc, z_pre hF hw⟩ rfl hn hl hst (lv_room hrest) hdg hcs) (fun z => kx (h.resolve_left (fun q => z q.1)).2) ?_
  intro v st₀ t T' L h0 X' hL e1 e2 hq
  obtain ⟨⟨r', u, hv, ⟨hz, hr'⟩, hsm, hU⟩, hFr⟩ := hq
  cases hv
  subst hr'
  obtain ⟨-, -, k3⟩ := vx_keep (A0 := zA X) (free := zA X) h0 e1 hw.2.1 (fun q _ h => h) (fun q h => h) hL hFr
  exact kk u T'.heap (locs ++ L) hsm (zH_back hw e1.symm hU k3) (h.resolve_right (fun q => q.1 hz)).2 T' rfl X'
theorem zw_callVv (hF : zF p s m args meth c X cc nL own) (hw : zH X N g s H locs) {y : MethodName} {b : ByteArray} {mL n idx : Nat} {rt : Option FieldType} {rm : Room} {k i : Nat} {As : List Value} {P PX : Prop} (hM : zXM l y b mL rt rm X N g (z_r N k i :: As) (zYv X N o g') o g') (h : (o.1 = 0 ∧ P) ∨ (o.1 ≠ 0 ∧ PX)) (hE : zE N k i) (hk : k < 10) {C : String} {T : u_T} {n9 : Nat} (hc : zCls k C T n9)
    (hG : GoodIn lw_G (wsV own idx C y (zws y b mL rt))) (hd : y.cls = C ∧ y.cls ≠ "java/lang/invoke/MethodHandle" ∧ y.cls ≠ "java/lang/invoke/VarHandle" ∧ (parseMethodDescriptor y.desc).map (fun d => d.parameters.length) = some n) (hR : rm.frames + 1 ≤ R.frames ∧ 8 + (mL + 11) + rm.locals ≤ R.locals) (hn : As.length = n) (hl : ls.size = nL) {st0 : List Value} (hst : st0 = As.reverse ++ z_r N k i :: rest) (hrest : (rest.map fun v => v.category).sum ≤ 8) (hdg : decode cc pc = .ok (.invokevirtual idx, 3)) (hcs : cells + rm.cells ≤ R.cells ∧ slots + rm.slots ≤ R.slots)
    (kx : PX → ∀ (H : Heap) (locs : List Loc) (ce : Cell) (q : Addr), zH X N g' s H locs → H[q]? = some ce → ce.vm = .none → s.vm.findClass (zXn o.1) = some ce.cls → vx_W p l e R s m args below meth c H locs (cells + rm.cells) (slots + rm.slots) Q (F0 m pc ls rest) q)
    (kk : ∀ (H : Heap) (locs : List Loc), zH X N g' s H locs → P → W p l e R s m args below meth c H locs (cells + rm.cells) (slots + rm.slots) Q (F0 m (pc + 3) ls rest)) : W p l e R s m args below meth c H locs cells slots Q (F0 m pc ls st0) := by
  refine zw_go hF hw (vx_runV (As := As) (rest := rest) hF.1 hM (cwV n hF.1.2.2.2.2 hG rfl rfl rfl hd hR) ⟨zU_blind, z_recv hF hw hE hk hc, z_pre hF hw⟩ rfl hn hl hst (lv_room hrest) hdg hcs) (fun z => kx (h.resolve_left (fun q => z q.1)).2) ?_
  intro v st₀ t T' L h0 X' hL e1 e2 hq
  obtain ⟨⟨u, hv, hz, hU⟩, hFr⟩ := hq
  cases hv
  obtain ⟨-, -, k3⟩ := vx_keep (A0 := zA X) (free := zA X) h0 e1 hw.2.1 (fun q _ h => h) (fun q h => h) hL hFr
  exact kk T'.heap (locs ++ L) (zH_back hw e1.symm hU k3) (h.resolve_right (fun q => q.1 hz)).2 T' rfl X'
end ZW

/-! THE ROWS over the world -/
def zws (y : MethodName) (b : ByteArray) (n : Nat) (ret : Option FieldType) : List Cond := Cond.code y b n ret :: lw_G
theorem zG_good {w : Cond} (h : w ∈ lw_G) : (w.onTables && w.keeps) = true ∨ ∃ ty, w = .arrayClass ty := good_of_word (List.mem_filter.mp h).2
theorem z_goodV {own C : String} {idx : Nat} {y : MethodName} {b : ByteArray} {n : Nat} {ret : Option FieldType} (h1 : Cond.methodLink own idx y ∈ lw_G) (h2 : Cond.instanceMethod y ∈ lw_G) (h3 : Cond.selects C y y ∈ lw_G) (h4 : Cond.initialized C ∈ lw_G) (h5 : Cond.code y b n ret ∈ lw_G) : GoodIn lw_G (wsV own idx C y (zws y b n ret)) := by
  intro w hw
  have hm : w ∈ lw_G := by
    simp only [wsV, zws, List.cons_append, List.nil_append, List.mem_cons] at hw
    rcases hw with rfl | rfl | rfl | rfl | rfl | h
    · exact h1
    · exact h2
    · exact h3
    · exact h4
    · exact h5
    · exact h
  exact ⟨hm, zG_good hm⟩
theorem z_goodS {own : String} {idx : Nat} {y : MethodName} {b : ByteArray} {n : Nat} {ret : Option FieldType} (h1 : Cond.methodLink own idx y ∈ lw_G) (h2 : Cond.static y ∈ lw_G) (h3 : Cond.initialized y.cls ∈ lw_G) (h5 : Cond.code y b n ret ∈ lw_G) : GoodIn lw_G (va_wsS own idx y (zws y b n ret)) := by
  intro w hw
  have hm : w ∈ lw_G := by
    simp only [va_wsS, zws, List.cons_append, List.nil_append, List.mem_cons] at hw
    rcases hw with rfl | rfl | rfl | rfl | h
    · exact h1
    · exact h2
    · exact h3
    · exact h5
    · exact h
  exact ⟨hm, zG_good hm⟩
abbrev z_casts : List (String × String) := [("java/lang/IndexOutOfBoundsException", "java/lang/IndexOutOfBoundsException"), ("java/lang/IllegalArgumentException", "java/lang/IllegalArgumentException"), ("java/lang/IllegalStateException", "java/lang/IllegalStateException"), ("SkyloadBureau$Flight", "java/lang/Object"), ("SkyloadBureau$Regulation", "java/lang/Object")]
abbrev z_ncasts : List (String × String) := [("java/lang/IllegalArgumentException", "java/lang/IllegalStateException")]
abbrev z_texts : List (Nat × String) := [(259, "no such company"), (261, "an argument is out of range"), (47, "no more flights can be told"), (253, "no such flight"), (257, "no such sector"), (72, "the flight cannot have this entry"), (84, "the flight is not waiting"), (142, "no more regulations can be told"), (255, "no such regulation"), (263, "the regulation is ended"), (190, "slots are numbered from 0"), (227, "a flight is not swapped with itself"), (234, "the flights cannot be swapped"), (242, "a slot time would be ahead of the planned time")]
abbrev z_decls : List MethodName := [⟨"java/lang/RuntimeException", "<init>", "(Ljava/lang/String;)V"⟩, ⟨"java/lang/Exception", "<init>", "(Ljava/lang/String;)V"⟩, ⟨"java/lang/Throwable", "<init>", "(Ljava/lang/String;)V"⟩]
/-- what the start says of statics, constants, casts -/
def zS (X : zC) (U : State) : Prop :=
  vx_Zq Bundle.tN "UNASSIGNED_STACK" Bundle.steD (zA X) U U.heap ∧ vx_Zq Bundle.tN "SUPPRESSED_SENTINEL" Bundle.listD (zA X) U U.heap ∧
  va_Z "java/util/ArrayList" "DEFAULTCAPACITY_EMPTY_ELEMENTDATA" "[Ljava/lang/Object;" (.ref X.2.2.2) (zA X) U U.heap ∧
  (∀ q ∈ z_casts, va_Nw (.castable q.1 q.2) U) ∧ (∀ q ∈ z_ncasts, va_Nc q.1 q.2 U) ∧ (∀ q ∈ z_texts, ∃ a : Nat, vk_R RX4 q.1 q.2 a U) ∧ (∀ y ∈ z_decls, va_Nw (.declares y) U) ∧ (∃ mi : Nat, va_Mi "[Ljava/lang/Object;" mi U) ∧ va_AO "java/lang/Object" U ∧ va_Dc U
def zU (X : zC) (N : zN) (g : zG) (U : State) : Prop := zW X N g U.heap ∧ va_K X.1 vwCl (z_tys X) U ∧ zS X U
def zF (p : Program) (s : State) (m : MethodId) (args : Array Value) (meth : Method) (c : Code) (X : zC) (cc : ByteArray) (nL : Nat) (own : String) : Prop :=
  CallFix p m c cc nL s args lw_G own ∧ va_K X.1 vwCl (z_tys X) s ∧ zS X s ∧ meth.locks = false
def zH (X : zC) (N : zN) (g : zG) (s : State) (H : Heap) (locs : List Loc) : Prop := zW X N g H ∧ va_S (zA X) s.heap H locs ∧ X.2.2.1 ≤ s.heap.size
theorem zH_step {X : zC} {N N' : zN} {g g' : zG} {s : State} {H H1 : Heap} {locs locs1 : List Loc} (h : zH X N g s H locs) (hP : va_P X.1 vwCl (z_pool X N' g') H1) (hD : va_D (zA X) (z_pool X N' g')) (hz : zSz N' g') (hS : va_S (zA X) s.heap H1 locs1) : zH X N' g' s H1 locs1 := by
  obtain ⟨⟨-, -, -, he, hb, ha⟩, hS0, hb0⟩ := h
  refine ⟨⟨hP, hD, hz, he, Nat.le_trans hb0 hS.1, ha.kept ?_⟩, hS, hb0⟩
  have hlt : X.2.2.2 < s.heap.size := Nat.lt_of_lt_of_le he hb0
  have hn : ¬ zA X X.2.2.2 := Nat.not_le.mpr he
  exact (hS.2.1 _ hlt hn).trans (hS0.2.1 _ hlt hn).symm
theorem zS_pass {X : zC} {s U : State} {H : Heap} {locs : List Loc} (h : zS X s) (hS : va_S (zA X) s.heap H locs) (hW : s.WarmedH U.vm) (hU : U.heap = H) : zS X U := by
  obtain ⟨h1, h2, h3, h4, h5, h6, h7, ⟨mi, h8⟩, h9, h10⟩ := h
  have hq : ∀ a : Nat, a < s.heap.size → ¬ zA X a → U.heap[a]? = s.heap[a]? := fun a h1 h2 => by rw [hU]; exact hS.2.1 a h1 h2
  refine ⟨(vx_Zq.moved hW.alike h1).kept hq, (vx_Zq.moved hW.alike h2).kept hq, (va_Z.moved hW.alike h3).kept hq, fun q hm => va_Nw.warmC hW (h4 q hm), fun q hm => va_Nc.moved hW.alike (h5 q hm), fun q hm => ?_, fun y hy => va_Nw.warmD hW (h7 y hy), ⟨mi, va_Mi.moved hW.alike h8⟩, va_AO.moved hW.alike h9, va_Dc.moved hW.alike h10⟩
  obtain ⟨a, ha⟩ := h6 q hm
  exact ⟨a, vk_R.warm hW ha⟩
theorem zU_blind {X : zC} {N : zN} {g : zG} {av : List Value} : FrameBlind (va_Pc av (fun U => zU X N g U)) := by
  intro a U g9 mk q
  obtain ⟨q0, q1, q2, q3⟩ := q
  refine ⟨q0, q1, va_K.moved (u := U) (U := U.calling g9 mk a) (Vm.Alike.refl U.vm) q2, ?_⟩
  exact zS_pass (s := U) (U := U.calling g9 mk a) (H := U.heap) (locs := []) q3 va_S.rf (State.WarmedH.refl U) rfl
/-- the contracts: a method that returns a number (a truth), nothing, one of kind k -/
def zQi (X : zC) (N : zN) (r : Int) (g' : zG) : Array Value → State → Outcome → State → Prop := va_Qi (fun (r' : Int32) (_ : Unit) => r' = Int32.ofInt r) (fun _ t => zU X N g' t) (zA X)
def zQv (X : zC) (N : zN) (g' : zG) : Array Value → State → Outcome → State → Prop := va_Qv (fun (_ : Unit) => True) (fun _ t => zU X N g' t) (zA X)
def zQr (X : zC) (N : zN) (k : Nat) (r : Int) (g' : zG) : Array Value → State → Outcome → State → Prop := va_Qr (fun (_ : Unit) => True) (fun _ a t => a = N.1 k r.toNat ∧ zE N k r.toNat ∧ zU X N g' t) (zA X)
abbrev zM (l : Launch) (y : MethodName) (b : ByteArray) (n : Nat) (ret : Option FieldType) (rm : Room) (X : zC) (N : zN) (g : zG) (av : List Value) (Qc : Array Value → State → Outcome → State → Prop) : Prop :=
  Met l y (zws y b n ret) rm (va_Pc av (fun U => zU X N g U)) Qc 0 0 (zA X)
theorem z_ofW {l : Launch} {y : MethodName} {cc : ByteArray} {maxL : Nat} {ret : Option FieldType} {rm : Room} {X : zC} {N : zN} {g : zG} {av : List Value} {Qc : Array Value → State → Outcome → State → Prop} {own : String} (hy : plainName y.cls = true) (ho : y.cls = own) (hn : (lg_sl av).length ≤ maxL)
    (body : ∀ p e s m args below meth c ls, zF p s m args meth c X cc maxL own → meth.sig.returnType = ret → zH X N g s s.heap [] → lv_has ls maxL (lv_args 0 av) → W p l e rm s m args below meth c s.heap [] 0 0 (MQ below Qc args s 0 0 (zA X)) (F0 m 0 ls [])) : zM l y cc maxL ret rm X N g av Qc := by
  refine Met.ofW (cc := cc) (maxL := maxL) (ret := ret) hy rfl ?_
  intro p e s m args below meth c s₁ B hml hv
  obtain ⟨rfl, hWd, hK, hS⟩ := hv
  have hts : ∀ w ∈ lw_G, w.before av.toArray s = true := fun w hw => atoms_spec (ws := zws y cc maxL ret) B.pre w (List.mem_cons_of_mem _ hw)
  have hown : s.vm.findClass own = some m.cls := by rw [← ho]; exact findClass_of_methodNamed B.named
  have hl := lv_entry av (n := maxL) hn
  rw [lg_entry_eq]
  exact body p e s m _ below meth c _ ⟨⟨B.exec, B.bytes, hml, hown, hts⟩, hK, hS, B.notSynchronized⟩ B.returns ⟨hWd, va_S.rf, hWd.2.2.2.2.1⟩ hl
/-! classes -/
def zCls (k : Nat) (C : String) (T : u_T) (n : Nat) : Prop := vwCl[z_ci k]? = some (C, T, n) ∧ (∀ w ∈ u_ws C T n, w ∈ lw_G) ∧ (∀ a, a < n → ∀ b, b < n → a ≠ b → (T a).2.1 ≠ (T b).2.1) ∧ ∃ ty : Nat → FieldType, ∀ a, a < n → parseFieldDescriptor (T a).2.2.1 = some (ty a)
def z_ki (k : Nat) : Bool := decide (10 ≤ k) && k != 16
theorem z_len_le (k : Nat) : z_len k < 2147483648 := by
  unfold z_len
  repeat' split
  all_goals omega
theorem z_cell_int {X : zC} {N : zN} {g : zG} {k i : Nat} (hk : z_ki k = true) : z_cell X N g k i = .inl (X.2.1 0, z_len k, .inl (fun j => Int32.ofInt (g k i j))) := by
  simp only [z_ki, Bool.and_eq_true, decide_eq_true_eq, bne_iff_ne] at hk
  obtain ⟨h1, h2⟩ := hk
  unfold z_cell
  rw [if_neg (by omega), if_neg h2]
theorem z_cell_obj {X : zC} {N : zN} {g : zG} {k i : Nat} (hk : k < 10) : z_cell X N g k i = .inr (z_ci k, z_obj X N g k i) := by
  unfold z_cell
  rw [if_pos hk]
theorem z_updI {g : zG} {k i p : Nat} {v : Int} : (fun j => Int32.ofInt (zup g k i p v k i j)) = upd (fun j => Int32.ofInt (g k i j)) p (Int32.ofInt v) := by
  funext j
  by_cases h : j = p
  · subst h
    rw [zup_self, pk_us]
  · rw [zup_place h, pk_un h]
/-- a field's new number, in the object's list of values -/
def z_fld (k f : Nat) : Bool := match k with
  | 1 => f == 0
  | 2 => f == 2 || f == 3 || f == 4
  | 3 => f == 4
  | 4 => f < 10 || f == 12 || f == 13
  | 5 => f < 5
  | _ => false
section ZR
variable {p : Program} {l : Launch} {e : Env} {R : Room} {s : State} {m : MethodId} {args : Array Value} {below : List Frame} {meth : Method} {c : Code} {H : Heap} {locs : List Loc} {cells slots : Nat} {Q : State → Prop}
variable {cc : ByteArray} {pc nL : Nat} {ls : Array Slot} {rest : List Value} {own : String} {X : zC} {N : zN} {g : zG} {α : Type} {o : α}
def zlet (x : Int) (f : Int → Option α) : Option α := f x
def zst (g : zG) (k i q : Nat) (v : Int) (f : zG → Option α) : Option α := f (zup g k i q v)
theorem zr_iadd (hF : zF p s m args meth c X cc nL own) {x y : Int} (hdg : decode cc pc = .ok (.iadd, 1)) (k : W p l e R s m args below meth c H locs cells slots Q (F0 m (pc + 1) ls (z_v (x + y) :: rest))) : W p l e R s m args below meth c H locs cells slots Q (F0 m pc ls (z_v y :: z_v x :: rest)) :=
  lv_iadd hF.1.1 hF.1.2.1 hdg (W.eq (congrArg (fun z => F0 m (pc + 1) ls (Value.int z :: rest)) (Int32.ofInt_add x y).symm) k)
theorem zr_isub (hF : zF p s m args meth c X cc nL own) {x y : Int} (hdg : decode cc pc = .ok (.isub, 1)) (k : W p l e R s m args below meth c H locs cells slots Q (F0 m (pc + 1) ls (z_v (x - y) :: rest))) : W p l e R s m args below meth c H locs cells slots Q (F0 m pc ls (z_v y :: z_v x :: rest)) :=
  lv_isub hF.1.1 hF.1.2.1 hdg (W.eq (congrArg (fun z => F0 m (pc + 1) ls (Value.int z :: rest)) (Int32.ofInt_sub x y).symm) k)
theorem zr_imul (hF : zF p s m args meth c X cc nL own) {x y : Int} (hdg : decode cc pc = .ok (.imul, 1)) (k : W p l e R s m args below meth c H locs cells slots Q (F0 m (pc + 1) ls (z_v (x * y) :: rest))) : W p l e R s m args below meth c H locs cells slots Q (F0 m pc ls (z_v y :: z_v x :: rest)) :=
  lv_imul hF.1.1 hF.1.2.1 hdg (W.eq (congrArg (fun z => F0 m (pc + 1) ls (Value.int z :: rest)) (Int32.ofInt_mul x y).symm) k)
theorem zr_idiv (hF : zF p s m args meth c X cc nL own) {x y : Int} {A : Option α} (h : zdv x y A = some o) (hdg : decode cc pc = .ok (.idiv, 1)) (k : A = some o → W p l e R s m args below meth c H locs cells slots Q (F0 m (pc + 1) ls (z_v (x.tdiv y) :: rest))) : W p l e R s m args below meth c H locs cells slots Q (F0 m pc ls (z_v y :: z_v x :: rest)) := by
  unfold zdv at h
  split at h
  · rename_i q
    obtain ⟨hx, hy, h0⟩ := q
    have hne : ¬ Int32.ofInt y = 0 := fun z => h0 ((z_inj hy (by decide)).mp (z.trans (by decide : (0 : Int32) = Int32.ofInt 0)))
    have he : Int32.ofInt (x.tdiv y) = Int32.ofInt x / Int32.ofInt y := Int32.ofInt_tdiv (by show (-2147483648 : Int) ≤ x; exact hx.1) (by show x ≤ (2147483647 : Int); exact hx.2) (by show (-2147483648 : Int) ≤ y; exact hy.1) (by show y ≤ (2147483647 : Int); exact hy.2)
    exact lv_idiv hF.1.1 hF.1.2.1 hdg hne (W.eq (congrArg (fun z => F0 m (pc + 1) ls (Value.int z :: rest)) he.symm) (k h))
  · cases h
theorem zr_icmp_lt (hF : zF p s m args meth c X cc nL own) {x y off : Int} {tgt : Nat} {A B : Option α} (h : zlt x y A B = some o) (hdg : decode cc pc = .ok (.if_icmp .lt off, 3)) (ht : (pc : Int) + off = (tgt : Int))
    (kt : A = some o → W p l e R s m args below meth c H locs cells slots Q (F0 m tgt ls rest)) (kf : B = some o → W p l e R s m args below meth c H locs cells slots Q (F0 m (pc + 3) ls rest)) : W p l e R s m args below meth c H locs cells slots Q (F0 m pc ls (z_v y :: z_v x :: rest)) := by
  unfold zlt at h
  split at h
  · rename_i q
    refine lv_icmp_lt hF.1.1 hF.1.2.1 hdg ht (fun d => kt ?_) (fun d => kf ?_)
    · rwa [if_pos ((z_lt q.1 q.2).mp d)] at h
    · rwa [if_neg (fun z => d ((z_lt q.1 q.2).mpr z))] at h
  · cases h
theorem zr_icmp_ge (hF : zF p s m args meth c X cc nL own) {x y off : Int} {tgt : Nat} {A B : Option α} (h : zlt x y A B = some o) (hdg : decode cc pc = .ok (.if_icmp .ge off, 3)) (ht : (pc : Int) + off = (tgt : Int))
    (kt : B = some o → W p l e R s m args below meth c H locs cells slots Q (F0 m tgt ls rest)) (kf : A = some o → W p l e R s m args below meth c H locs cells slots Q (F0 m (pc + 3) ls rest)) : W p l e R s m args below meth c H locs cells slots Q (F0 m pc ls (z_v y :: z_v x :: rest)) := by
  unfold zlt at h
  split at h
  · rename_i q
    refine lv_icmp_ge hF.1.1 hF.1.2.1 hdg ht (fun d => kt ?_) (fun d => kf ?_)
    · have d2 := (z_le q.2 q.1).mp d
      rwa [if_neg (by omega)] at h
    · have d2 : ¬ y ≤ x := fun z => d ((z_le q.2 q.1).mpr z)
      rwa [if_pos (by omega)] at h
  · cases h
theorem zr_icmp_gt (hF : zF p s m args meth c X cc nL own) {x y off : Int} {tgt : Nat} {A B : Option α} (h : zle x y A B = some o) (hdg : decode cc pc = .ok (.if_icmp .gt off, 3)) (ht : (pc : Int) + off = (tgt : Int))
    (kt : B = some o → W p l e R s m args below meth c H locs cells slots Q (F0 m tgt ls rest)) (kf : A = some o → W p l e R s m args below meth c H locs cells slots Q (F0 m (pc + 3) ls rest)) : W p l e R s m args below meth c H locs cells slots Q (F0 m pc ls (z_v y :: z_v x :: rest)) := by
  unfold zle at h
  split at h
  · rename_i q
    refine lv_icmp_gt hF.1.1 hF.1.2.1 hdg ht (fun d => kt ?_) (fun d => kf ?_)
    · have d2 := (z_lt q.2 q.1).mp d
      rwa [if_neg (by omega)] at h
    · have d2 : ¬ y < x := fun z => d ((z_lt q.2 q.1).mpr z)
      rwa [if_pos (by omega)] at h
  · cases h
theorem zr_icmp_le (hF : zF p s m args meth c X cc nL own) {x y off : Int} {tgt : Nat} {A B : Option α} (h : zle x y A B = some o) (hdg : decode cc pc = .ok (.if_icmp .le off, 3)) (ht : (pc : Int) + off = (tgt : Int))
    (kt : A = some o → W p l e R s m args below meth c H locs cells slots Q (F0 m tgt ls rest)) (kf : B = some o → W p l e R s m args below meth c H locs cells slots Q (F0 m (pc + 3) ls rest)) : W p l e R s m args below meth c H locs cells slots Q (F0 m pc ls (z_v y :: z_v x :: rest)) := by
  unfold zle at h
  split at h
  · rename_i q
    refine lv_icmp_le hF.1.1 hF.1.2.1 hdg ht (fun d => kt ?_) (fun d => kf ?_)
    · rwa [if_pos ((z_le q.1 q.2).mp d)] at h
    · rwa [if_neg (fun z => d ((z_le q.1 q.2).mpr z))] at h
  · cases h
theorem zr_icmp_eq (hF : zF p s m args meth c X cc nL own) {x y off : Int} {tgt : Nat} {A B : Option α} (h : zeq x y A B = some o) (hdg : decode cc pc = .ok (.if_icmp .eq off, 3)) (ht : (pc : Int) + off = (tgt : Int))
    (kt : A = some o → W p l e R s m args below meth c H locs cells slots Q (F0 m tgt ls rest)) (kf : B = some o → W p l e R s m args below meth c H locs cells slots Q (F0 m (pc + 3) ls rest)) : W p l e R s m args below meth c H locs cells slots Q (F0 m pc ls (z_v y :: z_v x :: rest)) := by
  unfold zeq at h
  split at h
  · rename_i q
    refine lv_icmp_eq hF.1.1 hF.1.2.1 hdg ht (fun d => kt ?_) (fun d => kf ?_)
    · rwa [if_pos ((z_inj q.1 q.2).mp d)] at h
    · rwa [if_neg (fun z => d ((z_inj q.1 q.2).mpr z))] at h
  · cases h
theorem zr_icmp_ne (hF : zF p s m args meth c X cc nL own) {x y off : Int} {tgt : Nat} {A B : Option α} (h : zeq x y A B = some o) (hdg : decode cc pc = .ok (.if_icmp .ne off, 3)) (ht : (pc : Int) + off = (tgt : Int))
    (kt : B = some o → W p l e R s m args below meth c H locs cells slots Q (F0 m tgt ls rest)) (kf : A = some o → W p l e R s m args below meth c H locs cells slots Q (F0 m (pc + 3) ls rest)) : W p l e R s m args below meth c H locs cells slots Q (F0 m pc ls (z_v y :: z_v x :: rest)) := by
  unfold zeq at h
  split at h
  · rename_i q
    refine lv_icmp_ne hF.1.1 hF.1.2.1 hdg ht (fun d => kt ?_) (fun d => kf ?_)
    · rwa [if_neg (fun z => d ((z_inj q.1 q.2).mpr z))] at h
    · have d2 : Int32.ofInt x = Int32.ofInt y := d
      rwa [if_pos ((z_inj q.1 q.2).mp d2)] at h
  · cases h
theorem zr_if_lt (hF : zF p s m args meth c X cc nL own) {x off : Int} {tgt : Nat} {A B : Option α} (h : zlt x 0 A B = some o) (hdg : decode cc pc = .ok (.ifCond .lt off, 3)) (ht : (pc : Int) + off = (tgt : Int))
    (kt : A = some o → W p l e R s m args below meth c H locs cells slots Q (F0 m tgt ls rest)) (kf : B = some o → W p l e R s m args below meth c H locs cells slots Q (F0 m (pc + 3) ls rest)) : W p l e R s m args below meth c H locs cells slots Q (F0 m pc ls (z_v x :: rest)) := by
  unfold zlt at h
  split at h
  · rename_i q
    refine lv_if_lt hF.1.1 hF.1.2.1 hdg ht (fun d => kt ?_) (fun d => kf ?_)
    · rwa [if_pos ((z_lt q.1 q.2).mp d)] at h
    · rwa [if_neg (fun z => d ((z_lt q.1 q.2).mpr z))] at h
  · cases h
theorem zr_if_ge (hF : zF p s m args meth c X cc nL own) {x off : Int} {tgt : Nat} {A B : Option α} (h : zlt x 0 A B = some o) (hdg : decode cc pc = .ok (.ifCond .ge off, 3)) (ht : (pc : Int) + off = (tgt : Int))
    (kt : B = some o → W p l e R s m args below meth c H locs cells slots Q (F0 m tgt ls rest)) (kf : A = some o → W p l e R s m args below meth c H locs cells slots Q (F0 m (pc + 3) ls rest)) : W p l e R s m args below meth c H locs cells slots Q (F0 m pc ls (z_v x :: rest)) := by
  unfold zlt at h
  split at h
  · rename_i q
    refine lv_if_ge hF.1.1 hF.1.2.1 hdg ht (fun d => kt ?_) (fun d => kf ?_)
    · have d2 := (z_le q.2 q.1).mp d
      rwa [if_neg (by omega)] at h
    · have d2 : ¬ (0 : Int) ≤ x := fun z => d ((z_le q.2 q.1).mpr z)
      rwa [if_pos (by omega)] at h
  · cases h
theorem zr_if_gt (hF : zF p s m args meth c X cc nL own) {x off : Int} {tgt : Nat} {A B : Option α} (h : zle x 0 A B = some o) (hdg : decode cc pc = .ok (.ifCond .gt off, 3)) (ht : (pc : Int) + off = (tgt : Int))
    (kt : B = some o → W p l e R s m args below meth c H locs cells slots Q (F0 m tgt ls rest)) (kf : A = some o → W p l e R s m args below meth c H locs cells slots Q (F0 m (pc + 3) ls rest)) : W p l e R s m args below meth c H locs cells slots Q (F0 m pc ls (z_v x :: rest)) := by
  unfold zle at h
  split at h
  · rename_i q
    refine lv_if_gt hF.1.1 hF.1.2.1 hdg ht (fun d => kt ?_) (fun d => kf ?_)
    · have d2 := (z_lt q.2 q.1).mp d
      rwa [if_neg (by omega)] at h
    · have d2 : ¬ (0 : Int) < x := fun z => d ((z_lt q.2 q.1).mpr z)
      rwa [if_pos (by omega)] at h
  · cases h
theorem zr_if_le (hF : zF p s m args meth c X cc nL own) {x off : Int} {tgt : Nat} {A B : Option α} (h : zle x 0 A B = some o) (hdg : decode cc pc = .ok (.ifCond .le off, 3)) (ht : (pc : Int) + off = (tgt : Int))
    (kt : A = some o → W p l e R s m args below meth c H locs cells slots Q (F0 m tgt ls rest)) (kf : B = some o → W p l e R s m args below meth c H locs cells slots Q (F0 m (pc + 3) ls rest)) : W p l e R s m args below meth c H locs cells slots Q (F0 m pc ls (z_v x :: rest)) := by
  unfold zle at h
  split at h
  · rename_i q
    refine lv_if_le hF.1.1 hF.1.2.1 hdg ht (fun d => kt ?_) (fun d => kf ?_)
    · rwa [if_pos ((z_le q.1 q.2).mp d)] at h
    · rwa [if_neg (fun z => d ((z_le q.1 q.2).mpr z))] at h
  · cases h
theorem zr_if_eq (hF : zF p s m args meth c X cc nL own) {x off : Int} {tgt : Nat} {A B : Option α} (h : zeq x 0 A B = some o) (hdg : decode cc pc = .ok (.ifCond .eq off, 3)) (ht : (pc : Int) + off = (tgt : Int))
    (kt : A = some o → W p l e R s m args below meth c H locs cells slots Q (F0 m tgt ls rest)) (kf : B = some o → W p l e R s m args below meth c H locs cells slots Q (F0 m (pc + 3) ls rest)) : W p l e R s m args below meth c H locs cells slots Q (F0 m pc ls (z_v x :: rest)) := by
  unfold zeq at h
  split at h
  · rename_i q
    refine lv_if_eq hF.1.1 hF.1.2.1 hdg ht (fun d => kt ?_) (fun d => kf ?_)
    · rwa [if_pos ((z_inj q.1 q.2).mp d)] at h
    · rwa [if_neg (fun z => d ((z_inj q.1 q.2).mpr z))] at h
  · cases h
theorem zr_if_ne (hF : zF p s m args meth c X cc nL own) {x off : Int} {tgt : Nat} {A B : Option α} (h : zeq x 0 A B = some o) (hdg : decode cc pc = .ok (.ifCond .ne off, 3)) (ht : (pc : Int) + off = (tgt : Int))
    (kt : B = some o → W p l e R s m args below meth c H locs cells slots Q (F0 m tgt ls rest)) (kf : A = some o → W p l e R s m args below meth c H locs cells slots Q (F0 m (pc + 3) ls rest)) : W p l e R s m args below meth c H locs cells slots Q (F0 m pc ls (z_v x :: rest)) := by
  unfold zeq at h
  split at h
  · rename_i q
    refine lv_if_ne hF.1.1 hF.1.2.1 hdg ht (fun d => kt ?_) (fun d => kf ?_)
    · rwa [if_neg (fun z => d ((z_inj q.1 q.2).mpr z))] at h
    · have d2 : Int32.ofInt x = Int32.ofInt 0 := d
      rwa [if_pos ((z_inj q.1 q.2).mp d2)] at h
  · cases h
/-! fields -/
theorem zr_get (hF : zF p s m args meth c X cc nL own) (hw : zH X N g s H locs) {k i : Nat} (hE : zE N k i) (hk : k < 10) {C : String} {T : u_T} {n idx : Nat} (hc : zCls k C T n) (f : Nat) (hf : f < n) (hl : Cond.fieldLink own idx (T f).1 (T f).2.1 (T f).2.2.1 ∈ lw_G) {v : Value} (hv : (z_obj X N g k i)[f]? = some v) (hdg : decode cc pc = .ok (.getfield idx, 3))
    (kk : W p l e R s m args below meth c H locs cells slots Q (F0 m (pc + 3) ls (v :: rest))) : W p l e R s m args below meth c H locs cells slots Q (F0 m pc ls (z_r N k i :: rest)) := by
  obtain ⟨q0, -, hq⟩ := z_place (X := X) (g := g) hE
  rw [z_cell_obj hk] at hq
  exact va_get (D := X.1) (C := C) (T := T) (N := n) hF.1.1 hF.1.2.1 hF.1.2.2.2.2 hc.2.1 hF.1.2.2.2.1 hF.2.1 hw.1.1 q0 hq hc.1 f hf (hF.1.2.2.2.2 _ hl) (fun _ h9 => h9) hv hdg kk
theorem z_obj_set {k i f : Nat} {v : Int} (hk : z_fld k f = true) : (z_obj X N g k i).set f (z_v v) = z_obj X N (zup g k i f v) k i ∧ f < (z_obj X N g k i).length := by
  unfold z_fld at hk
  unfold z_obj
  split at hk
  · simp only [beq_iff_eq] at hk
    subst hk
    simp [zup]
  · simp only [Bool.or_eq_true, beq_iff_eq] at hk
    rcases hk with (rfl | rfl) | rfl <;> simp [zup]
  · simp only [beq_iff_eq] at hk
    subst hk
    simp [zup]
  · simp only [Bool.or_eq_true, beq_iff_eq, decide_eq_true_eq] at hk
    have : f = 0 ∨ f = 1 ∨ f = 2 ∨ f = 3 ∨ f = 4 ∨ f = 5 ∨ f = 6 ∨ f = 7 ∨ f = 8 ∨ f = 9 ∨ f = 12 ∨ f = 13 := by omega
    rcases this with rfl | rfl | rfl | rfl | rfl | rfl | rfl | rfl | rfl | rfl | rfl | rfl <;> simp [zup]
  · simp only [decide_eq_true_eq] at hk
    have : f = 0 ∨ f = 1 ∨ f = 2 ∨ f = 3 ∨ f = 4 := by omega
    rcases this with rfl | rfl | rfl | rfl | rfl <;> simp [zup]
  · cases hk
theorem zr_put (hF : zF p s m args meth c X cc nL own) (hw : zH X N g s H locs) {k i : Nat} (hE : zE N k i) (hk : k < 10) {C : String} {T : u_T} {n idx : Nat} (hc : zCls k C T n) (f : Nat) (hf : f < n) (hkf : z_fld k f = true) (hl : Cond.fieldLink own idx (T f).1 (T f).2.1 (T f).2.2.1 ∈ lw_G) (hfin : (T f).2.2.2 = false) (hd : parseFieldDescriptor (T f).2.2.1 = some .int) {v : Int} {F : zG → Option α} (h : zst g k i f v F = some o) (hdg : decode cc pc = .ok (.putfield idx, 3))
    (kk : ∀ (g : zG) (H : Heap) (locs : List Loc), zH X N g s H locs → F g = some o → W p l e R s m args below meth c H locs cells slots Q (F0 m (pc + 3) ls rest)) : W p l e R s m args below meth c H locs cells slots Q (F0 m pc ls (z_v v :: z_r N k i :: rest)) := by
  obtain ⟨q0, hq1, hq⟩ := z_place (X := X) (g := g) hE
  rw [z_cell_obj hk] at hq
  obtain ⟨ty, hty⟩ := hc.2.2.2
  obtain ⟨he, hlen⟩ := z_obj_set (X := X) (N := N) (g := g) (i := i) (v := v) hkf
  refine va_put (D := X.1) (C := C) (T := T) (N := n) (ty := .int) (v := z_v v) hF.1.1 hF.1.2.1 hF.1.2.2.2.2 hc.2.1 ty hty hc.2.2.1 hF.1.2.2.2.1 hF.2.1 hw.1.1 hw.1.2.1 hw.2.1 q0 hq hc.1 f hf (hF.1.2.2.2.2 _ hl) (fun _ h9 => h9) hfin hd rfl rfl hlen hdg (fun H1 locs1 hP hD hS => kk (zup g k i f v) H1 locs1 ?_ h)
  have hps := z_pool_set (g' := zup g k i f v) (e := .inr (z_ci k, (z_obj X N g k i).set f (z_v v))) hw.1.2.1 hq1 (by rw [z_cell_obj hk, he]) (fun k' i' hn => z_cell_congr (fun p' => zup_other hn))
  rw [hps] at hP hD
  refine zH_step hw hP hD (zSz_up hw.1.2.2.1 (fun z => ?_)) hS
  rw [z.1, z.2] at hkf
  cases hkf
theorem zr_putZ (hF : zF p s m args meth c X cc nL own) (hw : zH X N g s H locs) {k i : Nat} (hE : zE N k i) (hk : k < 10) {C : String} {T : u_T} {n idx : Nat} (hc : zCls k C T n) (f : Nat) (hf : f < n) (hkf : z_fld k f = true) (hl : Cond.fieldLink own idx (T f).1 (T f).2.1 (T f).2.2.1 ∈ lw_G) (hfin : (T f).2.2.2 = false) (hd : parseFieldDescriptor (T f).2.2.1 = some .boolean) {v : Int} {F : zG → Option α} (h : zbo v (zst g k i f v F) = some o) (hdg : decode cc pc = .ok (.putfield idx, 3))
    (kk : ∀ (g : zG) (H : Heap) (locs : List Loc), zH X N g s H locs → F g = some o → W p l e R s m args below meth c H locs cells slots Q (F0 m (pc + 3) ls rest)) : W p l e R s m args below meth c H locs cells slots Q (F0 m pc ls (z_v v :: z_r N k i :: rest)) := by
  obtain ⟨q0, hq1, hq⟩ := z_place (X := X) (g := g) hE
  rw [z_cell_obj hk] at hq
  obtain ⟨ty, hty⟩ := hc.2.2.2
  obtain ⟨he, hlen⟩ := z_obj_set (X := X) (N := N) (g := g) (i := i) (v := v) hkf
  unfold zbo at h
  split at h
  · rename_i hb
    have hn : narrow .boolean (z_v v) = z_v v ∧ fits .boolean (z_v v) = true := by rcases hb with rfl | rfl <;> decide
    refine va_put (D := X.1) (C := C) (T := T) (N := n) (ty := .boolean) (v := z_v v) hF.1.1 hF.1.2.1 hF.1.2.2.2.2 hc.2.1 ty hty hc.2.2.1 hF.1.2.2.2.1 hF.2.1 hw.1.1 hw.1.2.1 hw.2.1 q0 hq hc.1 f hf (hF.1.2.2.2.2 _ hl) (fun _ h9 => h9) hfin hd hn.1 hn.2 hlen hdg (fun H1 locs1 hP hD hS => kk (zup g k i f v) H1 locs1 ?_ h)
    have hps := z_pool_set (g' := zup g k i f v) (e := .inr (z_ci k, (z_obj X N g k i).set f (z_v v))) hw.1.2.1 hq1 (by rw [z_cell_obj hk, he]) (fun k' i' hn => z_cell_congr (fun p' => zup_other hn))
    rw [hps] at hP hD
    refine zH_step hw hP hD (zSz_up hw.1.2.2.1 (fun z => ?_)) hS
    rw [z.1, z.2] at hkf
    cases hkf
  · cases h
/-! rows of numbers -/
theorem zr_iald (hF : zF p s m args meth c X cc nL own) (hw : zH X N g s H locs) {k i : Nat} (hE : zE N k i) (hk : z_ki k = true) {j : Int} {A : Option α} (h : zix j (z_len k) A = some o) (hdg : decode cc pc = .ok (.iaload, 1))
    (kk : A = some o → W p l e R s m args below meth c H locs cells slots Q (F0 m (pc + 1) ls (z_v (g k i j.toNat) :: rest))) : W p l e R s m args below meth c H locs cells slots Q (F0 m pc ls (z_v j :: z_r N k i :: rest)) := by
  obtain ⟨q0, -, hq⟩ := z_place (X := X) (g := g) hE
  rw [z_cell_int hk] at hq
  unfold zix at h
  split at h
  · rename_i hj
    obtain ⟨hin, he⟩ := z_vin (z_len_le k) hj
    refine va_iald hF.1.1 hF.1.2.1 hF.2.1 hw.1.1 q0 0 hq rfl hin hdg ?_
    rw [he]
    exact kk h
  · cases h
theorem z_ki_ne {k : Nat} (hk : z_ki k = true ∨ False) : ¬ (k = 1) := by
  rintro rfl
  rcases hk with h | h <;> cases h
theorem zr_iast (hF : zF p s m args meth c X cc nL own) (hw : zH X N g s H locs) {k i : Nat} (hE : zE N k i) (hk : z_ki k = true) {j v : Int} {F : zG → Option α} (h : zix j (z_len k) (zst g k i j.toNat v F) = some o) (hdg : decode cc pc = .ok (.iastore, 1))
    (kk : ∀ (g : zG) (H : Heap) (locs : List Loc), zH X N g s H locs → F g = some o → W p l e R s m args below meth c H locs cells slots Q (F0 m (pc + 1) ls rest)) : W p l e R s m args below meth c H locs cells slots Q (F0 m pc ls (z_v v :: z_v j :: z_r N k i :: rest)) := by
  obtain ⟨q0, hq1, hq⟩ := z_place (X := X) (g := g) hE
  rw [z_cell_int hk] at hq
  unfold zix at h
  split at h
  · rename_i hj
    obtain ⟨hin, he⟩ := z_vin (z_len_le k) hj
    refine va_iast hF.1.1 hF.1.2.1 hF.2.1 hw.1.1 hw.1.2.1 hw.2.1 q0 0 hq rfl hin hdg (fun H1 locs1 hP hD hS => kk (zup g k i j.toNat v) H1 locs1 ?_ h)
    rw [he] at hP hD
    have hps := z_pool_set (g' := zup g k i j.toNat v) (e := .inl (X.2.1 0, z_len k, .inl (upd (fun j => Int32.ofInt (g k i j)) j.toNat (Int32.ofInt v)))) hw.1.2.1 hq1 (by rw [z_cell_int hk, z_updI]) (fun k' i' hn => z_cell_congr (fun p' => zup_other hn))
    rw [hps] at hP hD
    exact zH_step hw hP hD (zSz_up hw.1.2.2.1 (fun z => z_ki_ne (Or.inl hk) z.1)) hS
  · cases h
theorem zr_alen (hF : zF p s m args meth c X cc nL own) (hw : zH X N g s H locs) {k i : Nat} (hE : zE N k i) (hk : z_ki k = true) {v : Int} (hv : ((z_len k : Nat) : Int) = v) (hdg : decode cc pc = .ok (.arraylength, 1))
    (kk : W p l e R s m args below meth c H locs cells slots Q (F0 m (pc + 1) ls (z_v v :: rest))) : W p l e R s m args below meth c H locs cells slots Q (F0 m pc ls (z_r N k i :: rest)) := by
  obtain ⟨q0, -, hq⟩ := z_place (X := X) (g := g) hE
  rw [z_cell_int hk] at hq
  subst hv
  exact va_alen (ty := .int) hF.1.1 hF.1.2.1 hF.2.1 hw.1.1 q0 0 hq rfl (v := Int32.ofInt (z_len k)) rfl hdg kk
/-! ends -/
theorem zr_iret (hF : zF p s m args meth c X cc nL own) (hr : meth.sig.returnType = some .int) (hw : zH X N g s H locs) {x r : Int} {g' : zG} (h : (some (x, g) : Option (Int × zG)) = some (r, g')) (hdg : decode cc pc = .ok (.ireturn, 1)) : W p l e R s m args below meth c H locs cells slots (MQ below (zQi X N r g') args s cells slots (zA X)) (F0 m pc ls [z_v x]) := by
  cases h
  exact W.iret (v := Int32.ofInt x) hF.1.1 hF.1.2.1 hr (fun t ht hW => ⟨⟨Int32.ofInt x, (), rfl, rfl, by rw [ht]; exact hw.1, va_K.moved hW.alike hF.2.1, zS_pass hF.2.2.1 hw.2.1 hW ht⟩, hw.2.1.F ht⟩) hw.2.1.2.2 hdg hF.2.2.2
theorem zr_zret (hF : zF p s m args meth c X cc nL own) (hr : meth.sig.returnType = some .boolean) (hw : zH X N g s H locs) {x r : Int} {g' : zG} (h : zbo x (some (x, g) : Option (Int × zG)) = some (r, g')) (hdg : decode cc pc = .ok (.ireturn, 1)) : W p l e R s m args below meth c H locs cells slots (MQ below (zQi X N r g') args s cells slots (zA X)) (F0 m pc ls [z_v x]) := by
  unfold zbo at h
  split at h
  · rename_i hb
    cases h
    exact W.zret (v := Int32.ofInt x) hF.1.1 hF.1.2.1 hr (by rcases hb with rfl | rfl <;> decide) (fun t ht hW => ⟨⟨Int32.ofInt x, (), rfl, rfl, by rw [ht]; exact hw.1, va_K.moved hW.alike hF.2.1, zS_pass hF.2.2.1 hw.2.1 hW ht⟩, hw.2.1.F ht⟩) hw.2.1.2.2 hdg hF.2.2.2
  · cases h
theorem zr_vret (hF : zF p s m args meth c X cc nL own) (hr : meth.sig.returnType = none) (hw : zH X N g s H locs) {r : Int} {g' : zG} (h : (some (0, g) : Option (Int × zG)) = some (r, g')) (hdg : decode cc pc = .ok (.return_, 1)) : W p l e R s m args below meth c H locs cells slots (MQ below (zQv X N g') args s cells slots (zA X)) (F0 m pc ls []) := by
  cases h
  exact W.vret hF.1.1 hF.1.2.1 hr (fun t ht hW => ⟨⟨(), rfl, trivial, by rw [ht]; exact hw.1, va_K.moved hW.alike hF.2.1, zS_pass hF.2.2.1 hw.2.1 hW ht⟩, hw.2.1.F ht⟩) hw.2.1.2.2 hdg hF.2.2.2
/-! calls -/
theorem z_recv (hF : zF p s m args meth c X cc nL own) (hw : zH X N g s H locs) {k i : Nat} (hE : zE N k i) (hk : k < 10) {C : String} {T : u_T} {n : Nat} (hc : zCls k C T n) : ∃ cell : Cell, H[N.1 k i]? = some cell ∧ cell.vm.isStatics = false ∧ s.vm.findClass C = some cell.cls := by
  obtain ⟨q0, -, hq⟩ := z_place (X := X) (g := g) hE
  rw [z_cell_obj hk] at hq
  exact va_recv (q := (C, T, n)) hF.2.1 hw.1.1 hc.1 hq
theorem z_pre (hF : zF p s m args meth c X cc nL own) (hw : zH X N g s H locs) {av : List Value} : ∀ U : State, U.heap = H → s.WarmedH U.vm → va_Pc av (fun U => zU X N g U) av.toArray U :=
  fun U hU hW => ⟨rfl, by rw [hU]; exact hw.1, va_K.moved hW.alike hF.2.1, zS_pass hF.2.2.1 hw.2.1 hW hU⟩
theorem zH_back {g' : zG} {N' : zN} {H1 : Heap} {locs1 : List Loc} {t : State} (hw : zH X N g s H locs) (ht : t.heap = H1) (hU : zU X N' g' t) (hS : va_S (zA X) s.heap H1 locs1) : zH X N' g' s H1 locs1 := ⟨by rw [← ht]; exact hU.1, hS, hw.2.2⟩
theorem zr_callVi (hF : zF p s m args meth c X cc nL own) (hw : zH X N g s H locs) {y : MethodName} {b : ByteArray} {mL n idx : Nat} {rt : Option FieldType} {rm : Room} {k i : Nat} {As : List Value} {r : Int} {g' : zG} (hM : zM l y b mL rt rm X N g (z_r N k i :: As) (zQi X N r g')) (hE : zE N k i) (hk : k < 10) {C : String} {T : u_T} {n9 : Nat} (hc : zCls k C T n9)
    (hG : GoodIn lw_G (wsV own idx C y (zws y b mL rt))) (hd : y.cls = C ∧ y.cls ≠ "java/lang/invoke/MethodHandle" ∧ y.cls ≠ "java/lang/invoke/VarHandle" ∧ (parseMethodDescriptor y.desc).map (fun d => d.parameters.length) = some n) (hR : rm.frames + 1 ≤ R.frames ∧ 8 + (mL + 11) + rm.locals ≤ R.locals) (hz : rm.cells = 0 ∧ rm.slots = 0) (hn : As.length = n) (hl : ls.size = nL) {st0 : List Value} (hst : st0 = As.reverse ++ z_r N k i :: rest) (hrest : (rest.map fun v => v.category).sum ≤ 8) (hdg : decode cc pc = .ok (.invokevirtual idx, 3)) (hcs : cells ≤ R.cells ∧ slots ≤ R.slots)
    (kk : ∀ (H : Heap) (locs : List Loc), zH X N g' s H locs → W p l e R s m args below meth c H locs cells slots Q (F0 m (pc + 3) ls (z_v r :: rest))) : W p l e R s m args below meth c H locs cells slots Q (F0 m pc ls st0) := by
  refine va_calli (va_runV (As := As) (rest := rest) hF.1 hM (cwV n hF.1.2.2.2.2 hG rfl hz.1 hz.2 hd hR) ⟨zU_blind, z_recv hF hw hE hk hc, z_pre hF hw⟩ rfl hn hl hst (lv_room hrest) hdg hcs) hw.2.1 (fun q _ h => h) (fun q h => h) (fun r' u t H1 locs1 ht hvm hp hB hz1 hk1 hS => ?_)
  rw [hp]
  exact kk H1 locs1 (zH_back hw ht hB hS)
theorem zr_callVv (hF : zF p s m args meth c X cc nL own) (hw : zH X N g s H locs) {y : MethodName} {b : ByteArray} {mL n idx : Nat} {rt : Option FieldType} {rm : Room} {k i : Nat} {As : List Value} {g' : zG} (hM : zM l y b mL rt rm X N g (z_r N k i :: As) (zQv X N g')) (hE : zE N k i) (hk : k < 10) {C : String} {T : u_T} {n9 : Nat} (hc : zCls k C T n9)
    (hG : GoodIn lw_G (wsV own idx C y (zws y b mL rt))) (hd : y.cls = C ∧ y.cls ≠ "java/lang/invoke/MethodHandle" ∧ y.cls ≠ "java/lang/invoke/VarHandle" ∧ (parseMethodDescriptor y.desc).map (fun d => d.parameters.length) = some n) (hR : rm.frames + 1 ≤ R.frames ∧ 8 + (mL + 11) + rm.locals ≤ R.locals) (hz : rm.cells = 0 ∧ rm.slots = 0) (hn : As.length = n) (hl : ls.size = nL) {st0 : List Value} (hst : st0 = As.reverse ++ z_r N k i :: rest) (hrest : (rest.map fun v => v.category).sum ≤ 8) (hdg : decode cc pc = .ok (.invokevirtual idx, 3)) (hcs : cells ≤ R.cells ∧ slots ≤ R.slots)
    (kk : ∀ (H : Heap) (locs : List Loc), zH X N g' s H locs → W p l e R s m args below meth c H locs cells slots Q (F0 m (pc + 3) ls rest)) : W p l e R s m args below meth c H locs cells slots Q (F0 m pc ls st0) := by
  refine va_callv (va_runV (As := As) (rest := rest) hF.1 hM (cwV n hF.1.2.2.2.2 hG rfl hz.1 hz.2 hd hR) ⟨zU_blind, z_recv hF hw hE hk hc, z_pre hF hw⟩ rfl hn hl hst (lv_room hrest) hdg hcs) hw.2.1 (fun q _ h => h) (fun q h => h) (fun u t H1 locs1 ht hvm hp hB hz1 hk1 hS => ?_)
  exact kk H1 locs1 (zH_back hw ht hB hS)
theorem zr_callVr (hF : zF p s m args meth c X cc nL own) (hw : zH X N g s H locs) {y : MethodName} {b : ByteArray} {mL n idx : Nat} {rt : Option FieldType} {rm : Room} {k i kr : Nat} {As : List Value} {r : Int} {g' : zG} (hM : zM l y b mL rt rm X N g (z_r N k i :: As) (zQr X N kr r g')) (hE : zE N k i) (hk : k < 10) {C : String} {T : u_T} {n9 : Nat} (hc : zCls k C T n9)
    (hG : GoodIn lw_G (wsV own idx C y (zws y b mL rt))) (hd : y.cls = C ∧ y.cls ≠ "java/lang/invoke/MethodHandle" ∧ y.cls ≠ "java/lang/invoke/VarHandle" ∧ (parseMethodDescriptor y.desc).map (fun d => d.parameters.length) = some n) (hR : rm.frames + 1 ≤ R.frames ∧ 8 + (mL + 11) + rm.locals ≤ R.locals) (hz : rm.cells = 0 ∧ rm.slots = 0) (hn : As.length = n) (hl : ls.size = nL) {st0 : List Value} (hst : st0 = As.reverse ++ z_r N k i :: rest) (hrest : (rest.map fun v => v.category).sum ≤ 8) (hdg : decode cc pc = .ok (.invokevirtual idx, 3)) (hcs : cells ≤ R.cells ∧ slots ≤ R.slots)
    (kk : ∀ (H : Heap) (locs : List Loc), zH X N g' s H locs → zE N kr r.toNat → W p l e R s m args below meth c H locs cells slots Q (F0 m (pc + 3) ls (z_r N kr r.toNat :: rest))) : W p l e R s m args below meth c H locs cells slots Q (F0 m pc ls st0) := by
  refine va_callr (va_runV (As := As) (rest := rest) hF.1 hM (cwV n hF.1.2.2.2.2 hG rfl hz.1 hz.2 hd hR) ⟨zU_blind, z_recv hF hw hE hk hc, z_pre hF hw⟩ rfl hn hl hst (lv_room hrest) hdg hcs) hw.2.1 (fun q _ h => h) (fun q h => h) (fun u ra t H1 locs1 ht hvm hp hB hz1 hk1 hS => ?_)
  obtain ⟨rfl, hE2, hU⟩ := hB
  exact kk H1 locs1 (zH_back hw ht hU hS) hE2
theorem zr_callSi (hF : zF p s m args meth c X cc nL own) (hw : zH X N g s H locs) {y : MethodName} {b : ByteArray} {mL n idx : Nat} {rt : Option FieldType} {rm : Room} {As : List Value} {r : Int} {g' : zG} (hM : zM l y b mL rt rm X N g As (zQi X N r g'))
    (hG : GoodIn lw_G (va_wsS own idx y (zws y b mL rt))) (hd : y.cls ≠ "java/lang/invoke/MethodHandle" ∧ y.cls ≠ "java/lang/invoke/VarHandle" ∧ (parseMethodDescriptor y.desc).map (fun d => d.parameters.length) = some n) (hR : rm.frames + 1 ≤ R.frames ∧ 8 + (mL + 11) + rm.locals ≤ R.locals) (hz : rm.cells = 0 ∧ rm.slots = 0) (hn : As.length = n) (hl : ls.size = nL) {st0 : List Value} (hst : st0 = As.reverse ++ rest) (hrest : (rest.map fun v => v.category).sum ≤ 8) (hdg : decode cc pc = .ok (.invokestatic idx, 3)) (hcs : cells ≤ R.cells ∧ slots ≤ R.slots)
    (kk : ∀ (H : Heap) (locs : List Loc), zH X N g' s H locs → W p l e R s m args below meth c H locs cells slots Q (F0 m (pc + 3) ls (z_v r :: rest))) : W p l e R s m args below meth c H locs cells slots Q (F0 m pc ls st0) := by
  refine va_calli (va_runS (As := As) (rest := rest) hF.1 hM (va_cwS n hF.1.2.2.2.2 hG rfl hz.1 hz.2 hd hR) ⟨zU_blind, z_pre hF hw⟩ rfl hn hl hst (lv_room hrest) hdg hcs) hw.2.1 (fun q _ h => h) (fun q h => h) (fun r' u t H1 locs1 ht hvm hp hB hz1 hk1 hS => ?_)
  rw [hp]
  exact kk H1 locs1 (zH_back hw ht hB hS)
end ZR

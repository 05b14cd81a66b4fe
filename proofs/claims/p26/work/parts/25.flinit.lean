/-! a new flight -/
theorem z_cyI {X : zC} {s : State} {cA : ClassId} (h0 : va_K X.1 vwCl (z_tys X) s) (h1 : va_K X.1 vwCl (z_tys X ++ [(cA, .int)]) s) : cA = X.2.1 0 := by
  have e1 := (h0.2 0 (X.2.1 0, .int) rfl).2
  have e2 := (h1.2 4 (cA, .int) rfl).2
  exact Option.some.inj (e2.symm.trans e1)
theorem z_fill {i : Nat} : upd (fun j => if j < i then Int32.ofInt (-1) else Int32.ofInt 0) i (Int32.ofInt (-1)) = (fun j => if j < i + 1 then Int32.ofInt (-1) else Int32.ofInt 0) := by
  funext j
  by_cases c : j = i
  · rw [c, pk_us, if_pos (by omega)]
  · rw [pk_un c]
    by_cases c2 : j < i
    · rw [if_pos c2, if_pos (by omega)]
    · rw [if_neg c2, if_neg (by omega)]
set_option maxHeartbeats 4000000 in
set_option maxRecDepth 100000 in
theorem w_FlEnd {p : Program} {l : Launch} {e : Env} {s : State} {m : MethodId} {args : Array Value} {below : List Frame} {meth : Method} {c : Code} {X : zC} {h0 q1 q2 sz : Nat} {c0 p0 : Int} {i : Nat} {H : Heap} {locs : List Loc} {ls : Array Slot} (hx : p.tables.exec = Jvm.exec) (hb : c.code = cX1_init) (hr : meth.sig.returnType = none) (hlocks : meth.locks = false) (hml : c.maxLocals = 4) (hown : s.vm.findClass RX1 = some m.cls) (hts : ∀ w ∈ lw_G, w.before args s = true) (hK : va_K X.1 vwCl (z_tys X) s) (hsz : s.heap.size = sz)
    (hi : i = 6) (hP : va_P X.1 vwCl [(h0, .inr (2, [z_v c0, z_v p0, z_v 0, z_v 0, z_v (-1), z_v (-1), z_v (-1), z_v 0, z_v 0, z_v (-1), .ref q1, .ref q2, z_v 0, z_v (-1)])), (q1, .inl (X.2.1 0, 6, .inl (fun j => if j < i then Int32.ofInt (-1) else Int32.ofInt 0))), (q2, .inl (X.2.1 0, 6, .inl (fun _ => Int32.ofInt 0)))] H) (hD : va_D (va_A [(h0, .inr (2, [z_v 0, z_v 0, z_v 0, z_v 0, z_v 0, z_v 0, z_v 0, z_v 0, z_v 0, z_v 0, .null, .null, z_v 0, z_v 0]))] sz) [(h0, .inr (2, [z_v c0, z_v p0, z_v 0, z_v 0, z_v (-1), z_v (-1), z_v (-1), z_v 0, z_v 0, z_v (-1), .ref q1, .ref q2, z_v 0, z_v (-1)])), (q1, .inl (X.2.1 0, 6, .inl (fun j => if j < i then Int32.ofInt (-1) else Int32.ofInt 0))), (q2, .inl (X.2.1 0, 6, .inl (fun _ => Int32.ofInt 0)))]) (hS : va_S (va_A [(h0, .inr (2, [z_v 0, z_v 0, z_v 0, z_v 0, z_v 0, z_v 0, z_v 0, z_v 0, z_v 0, z_v 0, .null, .null, z_v 0, z_v 0]))] sz) s.heap H locs) (hl : lv_has ls 4 [(3, z_v (i : Int)), (0, .ref h0), (1, z_v c0), (2, z_v p0)]) : W p l e { frames := 1, cells := 2, slots := 12, locals := 40 } s m args below meth c H locs 2 12 (MQ below (va_Qv (fun (_ : Nat × Nat) => True) (fun u t => match u with | (q1, q2) => va_P X.1 vwCl [(h0, .inr (2, [z_v c0, z_v p0, z_v 0, z_v 0, z_v (-1), z_v (-1), z_v (-1), z_v 0, z_v 0, z_v (-1), .ref q1, .ref q2, z_v 0, z_v (-1)])), (q1, .inl (X.2.1 0, 6, .inl (fun j => if j < 6 then Int32.ofInt (-1) else Int32.ofInt 0))), (q2, .inl (X.2.1 0, 6, .inl (fun _ => Int32.ofInt 0)))] t.heap ∧ va_D (va_A [(h0, .inr (2, [z_v 0, z_v 0, z_v 0, z_v 0, z_v 0, z_v 0, z_v 0, z_v 0, z_v 0, z_v 0, .null, .null, z_v 0, z_v 0]))] sz) [(h0, .inr (2, [z_v c0, z_v p0, z_v 0, z_v 0, z_v (-1), z_v (-1), z_v (-1), z_v 0, z_v 0, z_v (-1), .ref q1, .ref q2, z_v 0, z_v (-1)])), (q1, .inl (X.2.1 0, 6, .inl (fun j => if j < 6 then Int32.ofInt (-1) else Int32.ofInt 0))), (q2, .inl (X.2.1 0, 6, .inl (fun _ => Int32.ofInt 0)))]) (va_A [(h0, .inr (2, [z_v 0, z_v 0, z_v 0, z_v 0, z_v 0, z_v 0, z_v 0, z_v 0, z_v 0, z_v 0, .null, .null, z_v 0, z_v 0]))] sz)) args s 2 12 (va_A [(h0, .inr (2, [z_v 0, z_v 0, z_v 0, z_v 0, z_v 0, z_v 0, z_v 0, z_v 0, z_v 0, z_v 0, .null, .null, z_v 0, z_v 0]))] sz)) (F0 m 82 ls []) := by
  subst hi
  refine lv_iload_n hx hb dX1_init_82 rfl (lv_at hl 0 rfl) ?_
  refine lv_aload_n hx hb dX1_init_83 rfl (lv_at hl 1 rfl) ?_
  refine va_get (D := X.1) (C := RX1) (T := TX1) (N := 14) hx hb hts zC_4.2.1 hown hK hP 0 rfl rfl 10 (by decide) (hts _ qw_479) (fun _ h9 => h9) rfl dX1_init_84 ?_
  refine va_alen (ty := .int) (v := Int32.ofInt 6) hx hb hK hP 1 0 rfl rfl rfl dX1_init_87 ?_
  refine lv_icmp_ge (tgt := 104) hx hb dX1_init_88 (by decide) (fun _ => ?_) (fun z => absurd ((z_le (x := 6) (y := 6) (by decide) (by decide)).mpr (by omega)) z)
  exact W.vret hx hb hr (fun t ht hW => ⟨⟨(q1, q2), rfl, trivial, by rw [ht]; exact hP, hD⟩, hS.F ht⟩) hS.2.2 dX1_init_104 hlocks
set_option maxHeartbeats 4000000 in
set_option maxRecDepth 100000 in
theorem w_FlFill {p : Program} {l : Launch} {e : Env} {s : State} {m : MethodId} {args : Array Value} {below : List Frame} {meth : Method} {c : Code} {X : zC} {h0 q1 q2 sz : Nat} {c0 p0 : Int} (hx : p.tables.exec = Jvm.exec) (hb : c.code = cX1_init) (hr : meth.sig.returnType = none) (hlocks : meth.locks = false) (hml : c.maxLocals = 4) (hown : s.vm.findClass RX1 = some m.cls) (hts : ∀ w ∈ lw_G, w.before args s = true) (hK : va_K X.1 vwCl (z_tys X) s) (hsz : s.heap.size = sz) :
    ∀ (n i : Nat), i ≤ 6 → 6 ≤ i + n → ∀ (H : Heap) (locs : List Loc) (ls : Array Slot), va_P X.1 vwCl [(h0, .inr (2, [z_v c0, z_v p0, z_v 0, z_v 0, z_v (-1), z_v (-1), z_v (-1), z_v 0, z_v 0, z_v (-1), .ref q1, .ref q2, z_v 0, z_v (-1)])), (q1, .inl (X.2.1 0, 6, .inl (fun j => if j < i then Int32.ofInt (-1) else Int32.ofInt 0))), (q2, .inl (X.2.1 0, 6, .inl (fun _ => Int32.ofInt 0)))] H → va_D (va_A [(h0, .inr (2, [z_v 0, z_v 0, z_v 0, z_v 0, z_v 0, z_v 0, z_v 0, z_v 0, z_v 0, z_v 0, .null, .null, z_v 0, z_v 0]))] sz) [(h0, .inr (2, [z_v c0, z_v p0, z_v 0, z_v 0, z_v (-1), z_v (-1), z_v (-1), z_v 0, z_v 0, z_v (-1), .ref q1, .ref q2, z_v 0, z_v (-1)])), (q1, .inl (X.2.1 0, 6, .inl (fun j => if j < i then Int32.ofInt (-1) else Int32.ofInt 0))), (q2, .inl (X.2.1 0, 6, .inl (fun _ => Int32.ofInt 0)))] → va_S (va_A [(h0, .inr (2, [z_v 0, z_v 0, z_v 0, z_v 0, z_v 0, z_v 0, z_v 0, z_v 0, z_v 0, z_v 0, .null, .null, z_v 0, z_v 0]))] sz) s.heap H locs → lv_has ls 4 [(3, z_v (i : Int)), (0, .ref h0), (1, z_v c0), (2, z_v p0)] → W p l e { frames := 1, cells := 2, slots := 12, locals := 40 } s m args below meth c H locs 2 12 (MQ below (va_Qv (fun (_ : Nat × Nat) => True) (fun u t => match u with | (q1, q2) => va_P X.1 vwCl [(h0, .inr (2, [z_v c0, z_v p0, z_v 0, z_v 0, z_v (-1), z_v (-1), z_v (-1), z_v 0, z_v 0, z_v (-1), .ref q1, .ref q2, z_v 0, z_v (-1)])), (q1, .inl (X.2.1 0, 6, .inl (fun j => if j < 6 then Int32.ofInt (-1) else Int32.ofInt 0))), (q2, .inl (X.2.1 0, 6, .inl (fun _ => Int32.ofInt 0)))] t.heap ∧ va_D (va_A [(h0, .inr (2, [z_v 0, z_v 0, z_v 0, z_v 0, z_v 0, z_v 0, z_v 0, z_v 0, z_v 0, z_v 0, .null, .null, z_v 0, z_v 0]))] sz) [(h0, .inr (2, [z_v c0, z_v p0, z_v 0, z_v 0, z_v (-1), z_v (-1), z_v (-1), z_v 0, z_v 0, z_v (-1), .ref q1, .ref q2, z_v 0, z_v (-1)])), (q1, .inl (X.2.1 0, 6, .inl (fun j => if j < 6 then Int32.ofInt (-1) else Int32.ofInt 0))), (q2, .inl (X.2.1 0, 6, .inl (fun _ => Int32.ofInt 0)))]) (va_A [(h0, .inr (2, [z_v 0, z_v 0, z_v 0, z_v 0, z_v 0, z_v 0, z_v 0, z_v 0, z_v 0, z_v 0, .null, .null, z_v 0, z_v 0]))] sz)) args s 2 12 (va_A [(h0, .inr (2, [z_v 0, z_v 0, z_v 0, z_v 0, z_v 0, z_v 0, z_v 0, z_v 0, z_v 0, z_v 0, .null, .null, z_v 0, z_v 0]))] sz)) (F0 m 82 ls []) := by
  intro n
  induction n with
  | zero =>
    intro i h1 h2 H locs ls hP hD hS hl
    exact w_FlEnd hx hb hr hlocks hml hown hts hK hsz (by omega) hP hD hS hl
  | succ n ih =>
    intro i h1 h2 H locs ls hP hD hS hl
    by_cases c6 : i = 6
    · exact w_FlEnd hx hb hr hlocks hml hown hts hK hsz c6 hP hD hS hl
    have hin := z_vin (j := ((i : Nat) : Int)) (n := 6) (by decide) ⟨by omega, by omega⟩
    refine lv_iload_n hx hb dX1_init_82 rfl (lv_at hl 0 rfl) ?_
    refine lv_aload_n hx hb dX1_init_83 rfl (lv_at hl 1 rfl) ?_
    refine va_get (D := X.1) (C := RX1) (T := TX1) (N := 14) hx hb hts zC_4.2.1 hown hK hP 0 rfl rfl 10 (by decide) (hts _ qw_479) (fun _ h9 => h9) rfl dX1_init_84 ?_
    refine va_alen (ty := .int) (v := Int32.ofInt 6) hx hb hK hP 1 0 rfl rfl rfl dX1_init_87 ?_
    refine lv_icmp_ge (tgt := 104) hx hb dX1_init_88 (by decide) (fun z => absurd ((z_le (x := 6) (y := (i : Int)) (by decide) ⟨by omega, by omega⟩).mp z) (by omega)) (fun _ => ?_)
    refine lv_aload_n hx hb dX1_init_91 rfl (lv_at hl 1 rfl) ?_
    refine va_get (D := X.1) (C := RX1) (T := TX1) (N := 14) hx hb hts zC_4.2.1 hown hK hP 0 rfl rfl 10 (by decide) (hts _ qw_479) (fun _ h9 => h9) rfl dX1_init_92 ?_
    refine lv_iload_n hx hb dX1_init_95 rfl (lv_at hl 0 rfl) ?_
    refine lv_iconst hx hb dX1_init_96 rfl ?_
    refine va_iast hx hb hK hP hD hS 1 0 rfl rfl hin.1 dX1_init_97 (fun H locs hP hD hS => ?_)
    rw [hin.2, Int.toNat_natCast, z_fill] at hP hD
    have hP : va_P X.1 vwCl [(h0, .inr (2, [z_v c0, z_v p0, z_v 0, z_v 0, z_v (-1), z_v (-1), z_v (-1), z_v 0, z_v 0, z_v (-1), .ref q1, .ref q2, z_v 0, z_v (-1)])), (q1, .inl (X.2.1 0, 6, .inl (fun j => if j < i + 1 then Int32.ofInt (-1) else Int32.ofInt 0))), (q2, .inl (X.2.1 0, 6, .inl (fun _ => Int32.ofInt 0)))] H := hP
    have hD : va_D (va_A [(h0, .inr (2, [z_v 0, z_v 0, z_v 0, z_v 0, z_v 0, z_v 0, z_v 0, z_v 0, z_v 0, z_v 0, .null, .null, z_v 0, z_v 0]))] sz) [(h0, .inr (2, [z_v c0, z_v p0, z_v 0, z_v 0, z_v (-1), z_v (-1), z_v (-1), z_v 0, z_v 0, z_v (-1), .ref q1, .ref q2, z_v 0, z_v (-1)])), (q1, .inl (X.2.1 0, 6, .inl (fun j => if j < i + 1 then Int32.ofInt (-1) else Int32.ofInt 0))), (q2, .inl (X.2.1 0, 6, .inl (fun _ => Int32.ofInt 0)))] := hD
    refine lv_iinc (v := Int32.ofInt ((i + 1 : Nat) : Int)) (lv' := [(3, z_v ((i + 1 : Nat) : Int)), (0, .ref h0), (1, z_v c0), (2, z_v p0)]) hx hb dX1_init_98 hl (k := 0) rfl (by rw [← Int32.ofInt_add]; rfl) (by decide) rfl (fun ls hl => ?_)
    refine lv_goto (tgt := 82) hx hb dX1_init_101 (by decide) ?_
    exact ih (i + 1) (by omega) (by omega) H locs ls hP hD hS hl
set_option maxHeartbeats 4000000 in
set_option maxRecDepth 100000 in
theorem c_FlInit (l : Launch) (X : zC) (h0 sz : Nat) (c0 p0 : Int) : Met l yX1_init (zws yX1_init cX1_init 4 none) { frames := 1, cells := 2, slots := 12, locals := 40 } (va_Pc [.ref h0, z_v c0, z_v p0] (fun U => U.heap.size = sz ∧ va_P X.1 vwCl [(h0, .inr (2, [z_v 0, z_v 0, z_v 0, z_v 0, z_v 0, z_v 0, z_v 0, z_v 0, z_v 0, z_v 0, .null, .null, z_v 0, z_v 0]))] U.heap ∧ va_K X.1 vwCl (z_tys X) U)) (va_Qv (fun (_ : Nat × Nat) => True) (fun u t => match u with | (q1, q2) => va_P X.1 vwCl [(h0, .inr (2, [z_v c0, z_v p0, z_v 0, z_v 0, z_v (-1), z_v (-1), z_v (-1), z_v 0, z_v 0, z_v (-1), .ref q1, .ref q2, z_v 0, z_v (-1)])), (q1, .inl (X.2.1 0, 6, .inl (fun j => if j < 6 then Int32.ofInt (-1) else Int32.ofInt 0))), (q2, .inl (X.2.1 0, 6, .inl (fun _ => Int32.ofInt 0)))] t.heap ∧ va_D (va_A [(h0, .inr (2, [z_v 0, z_v 0, z_v 0, z_v 0, z_v 0, z_v 0, z_v 0, z_v 0, z_v 0, z_v 0, .null, .null, z_v 0, z_v 0]))] sz) [(h0, .inr (2, [z_v c0, z_v p0, z_v 0, z_v 0, z_v (-1), z_v (-1), z_v (-1), z_v 0, z_v 0, z_v (-1), .ref q1, .ref q2, z_v 0, z_v (-1)])), (q1, .inl (X.2.1 0, 6, .inl (fun j => if j < 6 then Int32.ofInt (-1) else Int32.ofInt 0))), (q2, .inl (X.2.1 0, 6, .inl (fun _ => Int32.ofInt 0)))]) (va_A [(h0, .inr (2, [z_v 0, z_v 0, z_v 0, z_v 0, z_v 0, z_v 0, z_v 0, z_v 0, z_v 0, z_v 0, .null, .null, z_v 0, z_v 0]))] sz)) 2 12 (va_A [(h0, .inr (2, [z_v 0, z_v 0, z_v 0, z_v 0, z_v 0, z_v 0, z_v 0, z_v 0, z_v 0, z_v 0, .null, .null, z_v 0, z_v 0]))] sz) := by
  refine Met.ofW (cc := cX1_init) (maxL := 4) (ret := none) (by decide +kernel) rfl ?_
  intro p e s m args below meth c s₁ B hml hv
  obtain ⟨rfl, hsz, hP, hK⟩ := hv
  have hx := B.exec
  have hb := B.bytes
  have hr := B.returns
  have hts : ∀ w ∈ lw_G, w.before [.ref h0, z_v c0, z_v p0].toArray s = true := fun w hw => atoms_spec (ws := zws yX1_init cX1_init 4 none) B.pre w (List.mem_cons_of_mem _ hw)
  have hown : s.vm.findClass RX1 = some m.cls := findClass_of_methodNamed B.named
  have hlocks := B.notSynchronized
  have hin : meth.name = "<init>" := (name_of_methodNamed B.named B.method).1
  have hl := lv_entry [.ref h0, z_v c0, z_v p0] (n := 4) (Nat.le_of_ble_eq_true rfl)
  rw [lg_entry_eq]
  generalize (lg_sl ([.ref h0, z_v c0, z_v p0]) ++ List.replicate (4 - (lg_sl ([.ref h0, z_v c0, z_v p0])).length) Slot.unset).toArray = ls at hl ⊢
  have hl : lv_has ls 4 [(0, .ref h0), (1, z_v c0), (2, z_v p0)] := hl
  obtain ⟨A, hAe⟩ : ∃ A, A = (va_A [(h0, .inr (2, [z_v 0, z_v 0, z_v 0, z_v 0, z_v 0, z_v 0, z_v 0, z_v 0, z_v 0, z_v 0, .null, .null, z_v 0, z_v 0]))] sz) := ⟨_, rfl⟩
  rw [← hAe]
  have hD : va_D A [(h0, .inr (2, [z_v 0, z_v 0, z_v 0, z_v 0, z_v 0, z_v 0, z_v 0, z_v 0, z_v 0, z_v 0, .null, .null, z_v 0, z_v 0]))] := by
    rw [hAe]
    refine ⟨fun i j p q hp hq _ => ?_, fun k q hk => Or.inl ⟨k, q.2, hk⟩⟩
    have h1 := (List.getElem?_eq_some_iff.mp hp).1
    have h2 := (List.getElem?_eq_some_iff.mp hq).1
    simp at h1 h2
    omega
  have hS : va_S A s.heap s.heap [] := va_S.rf
  have hA : ∀ q : Nat, s.heap.size ≤ q → A q := fun q h => by rw [hAe]; exact Or.inr (by rw [← hsz]; exact h)
  refine lv_aload_n hx hb dX1_init_0 rfl (lv_at hl 0 rfl) ?_
  refine W.objInit hx hb hown (hts _ qw_460) (hts _ qw_41) (hts _ qw_42) rfl (hl.1.trans hml.symm) rfl dX1_init_1 (Nat.le_of_ble_eq_true rfl) (Nat.le_of_ble_eq_true rfl) ?_
  refine W.eq (g2 := F0 m 4 ls []) rfl ?_
  refine lv_aload_n hx hb dX1_init_4 rfl (lv_at hl 0 rfl) ?_
  refine lv_iconst hx hb dX1_init_5 rfl ?_
  refine va_put (D := X.1) (C := RX1) (T := TX1) (N := 14) (ty := .int) (v := z_v 0) hx hb hts zC_4.2.1 tyX1 tyX1_ok nmX1 hown hK hP hD hS 0 rfl rfl 2 (by decide) (hts _ qw_465) (fun _ h9 => h9) rfl (by decide +kernel) rfl rfl (Nat.le_of_ble_eq_true rfl) dX1_init_6 (fun H locs hP hD hS => ?_)
  have hP : va_P X.1 vwCl [(h0, .inr (2, [z_v 0, z_v 0, z_v 0, z_v 0, z_v 0, z_v 0, z_v 0, z_v 0, z_v 0, z_v 0, .null, .null, z_v 0, z_v 0]))] H := hP
  have hD : va_D A [(h0, .inr (2, [z_v 0, z_v 0, z_v 0, z_v 0, z_v 0, z_v 0, z_v 0, z_v 0, z_v 0, z_v 0, .null, .null, z_v 0, z_v 0]))] := hD
  refine lv_aload_n hx hb dX1_init_9 rfl (lv_at hl 0 rfl) ?_
  refine lv_iconst hx hb dX1_init_10 rfl ?_
  refine va_put (D := X.1) (C := RX1) (T := TX1) (N := 14) (ty := .boolean) (v := z_v 0) hx hb hts zC_4.2.1 tyX1 tyX1_ok nmX1 hown hK hP hD hS 0 rfl rfl 3 (by decide) (hts _ qw_467) (fun _ h9 => h9) rfl (by decide +kernel) rfl rfl (Nat.le_of_ble_eq_true rfl) dX1_init_11 (fun H locs hP hD hS => ?_)
  have hP : va_P X.1 vwCl [(h0, .inr (2, [z_v 0, z_v 0, z_v 0, z_v 0, z_v 0, z_v 0, z_v 0, z_v 0, z_v 0, z_v 0, .null, .null, z_v 0, z_v 0]))] H := hP
  have hD : va_D A [(h0, .inr (2, [z_v 0, z_v 0, z_v 0, z_v 0, z_v 0, z_v 0, z_v 0, z_v 0, z_v 0, z_v 0, .null, .null, z_v 0, z_v 0]))] := hD
  refine lv_aload_n hx hb dX1_init_14 rfl (lv_at hl 0 rfl) ?_
  refine lv_iconst hx hb dX1_init_15 rfl ?_
  refine va_put (D := X.1) (C := RX1) (T := TX1) (N := 14) (ty := .int) (v := z_v (-1)) hx hb hts zC_4.2.1 tyX1 tyX1_ok nmX1 hown hK hP hD hS 0 rfl rfl 4 (by decide) (hts _ qw_469) (fun _ h9 => h9) rfl (by decide +kernel) rfl rfl (Nat.le_of_ble_eq_true rfl) dX1_init_16 (fun H locs hP hD hS => ?_)
  have hP : va_P X.1 vwCl [(h0, .inr (2, [z_v 0, z_v 0, z_v 0, z_v 0, z_v (-1), z_v 0, z_v 0, z_v 0, z_v 0, z_v 0, .null, .null, z_v 0, z_v 0]))] H := hP
  have hD : va_D A [(h0, .inr (2, [z_v 0, z_v 0, z_v 0, z_v 0, z_v (-1), z_v 0, z_v 0, z_v 0, z_v 0, z_v 0, .null, .null, z_v 0, z_v 0]))] := hD
  refine lv_aload_n hx hb dX1_init_19 rfl (lv_at hl 0 rfl) ?_
  refine lv_iconst hx hb dX1_init_20 rfl ?_
  refine va_put (D := X.1) (C := RX1) (T := TX1) (N := 14) (ty := .int) (v := z_v (-1)) hx hb hts zC_4.2.1 tyX1 tyX1_ok nmX1 hown hK hP hD hS 0 rfl rfl 5 (by decide) (hts _ qw_471) (fun _ h9 => h9) rfl (by decide +kernel) rfl rfl (Nat.le_of_ble_eq_true rfl) dX1_init_21 (fun H locs hP hD hS => ?_)
  have hP : va_P X.1 vwCl [(h0, .inr (2, [z_v 0, z_v 0, z_v 0, z_v 0, z_v (-1), z_v (-1), z_v 0, z_v 0, z_v 0, z_v 0, .null, .null, z_v 0, z_v 0]))] H := hP
  have hD : va_D A [(h0, .inr (2, [z_v 0, z_v 0, z_v 0, z_v 0, z_v (-1), z_v (-1), z_v 0, z_v 0, z_v 0, z_v 0, .null, .null, z_v 0, z_v 0]))] := hD
  refine lv_aload_n hx hb dX1_init_24 rfl (lv_at hl 0 rfl) ?_
  refine lv_iconst hx hb dX1_init_25 rfl ?_
  refine va_put (D := X.1) (C := RX1) (T := TX1) (N := 14) (ty := .int) (v := z_v (-1)) hx hb hts zC_4.2.1 tyX1 tyX1_ok nmX1 hown hK hP hD hS 0 rfl rfl 6 (by decide) (hts _ qw_473) (fun _ h9 => h9) rfl (by decide +kernel) rfl rfl (Nat.le_of_ble_eq_true rfl) dX1_init_26 (fun H locs hP hD hS => ?_)
  have hP : va_P X.1 vwCl [(h0, .inr (2, [z_v 0, z_v 0, z_v 0, z_v 0, z_v (-1), z_v (-1), z_v (-1), z_v 0, z_v 0, z_v 0, .null, .null, z_v 0, z_v 0]))] H := hP
  have hD : va_D A [(h0, .inr (2, [z_v 0, z_v 0, z_v 0, z_v 0, z_v (-1), z_v (-1), z_v (-1), z_v 0, z_v 0, z_v 0, .null, .null, z_v 0, z_v 0]))] := hD
  refine lv_aload_n hx hb dX1_init_29 rfl (lv_at hl 0 rfl) ?_
  refine lv_iconst hx hb dX1_init_30 rfl ?_
  refine va_put (D := X.1) (C := RX1) (T := TX1) (N := 14) (ty := .int) (v := z_v 0) hx hb hts zC_4.2.1 tyX1 tyX1_ok nmX1 hown hK hP hD hS 0 rfl rfl 7 (by decide) (hts _ qw_474) (fun _ h9 => h9) rfl (by decide +kernel) rfl rfl (Nat.le_of_ble_eq_true rfl) dX1_init_31 (fun H locs hP hD hS => ?_)
  have hP : va_P X.1 vwCl [(h0, .inr (2, [z_v 0, z_v 0, z_v 0, z_v 0, z_v (-1), z_v (-1), z_v (-1), z_v 0, z_v 0, z_v 0, .null, .null, z_v 0, z_v 0]))] H := hP
  have hD : va_D A [(h0, .inr (2, [z_v 0, z_v 0, z_v 0, z_v 0, z_v (-1), z_v (-1), z_v (-1), z_v 0, z_v 0, z_v 0, .null, .null, z_v 0, z_v 0]))] := hD
  refine lv_aload_n hx hb dX1_init_34 rfl (lv_at hl 0 rfl) ?_
  refine lv_iconst hx hb dX1_init_35 rfl ?_
  refine va_put (D := X.1) (C := RX1) (T := TX1) (N := 14) (ty := .int) (v := z_v 0) hx hb hts zC_4.2.1 tyX1 tyX1_ok nmX1 hown hK hP hD hS 0 rfl rfl 8 (by decide) (hts _ qw_476) (fun _ h9 => h9) rfl (by decide +kernel) rfl rfl (Nat.le_of_ble_eq_true rfl) dX1_init_36 (fun H locs hP hD hS => ?_)
  have hP : va_P X.1 vwCl [(h0, .inr (2, [z_v 0, z_v 0, z_v 0, z_v 0, z_v (-1), z_v (-1), z_v (-1), z_v 0, z_v 0, z_v 0, .null, .null, z_v 0, z_v 0]))] H := hP
  have hD : va_D A [(h0, .inr (2, [z_v 0, z_v 0, z_v 0, z_v 0, z_v (-1), z_v (-1), z_v (-1), z_v 0, z_v 0, z_v 0, .null, .null, z_v 0, z_v 0]))] := hD
  refine lv_aload_n hx hb dX1_init_39 rfl (lv_at hl 0 rfl) ?_
  refine lv_iconst hx hb dX1_init_40 rfl ?_
  refine va_put (D := X.1) (C := RX1) (T := TX1) (N := 14) (ty := .int) (v := z_v (-1)) hx hb hts zC_4.2.1 tyX1 tyX1_ok nmX1 hown hK hP hD hS 0 rfl rfl 9 (by decide) (hts _ qw_478) (fun _ h9 => h9) rfl (by decide +kernel) rfl rfl (Nat.le_of_ble_eq_true rfl) dX1_init_41 (fun H locs hP hD hS => ?_)
  have hP : va_P X.1 vwCl [(h0, .inr (2, [z_v 0, z_v 0, z_v 0, z_v 0, z_v (-1), z_v (-1), z_v (-1), z_v 0, z_v 0, z_v (-1), .null, .null, z_v 0, z_v 0]))] H := hP
  have hD : va_D A [(h0, .inr (2, [z_v 0, z_v 0, z_v 0, z_v 0, z_v (-1), z_v (-1), z_v (-1), z_v 0, z_v 0, z_v (-1), .null, .null, z_v 0, z_v 0]))] := hD
  refine lv_aload_n hx hb dX1_init_44 rfl (lv_at hl 0 rfl) ?_
  refine lv_bipush (v := Int32.ofInt 6) hx hb dX1_init_45 (by decide) ?_
  refine va_newa (atype := .int) (a0 := (6, .inl (fun _ => Int32.ofInt 0))) (ty := .int) (N' := 6) hx hb (hts _ qw_99) rfl hK hP hD hS hA (fun _ => rfl) (by decide) (by decide) (by decide) (Nat.le_of_ble_eq_true rfl) (Nat.le_of_ble_eq_true rfl) dX1_init_47 (fun q1 cA H hK1 hP hD hS => ?_)
  have hcA := z_cyI hK hK1
  subst hcA
  clear hK1
  have hP : va_P X.1 vwCl [(h0, .inr (2, [z_v 0, z_v 0, z_v 0, z_v 0, z_v (-1), z_v (-1), z_v (-1), z_v 0, z_v 0, z_v (-1), .null, .null, z_v 0, z_v 0])), (q1, .inl (X.2.1 0, 6, .inl (fun _ => Int32.ofInt 0)))] H := hP
  have hD : va_D A [(h0, .inr (2, [z_v 0, z_v 0, z_v 0, z_v 0, z_v (-1), z_v (-1), z_v (-1), z_v 0, z_v 0, z_v (-1), .null, .null, z_v 0, z_v 0])), (q1, .inl (X.2.1 0, 6, .inl (fun _ => Int32.ofInt 0)))] := hD
  refine va_putF (D := X.1) (C := RX1) (T := TX1) (N := 14) (ty := .array .int) (v := .ref q1) hx hb hts zC_4.2.1 tyX1 tyX1_ok nmX1 hown hK hP hD hS 0 rfl rfl 10 (by decide) (hts _ qw_479) (fun _ h9 => h9) rfl hin rfl (by decide +kernel) rfl rfl (Nat.le_of_ble_eq_true rfl) dX1_init_49 (fun H locs hP hD hS => ?_)
  have hP : va_P X.1 vwCl [(h0, .inr (2, [z_v 0, z_v 0, z_v 0, z_v 0, z_v (-1), z_v (-1), z_v (-1), z_v 0, z_v 0, z_v (-1), .ref q1, .null, z_v 0, z_v 0])), (q1, .inl (X.2.1 0, 6, .inl (fun _ => Int32.ofInt 0)))] H := hP
  have hD : va_D A [(h0, .inr (2, [z_v 0, z_v 0, z_v 0, z_v 0, z_v (-1), z_v (-1), z_v (-1), z_v 0, z_v 0, z_v (-1), .ref q1, .null, z_v 0, z_v 0])), (q1, .inl (X.2.1 0, 6, .inl (fun _ => Int32.ofInt 0)))] := hD
  refine lv_aload_n hx hb dX1_init_52 rfl (lv_at hl 0 rfl) ?_
  refine lv_bipush (v := Int32.ofInt 6) hx hb dX1_init_53 (by decide) ?_
  refine va_newa (atype := .int) (a0 := (6, .inl (fun _ => Int32.ofInt 0))) (ty := .int) (N' := 6) hx hb (hts _ qw_99) rfl hK hP hD hS hA (fun _ => rfl) (by decide) (by decide) (by decide) (Nat.le_of_ble_eq_true rfl) (Nat.le_of_ble_eq_true rfl) dX1_init_55 (fun q2 cA H hK1 hP hD hS => ?_)
  have hcA := z_cyI hK hK1
  subst hcA
  clear hK1
  have hP : va_P X.1 vwCl [(h0, .inr (2, [z_v 0, z_v 0, z_v 0, z_v 0, z_v (-1), z_v (-1), z_v (-1), z_v 0, z_v 0, z_v (-1), .ref q1, .null, z_v 0, z_v 0])), (q1, .inl (X.2.1 0, 6, .inl (fun _ => Int32.ofInt 0))), (q2, .inl (X.2.1 0, 6, .inl (fun _ => Int32.ofInt 0)))] H := hP
  have hD : va_D A [(h0, .inr (2, [z_v 0, z_v 0, z_v 0, z_v 0, z_v (-1), z_v (-1), z_v (-1), z_v 0, z_v 0, z_v (-1), .ref q1, .null, z_v 0, z_v 0])), (q1, .inl (X.2.1 0, 6, .inl (fun _ => Int32.ofInt 0))), (q2, .inl (X.2.1 0, 6, .inl (fun _ => Int32.ofInt 0)))] := hD
  refine va_putF (D := X.1) (C := RX1) (T := TX1) (N := 14) (ty := .array .int) (v := .ref q2) hx hb hts zC_4.2.1 tyX1 tyX1_ok nmX1 hown hK hP hD hS 0 rfl rfl 11 (by decide) (hts _ qw_480) (fun _ h9 => h9) rfl hin rfl (by decide +kernel) rfl rfl (Nat.le_of_ble_eq_true rfl) dX1_init_57 (fun H locs hP hD hS => ?_)
  have hP : va_P X.1 vwCl [(h0, .inr (2, [z_v 0, z_v 0, z_v 0, z_v 0, z_v (-1), z_v (-1), z_v (-1), z_v 0, z_v 0, z_v (-1), .ref q1, .ref q2, z_v 0, z_v 0])), (q1, .inl (X.2.1 0, 6, .inl (fun _ => Int32.ofInt 0))), (q2, .inl (X.2.1 0, 6, .inl (fun _ => Int32.ofInt 0)))] H := hP
  have hD : va_D A [(h0, .inr (2, [z_v 0, z_v 0, z_v 0, z_v 0, z_v (-1), z_v (-1), z_v (-1), z_v 0, z_v 0, z_v (-1), .ref q1, .ref q2, z_v 0, z_v 0])), (q1, .inl (X.2.1 0, 6, .inl (fun _ => Int32.ofInt 0))), (q2, .inl (X.2.1 0, 6, .inl (fun _ => Int32.ofInt 0)))] := hD
  refine lv_aload_n hx hb dX1_init_60 rfl (lv_at hl 0 rfl) ?_
  refine lv_iconst hx hb dX1_init_61 rfl ?_
  refine va_put (D := X.1) (C := RX1) (T := TX1) (N := 14) (ty := .int) (v := z_v 0) hx hb hts zC_4.2.1 tyX1 tyX1_ok nmX1 hown hK hP hD hS 0 rfl rfl 12 (by decide) (hts _ qw_481) (fun _ h9 => h9) rfl (by decide +kernel) rfl rfl (Nat.le_of_ble_eq_true rfl) dX1_init_62 (fun H locs hP hD hS => ?_)
  have hP : va_P X.1 vwCl [(h0, .inr (2, [z_v 0, z_v 0, z_v 0, z_v 0, z_v (-1), z_v (-1), z_v (-1), z_v 0, z_v 0, z_v (-1), .ref q1, .ref q2, z_v 0, z_v 0])), (q1, .inl (X.2.1 0, 6, .inl (fun _ => Int32.ofInt 0))), (q2, .inl (X.2.1 0, 6, .inl (fun _ => Int32.ofInt 0)))] H := hP
  have hD : va_D A [(h0, .inr (2, [z_v 0, z_v 0, z_v 0, z_v 0, z_v (-1), z_v (-1), z_v (-1), z_v 0, z_v 0, z_v (-1), .ref q1, .ref q2, z_v 0, z_v 0])), (q1, .inl (X.2.1 0, 6, .inl (fun _ => Int32.ofInt 0))), (q2, .inl (X.2.1 0, 6, .inl (fun _ => Int32.ofInt 0)))] := hD
  refine lv_aload_n hx hb dX1_init_65 rfl (lv_at hl 0 rfl) ?_
  refine lv_iconst hx hb dX1_init_66 rfl ?_
  refine va_put (D := X.1) (C := RX1) (T := TX1) (N := 14) (ty := .int) (v := z_v (-1)) hx hb hts zC_4.2.1 tyX1 tyX1_ok nmX1 hown hK hP hD hS 0 rfl rfl 13 (by decide) (hts _ qw_483) (fun _ h9 => h9) rfl (by decide +kernel) rfl rfl (Nat.le_of_ble_eq_true rfl) dX1_init_67 (fun H locs hP hD hS => ?_)
  have hP : va_P X.1 vwCl [(h0, .inr (2, [z_v 0, z_v 0, z_v 0, z_v 0, z_v (-1), z_v (-1), z_v (-1), z_v 0, z_v 0, z_v (-1), .ref q1, .ref q2, z_v 0, z_v (-1)])), (q1, .inl (X.2.1 0, 6, .inl (fun _ => Int32.ofInt 0))), (q2, .inl (X.2.1 0, 6, .inl (fun _ => Int32.ofInt 0)))] H := hP
  have hD : va_D A [(h0, .inr (2, [z_v 0, z_v 0, z_v 0, z_v 0, z_v (-1), z_v (-1), z_v (-1), z_v 0, z_v 0, z_v (-1), .ref q1, .ref q2, z_v 0, z_v (-1)])), (q1, .inl (X.2.1 0, 6, .inl (fun _ => Int32.ofInt 0))), (q2, .inl (X.2.1 0, 6, .inl (fun _ => Int32.ofInt 0)))] := hD
  refine lv_aload_n hx hb dX1_init_70 rfl (lv_at hl 0 rfl) ?_
  refine lv_iload_n hx hb dX1_init_71 rfl (lv_at hl 1 rfl) ?_
  refine va_putF (D := X.1) (C := RX1) (T := TX1) (N := 14) (ty := .int) (v := z_v c0) hx hb hts zC_4.2.1 tyX1 tyX1_ok nmX1 hown hK hP hD hS 0 rfl rfl 0 (by decide) (hts _ qw_461) (fun _ h9 => h9) rfl hin rfl (by decide +kernel) rfl rfl (Nat.le_of_ble_eq_true rfl) dX1_init_72 (fun H locs hP hD hS => ?_)
  have hP : va_P X.1 vwCl [(h0, .inr (2, [z_v c0, z_v 0, z_v 0, z_v 0, z_v (-1), z_v (-1), z_v (-1), z_v 0, z_v 0, z_v (-1), .ref q1, .ref q2, z_v 0, z_v (-1)])), (q1, .inl (X.2.1 0, 6, .inl (fun _ => Int32.ofInt 0))), (q2, .inl (X.2.1 0, 6, .inl (fun _ => Int32.ofInt 0)))] H := hP
  have hD : va_D A [(h0, .inr (2, [z_v c0, z_v 0, z_v 0, z_v 0, z_v (-1), z_v (-1), z_v (-1), z_v 0, z_v 0, z_v (-1), .ref q1, .ref q2, z_v 0, z_v (-1)])), (q1, .inl (X.2.1 0, 6, .inl (fun _ => Int32.ofInt 0))), (q2, .inl (X.2.1 0, 6, .inl (fun _ => Int32.ofInt 0)))] := hD
  refine lv_aload_n hx hb dX1_init_75 rfl (lv_at hl 0 rfl) ?_
  refine lv_iload_n hx hb dX1_init_76 rfl (lv_at hl 2 rfl) ?_
  refine va_put (D := X.1) (C := RX1) (T := TX1) (N := 14) (ty := .int) (v := z_v p0) hx hb hts zC_4.2.1 tyX1 tyX1_ok nmX1 hown hK hP hD hS 0 rfl rfl 1 (by decide) (hts _ qw_463) (fun _ h9 => h9) rfl (by decide +kernel) rfl rfl (Nat.le_of_ble_eq_true rfl) dX1_init_77 (fun H locs hP hD hS => ?_)
  have hP : va_P X.1 vwCl [(h0, .inr (2, [z_v c0, z_v p0, z_v 0, z_v 0, z_v (-1), z_v (-1), z_v (-1), z_v 0, z_v 0, z_v (-1), .ref q1, .ref q2, z_v 0, z_v (-1)])), (q1, .inl (X.2.1 0, 6, .inl (fun _ => Int32.ofInt 0))), (q2, .inl (X.2.1 0, 6, .inl (fun _ => Int32.ofInt 0)))] H := hP
  have hD : va_D A [(h0, .inr (2, [z_v c0, z_v p0, z_v 0, z_v 0, z_v (-1), z_v (-1), z_v (-1), z_v 0, z_v 0, z_v (-1), .ref q1, .ref q2, z_v 0, z_v (-1)])), (q1, .inl (X.2.1 0, 6, .inl (fun _ => Int32.ofInt 0))), (q2, .inl (X.2.1 0, 6, .inl (fun _ => Int32.ofInt 0)))] := hD
  refine lv_iconst hx hb dX1_init_80 rfl ?_
  refine lv_istore_n (lv' := [(3, z_v ((0 : Nat) : Int)), (0, .ref h0), (1, z_v c0), (2, z_v p0)]) hx hb dX1_init_81 rfl hl (by decide) rfl (fun ls hl => ?_)
  subst hAe
  exact w_FlFill hx hb hr hlocks hml hown hts hK hsz 6 0 (by omega) (by omega) H locs ls hP hD hS hl

/-! the makers of the law's start: what they share -/
def zNs (U : State) : Prop := va_Nw (.methodLinkNest "SkyloadBureau" 21 yX0_init "SkyloadBureau") U ∧ va_Nw (.methodLinkNest "SkyloadBureau$Dealing" 11 yX2_init "SkyloadBureau") U ∧ va_Nw (.methodLinkNest "SkyloadBureau" 28 yX2_init "SkyloadBureau") U
theorem zNs.warm {s U : State} (hW : s.WarmedH U.vm) (h : zNs s) : zNs U := ⟨va_Nw.warmM hW h.1, va_Nw.warmM hW h.2.1, va_Nw.warmM hW h.2.2⟩
def zB (X : zC) (sz : Nat) (L : va_W) (U : State) : Prop := U.heap.size = sz ∧ va_P X.1 vwCl L U.heap ∧ va_K X.1 vwCl (z_tys X) U ∧ zNs U ∧ zS X U
theorem zB_blind {X : zC} {sz : Nat} {L : va_W} {av : List Value} : FrameBlind (va_Pc av (fun U => zB X sz L U)) := by
  intro a U g9 mk q
  obtain ⟨q0, q1, q2, q3, q4, q5⟩ := q
  exact ⟨q0, q1, q2, va_K.moved (u := U) (U := U.calling g9 mk a) (Vm.Alike.refl U.vm) q3, zNs.warm (s := U) (U := U.calling g9 mk a) (State.WarmedH.refl U) q4, zS_pass (s := U) (U := U.calling g9 mk a) (H := U.heap) (locs := []) q5 va_S.rf (State.WarmedH.refl U) rfl⟩
theorem z_mono {X : zC} {A : Nat → Prop} {H0 H : Heap} {locs : List Loc} (hA : ∀ x, A x → X.2.2.1 ≤ x) (h : va_S A H0 H locs) : va_S (zA X) H0 H locs := ⟨h.1, fun q h1 h2 => h.2.1 q h1 (fun z => h2 (hA q z)), fun l hl => hA _ (h.2.2 l hl)⟩
theorem z_one {X : zC} {L : va_W} {H : Heap} {j q : Nat} {e0 : va_E} (hP : va_P X.1 vwCl L H) (hj : L[j]? = some (q, e0)) : va_P X.1 vwCl [(q, e0)] H := by
  intro k x hk
  match k, hk with
  | 0, hk => cases hk; exact hP j _ hj
  | k + 1, hk => simp at hk
theorem zB_pre {X : zC} {s : State} {A : Nat → Prop} {H : Heap} {locs : List Loc} {L : va_W} {j q : Nat} {e0 : va_E} {av : List Value} (hK : va_K X.1 vwCl (z_tys X) s) (hNs : zNs s) (hZS : zS X s) (hAz : ∀ x, A x → X.2.2.1 ≤ x) (hS : va_S A s.heap H locs) (hP : va_P X.1 vwCl L H) (hj : L[j]? = some (q, e0)) : ∀ U : State, U.heap = H → s.WarmedH U.vm → va_Pc av (fun U => zB X H.size [(q, e0)] U) av.toArray U :=
  fun U hU hW => ⟨rfl, by rw [hU], by rw [hU]; exact z_one hP hj, va_K.moved hW.alike hK, zNs.warm hW hNs, zS_pass hZS (z_mono hAz hS) hW hU⟩
theorem z_merge {X : zC} {A : Nat → Prop} {L : va_W} {j q : Nat} {e0 e1 : va_E} {new : va_W} {H1 H2 : Heap} (hP : va_P X.1 vwCl L H1) (hD : va_D A L) (hj : L[j]? = some (q, e0)) (hP2 : va_P X.1 vwCl ((q, e1) :: new) H2) (hD2 : va_D (va_A [(q, e0)] H1.size) ((q, e1) :: new)) (hk : ∀ x : Nat, x < H1.size → ¬ va_A [(q, e0)] H1.size x → H2[x]? = H1[x]?) (hA : ∀ x, H1.size ≤ x → A x) : va_P X.1 vwCl (L.set j (q, e1) ++ new) H2 ∧ va_D A (L.set j (q, e1) ++ new) := by
  have hjl : j < L.length := (List.getElem?_eq_some_iff.mp hj).1
  have key : ∀ (i : Nat) (x : Nat × va_E), (L.set j (q, e1) ++ new)[i]? = some x → (i < L.length ∧ i ≠ j ∧ L[i]? = some x) ∨ (i = j ∧ x = (q, e1)) ∨ (L.length ≤ i ∧ new[i - L.length]? = some x) := by
    intro i x hi
    by_cases c : i < L.length
    · rw [List.getElem?_append_left (by rw [List.length_set]; exact c)] at hi
      by_cases cj : i = j
      · subst cj
        rw [List.getElem?_set_self hjl] at hi
        exact Or.inr (Or.inl ⟨rfl, (Option.some.inj hi).symm⟩)
      · rw [List.getElem?_set_ne (Ne.symm cj)] at hi
        exact Or.inl ⟨c, cj, hi⟩
    · rw [List.getElem?_append_right (by rw [List.length_set]; omega), List.length_set] at hi
      exact Or.inr (Or.inr ⟨by omega, hi⟩)
  have hold : ∀ (i : Nat) (x : Nat × va_E), i ≠ j → L[i]? = some x → x.1 ≠ q ∧ x.1 < H1.size := fun i x hne hi => ⟨fun z => hne (hD.1 i j x (q, e0) hi hj z), (hP i x hi).lt⟩
  have hnew : ∀ (i : Nat) (x : Nat × va_E), new[i]? = some x → x.1 ≠ q ∧ H1.size ≤ x.1 := by
    intro i x hi
    have hi1 : ((q, e1) :: new)[i + 1]? = some x := by simpa using hi
    have h1 : x.1 ≠ q := fun z => absurd (hD2.1 (i + 1) 0 x (q, e1) hi1 rfl z) (by omega)
    refine ⟨h1, ?_⟩
    rcases hD2.2 (i + 1) x hi1 with ⟨k, e9, hk9⟩ | h
    · match k, hk9 with
      | 0, hk9 => exact absurd (congrArg Prod.fst (Option.some.inj hk9)).symm h1
      | k + 1, hk9 => simp at hk9
    · exact h
  have hnA : ∀ x : Nat, x ≠ q → x < H1.size → ¬ va_A [(q, e0)] H1.size x := by
    intro x hne hlt h
    rcases h with ⟨k, e9, hk9⟩ | h
    · match k, hk9 with
      | 0, hk9 => exact absurd (congrArg Prod.fst (Option.some.inj hk9)).symm hne
      | k + 1, hk9 => simp at hk9
    · omega
  have hql : q < H1.size := (hP j _ hj).lt
  refine ⟨fun i x hi => ?_, fun a b x y hx hy hxy => ?_, fun i x hi => ?_⟩
  · rcases key i x hi with ⟨h1, h2, h3⟩ | ⟨h1, rfl⟩ | ⟨h1, h2⟩
    · obtain ⟨n1, n2⟩ := hold i x h2 h3
      exact (hP i x h3).kept (hk x.1 n2 (hnA x.1 n1 n2))
    · exact hP2 0 _ rfl
    · exact hP2 (i - L.length + 1) x (by simpa using h2)
  · rcases key a x hx with ⟨h1, h2, h3⟩ | ⟨h1, rfl⟩ | ⟨h1, h3⟩ <;> rcases key b y hy with ⟨h4, h5, h6⟩ | ⟨h4, rfl⟩ | ⟨h4, h6⟩
    · exact hD.1 a b x y h3 h6 hxy
    · exact absurd hxy (hold a x h2 h3).1
    · have := (hold a x h2 h3).2; have := (hnew _ y h6).2; omega
    · exact absurd hxy.symm (hold b y h5 h6).1
    · omega
    · exact absurd hxy.symm (hnew _ y h6).1
    · have := (hold b y h5 h6).2; have := (hnew _ x h3).2; omega
    · exact absurd hxy (hnew _ x h3).1
    · have := hD2.1 (a - L.length + 1) (b - L.length + 1) x y (by simpa using h3) (by simpa using h6) hxy
      omega
  · rcases key i x hi with ⟨h1, h2, h3⟩ | ⟨h1, rfl⟩ | ⟨h1, h2⟩
    · exact hD.2 i x h3
    · exact (hD.2 j (q, e0) hj : A q)
    · exact hA _ (hnew _ x h2).2
theorem z_iback {p : Program} {l : Launch} {e : Env} {R : Room} {s : State} {m : MethodId} {args : Array Value} {below : List Frame} {meth : Method} {c : Code} {H : Heap} {locs : List Loc} {cells slots mc ms pc : Nat} {ls : Array Slot} {st0 rest : List Value} {a : Array Value} {Q : State → Prop} {X : zC} {A : Nat → Prop} {L : va_W} {j q : Nat} {e0 : va_E} (post : (Nat → Nat) → va_W) {e1 : (Nat → Nat) → va_E} {new : (Nat → Nat) → va_W} (hpost : ∀ u, post u = (q, e1 u) :: new u) (hP : va_P X.1 vwCl L H) (hD : va_D A L) (hS : va_S A s.heap H locs) (hA : ∀ x, s.heap.size ≤ x → A x) (hj : L[j]? = some (q, e0))
    (hr : va_Run p l e R s m args below meth c H locs cells slots mc ms (F0 m pc ls st0) rest (va_Qv (fun (_ : Nat → Nat) => True) (fun u t => va_P X.1 vwCl (post u) t.heap ∧ va_D (va_A [(q, e0)] H.size) (post u)) (va_A [(q, e0)] H.size) a) (va_A [(q, e0)] H.size))
    (kk : ∀ (u : Nat → Nat) (H : Heap) (locs : List Loc), va_P X.1 vwCl (L.set j (q, e1 u) ++ new u) H → va_D A (L.set j (q, e1 u) ++ new u) → va_S A s.heap H locs → W p l e R s m args below meth c H locs (cells + mc) (slots + ms) Q (F0 m (pc + 3) ls rest)) : W p l e R s m args below meth c H locs cells slots Q (F0 m pc ls st0) := by
  have hf : ∀ x, va_A [(q, e0)] H.size x → A x := by
    intro x h
    rcases h with ⟨k, e9, hk9⟩ | h
    · match k, hk9 with
      | 0, hk9 => cases hk9; exact hD.2 j _ hj
      | k + 1, hk9 => simp at hk9
    · exact hA x (Nat.le_trans hS.1 h)
  refine va_callv hr hS (fun x _ h => hf x h) hf (fun u t H2 locs2 ht hvm hp hB hz1 hk1 hS2 => ?_)
  obtain ⟨b1, b2⟩ := hB
  rw [ht, hpost] at b1
  rw [hpost] at b2
  obtain ⟨m1, m2⟩ := z_merge hP hD hj b1 b2 hk1 (fun x h => hA x (Nat.le_trans hS.1 h))
  exact kk u H2 locs2 m1 m2 hS2
abbrev zMI (l : Launch) (y : MethodName) (b : ByteArray) (rm : Room) (X : zC) (h0 sz : Nat) (e0 : va_E) (post : (Nat → Nat) → va_W) : Prop := Met l y (zws y b 1 none) rm (va_Pc [.ref h0] (fun U => zB X sz [(h0, e0)] U)) (va_Qv (fun (_ : Nat → Nat) => True) (fun u t => va_P X.1 vwCl (post u) t.heap ∧ va_D (va_A [(h0, e0)] sz) (post u)) (va_A [(h0, e0)] sz)) rm.cells rm.slots (va_A [(h0, e0)] sz)
theorem z_iofW {l : Launch} {y : MethodName} {cc : ByteArray} {rm : Room} {X : zC} {h0 sz : Nat} {e0 : va_E} {post : (Nat → Nat) → va_W} {own : String} (hy : plainName y.cls = true) (ho : y.cls = own) (hn : y.name = "<init>") (hh : X.2.2.1 ≤ h0) (hs : X.2.2.1 ≤ sz)
    (body : ∀ p e s m args below meth c ls A, CallFix p m c cc 1 s args lw_G own → meth.sig.returnType = none → meth.locks = false → meth.name = "<init>" → va_P X.1 vwCl [(h0, e0)] s.heap → va_D A [(h0, e0)] → va_S A s.heap s.heap [] → va_K X.1 vwCl (z_tys X) s → zNs s → zS X s → (∀ x, A x → X.2.2.1 ≤ x) → (∀ x, s.heap.size ≤ x → A x) → X.2.2.1 ≤ s.heap.size → c.maxLocals = 1 → lv_has ls 1 [(0, .ref h0)] → W p l e rm s m args below meth c s.heap [] 0 0 (MQ below (va_Qv (fun (_ : Nat → Nat) => True) (fun u t => va_P X.1 vwCl (post u) t.heap ∧ va_D A (post u)) A) args s rm.cells rm.slots A) (F0 m 0 ls [])) : zMI l y cc rm X h0 sz e0 post := by
  refine Met.ofW (cc := cc) (maxL := 1) (ret := none) hy rfl ?_
  intro p e s m args below meth c s₁ B hml hv
  obtain ⟨rfl, rfl, hP, hK, hNs, hZS⟩ := hv
  have hts : ∀ w ∈ lw_G, w.before [Value.ref h0].toArray s = true := fun w hw => atoms_spec (ws := zws y cc 1 none) B.pre w (List.mem_cons_of_mem _ hw)
  have hown : s.vm.findClass own = some m.cls := by rw [← ho]; exact findClass_of_methodNamed B.named
  have hl := lv_entry [Value.ref h0] (n := 1) (Nat.le_of_ble_eq_true rfl)
  rw [lg_entry_eq]
  refine body p e s m _ below meth c _ _ ⟨B.exec, B.bytes, hml, hown, hts⟩ B.returns B.notSynchronized ((name_of_methodNamed B.named B.method).1.trans hn) hP ⟨fun i j p q hp hq _ => ?_, fun k q hk => Or.inl ⟨k, q.2, hk⟩⟩ va_S.rf hK hNs hZS (fun x h => ?_) (fun x h => Or.inr h) hs hml hl
  · have h1 := (List.getElem?_eq_some_iff.mp hp).1
    have h2 := (List.getElem?_eq_some_iff.mp hq).1
    simp at h1 h2
    omega
  · rcases h with ⟨k, e9, hk9⟩ | h
    · match k, hk9 with
      | 0, hk9 => cases hk9; exact hh
      | k + 1, hk9 => simp at hk9
    · exact Nat.le_trans hs h

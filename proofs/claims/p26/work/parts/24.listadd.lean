set_option maxHeartbeats 4000000 in
set_option maxRecDepth 100000 in
theorem c_grow0 (l : Launch) (X : zC) (N : zN) {g : zG} {i : Nat} (hi : i = 0 ∨ i = 1) (hf : N.2 i = N.2 (2 + i)) (hle : N.2 i ≤ 24) (h1 : i = 0 ∨ N.2 (2 + i) = 0) : Met l yJx4a65c_grow_d5877 (zws yJx4a65c_grow_d5877 cJx4a65c_grow_d5877 1 (some (.array (.object "java/lang/Object")))) { frames := 4, cells := 1, slots := 40, locals := 115 } (va_Pc [z_r N 1 i] (fun U => zU X N g U)) (va_Qr (fun (_ : zN) => True) (fun N' a t => (zGrow i N N' ∧ a = N'.1 16 i) ∧ zU X N' g t) (zA X)) 1 40 (zA X) := by
  refine Met.ofW (cc := cJx4a65c_grow_d5877) (maxL := 1) (ret := (some (.array (.object "java/lang/Object")))) (by decide +kernel) rfl ?_
  intro p e s m args below meth c s₁ B hml hv
  obtain ⟨rfl, hWd, hK, hS⟩ := hv
  have hts : ∀ w ∈ lw_G, w.before [z_r N 1 i].toArray s = true := fun w hw => atoms_spec (ws := zws yJx4a65c_grow_d5877 cJx4a65c_grow_d5877 1 (some (.array (.object "java/lang/Object")))) B.pre w (List.mem_cons_of_mem _ hw)
  have hown : s.vm.findClass RJx4a65c = some m.cls := findClass_of_methodNamed B.named
  have hl := lv_entry [z_r N 1 i] (n := 1) (Nat.le_of_ble_eq_true rfl)
  rw [lg_entry_eq]
  generalize (lg_sl ([z_r N 1 i]) ++ List.replicate (1 - (lg_sl ([z_r N 1 i])).length) Slot.unset).toArray = ls at hl ⊢
  have hF : zF p s m [z_r N 1 i].toArray meth c X cJx4a65c_grow_d5877 1 RJx4a65c := ⟨⟨B.exec, B.bytes, hml, hown, hts⟩, hK, hS, B.notSynchronized⟩
  have hr := B.returns
  have hw : zH X N g s s.heap [] := ⟨hWd, va_S.rf, hWd.2.2.2.2.1⟩
  have hl : lv_has ls 1 [(0, z_r N 1 i)] := hl
  have hx := hF.1.1
  have hb := hF.1.2.1
  have hE1 : zE N 1 i := hi.elim (fun z => by rw [z]; exact zEf_1_0) (fun z => by rw [z]; exact zEf_1_1)
  have hgs : g 1 i 2 = (N.2 i : Int) := by
    obtain ⟨s1, s2, -⟩ := hWd.2.2.1
    rcases hi with rfl | rfl
    · exact s1
    · exact s2
  refine lv_aload_n hx hb dJx4a65c_grow_d5877_0 rfl (lv_at hl 0 rfl) ?_
  refine lv_aload_n hx hb dJx4a65c_grow_d5877_1 rfl (lv_at hl 0 rfl) ?_
  refine zr_get hF hw hE1 (by decide) zC_1 2 (by decide) qw_58 rfl dJx4a65c_grow_d5877_2 ?_
  refine lv_iconst hx hb dJx4a65c_grow_d5877_5 rfl ?_
  refine zr_iadd hF dJx4a65c_grow_d5877_6 ?_
  rw [hgs]
  refine va_callr (va_runV (As := [z_v ((N.2 i : Int) + 1)]) (rest := []) hF.1 (c_growI l X N hi hf hle h1) (cwV 1 hF.1.2.2.2.2 (z_goodV qw_525 qw_527 qw_9 qw_18 qw_528) rfl rfl rfl (by decide +kernel) ⟨Nat.le_of_ble_eq_true rfl, Nat.le_of_ble_eq_true rfl⟩) ⟨zU_blind, z_recv hF hw hE1 (by decide) zC_1, z_pre hF hw⟩ rfl rfl hl.1 rfl (lv_room (Nat.le_of_ble_eq_true rfl)) dJx4a65c_grow_d5877_7 ⟨Nat.le_of_ble_eq_true rfl, Nat.le_of_ble_eq_true rfl⟩) hw.2.1 (fun q _ h => h) (fun q h => h) (fun u ra t H1 locs1 ht hvm hp hB hz1 hk1 hS1 => ?_)
  have hw2 : zH X u g s H1 locs1 := zH_back hw ht hB.2 hS1
  exact W.aret (v := .ref ra) hx hb hr (Or.inr ⟨_, rfl⟩) (Or.inr ⟨_, rfl⟩) (fun t9 ht9 hW => ⟨⟨u, ra, rfl, trivial, hB.1, by rw [ht9]; exact hw2.1, va_K.moved hW.alike hF.2.1, zS_pass hF.2.2.1 hw2.2.1 hW ht9⟩, hw2.2.1.F ht9⟩) hw2.2.1.2.2 dJx4a65c_grow_d5877_10 hF.2.2.2
/-- two cells put anew: the list, and its row -/
theorem z_added {X : zC} {N : zN} {g : zG} {i q0 q6 : Nat} (hi : i = 0 ∨ i = 1) (hD : va_D (zA X) (z_pool X N g)) (hlt : N.2 i < N.2 (2 + i)) (hq0 : (z_roles N.2)[q0]? = some (1, i)) (hq6 : (z_roles N.2)[q6]? = some (16, i)) {f : Nat → Option Nat} (hf : f = fun j => if j < N.2 i + 1 then some (N.1 (4 + i) j) else none) :
    (List.set (List.set (z_pool X N g) q6 (N.1 16 i, .inl (X.2.1 3, N.2 (2 + i), .inr (.inr (.inr (.inr f)))))) q0 (N.1 1 i, .inr (0, [z_v (g 1 i 0), z_r N 16 i, z_v (g 1 i 2 + 1)])) : va_W) = z_pool X (N.1, fun z => if z = i then N.2 i + 1 else N.2 z) (zup g 1 i 2 (g 1 i 2 + 1)) := by
  have hpl : ∀ (j : Nat) (r : Nat × Nat), (z_roles N.2)[j]? = some r → (z_pool X N g)[j]? = some (N.1 r.1 r.2, z_cell X N g r.1 r.2) := by
    intro j r hr
    unfold z_pool
    rw [List.getElem?_map, hr]
    rfl
  have hro : z_roles (fun z => if z = i then N.2 i + 1 else N.2 z) = z_roles N.2 := by
    unfold z_roles
    refine List.filter_congr (fun r _ => ?_)
    unfold z_ex
    have e7 : (if 7 = i then N.2 i + 1 else N.2 7) = N.2 7 := if_neg (by omega)
    have e8 : (if 8 = i then N.2 i + 1 else N.2 8) = N.2 8 := if_neg (by omega)
    have e2 : (if 2 + r.2 = i then N.2 i + 1 else N.2 (2 + r.2)) = N.2 (2 + r.2) := if_neg (by omega)
    simp only [e7, e8, e2]
  have hpl' : ∀ (j : Nat) (r : Nat × Nat), (z_roles N.2)[j]? = some r → (z_pool X (N.1, fun z => if z = i then N.2 i + 1 else N.2 z) (zup g 1 i 2 (g 1 i 2 + 1)))[j]? = some (N.1 r.1 r.2, z_cell X (N.1, fun z => if z = i then N.2 i + 1 else N.2 z) (zup g 1 i 2 (g 1 i 2 + 1)) r.1 r.2) := by
    intro j r hr
    unfold z_pool
    rw [List.getElem?_map]
    show Option.map _ ((z_roles (fun z => if z = i then N.2 i + 1 else N.2 z))[j]?) = _
    rw [hro, hr]
    rfl
  have l0 := (List.getElem?_eq_some_iff.mp (hpl q0 _ hq0)).1
  have l6 := (List.getElem?_eq_some_iff.mp (hpl q6 _ hq6)).1
  have h06 : q6 ≠ q0 := by
    rintro rfl
    cases hq0.symm.trans hq6
  have hnz : ¬ N.2 (2 + i) = 0 := by omega
  apply List.ext_getElem?
  intro j
  by_cases c0 : j = q0
  · subst c0
    rw [List.getElem?_set_self (by rw [List.length_set]; exact l0), hpl' _ _ hq0]
    show _ = some (N.1 1 i, (.inr (0, [z_v (zup g 1 i 2 (g 1 i 2 + 1) 1 i 0), (if (if 2 + i = i then N.2 i + 1 else N.2 (2 + i)) = 0 then .ref X.2.2.2 else z_r N 16 i), z_v (zup g 1 i 2 (g 1 i 2 + 1) 1 i 2)]) : va_E))
    rw [zup_self, zup_place (by decide), if_neg (by omega : ¬ 2 + i = i), if_neg hnz]
  · rw [List.getElem?_set_ne (Ne.symm c0)]
    by_cases c6 : j = q6
    · subst c6
      rw [List.getElem?_set_self l6, hpl' _ _ hq6]
      show _ = some (N.1 16 i, (.inl (X.2.1 3, (if 2 + i = i then N.2 i + 1 else N.2 (2 + i)), .inr (.inr (.inr (.inr (fun j => if j < (if i = i then N.2 i + 1 else N.2 i) then some (N.1 (4 + i) j) else none))))) : va_E))
      rw [if_neg (by omega : ¬ 2 + i = i), if_pos rfl, hf]
    · rw [List.getElem?_set_ne (Ne.symm c6)]
      cases hr : (z_roles N.2)[j]? with
      | none =>
        unfold z_pool
        rw [List.getElem?_map, List.getElem?_map]
        show _ = Option.map _ ((z_roles (fun z => if z = i then N.2 i + 1 else N.2 z))[j]?)
        rw [hro, hr]
        rfl
      | some r =>
        have hpj := hpl j r hr
        have n1 : ¬ (r.1 = 1 ∧ r.2 = i) := by
          rintro ⟨e1, e2⟩
          exact c0 (hD.1 j q0 _ _ hpj (hpl q0 _ hq0) (by rw [e1, e2]))
        have n6 : ¬ (r.1 = 16 ∧ r.2 = i) := by
          rintro ⟨e1, e2⟩
          exact c6 (hD.1 j q6 _ _ hpj (hpl q6 _ hq6) (by rw [e1, e2]))
        rw [hpj, hpl' j r hr]
        have e3 : z_cell X (N.1, fun z => if z = i then N.2 i + 1 else N.2 z) (zup g 1 i 2 (g 1 i 2 + 1)) r.1 r.2 = z_cell X (N.1, fun z => if z = i then N.2 i + 1 else N.2 z) g r.1 r.2 := z_cell_congr (fun p' => zup_other n1)
        rw [e3]
        have e4 : (if 2 + r.2 = i then N.2 i + 1 else N.2 (2 + r.2)) = N.2 (2 + r.2) := if_neg (by omega)
        have e5 : z_cell X (N.1, fun z => if z = i then N.2 i + 1 else N.2 z) g r.1 r.2 = z_cell X N g r.1 r.2 := by
          unfold z_cell
          by_cases c1 : r.1 < 10
          · rw [if_pos c1, if_pos c1]
            have : z_obj X (N.1, fun z => if z = i then N.2 i + 1 else N.2 z) g r.1 r.2 = z_obj X N g r.1 r.2 := by
              unfold z_obj
              simp only [e4]
            rw [this]
          · rw [if_neg c1, if_neg c1]
            by_cases c2 : r.1 = 16
            · rw [if_pos c2, if_pos c2]
              have hri : ¬ r.2 = i := fun z => n6 ⟨c2, z⟩
              show (Sum.inl (X.2.1 3, (if 2 + r.2 = i then N.2 i + 1 else N.2 (2 + r.2)), .inr (.inr (.inr (.inr (fun j => if j < (if r.2 = i then N.2 i + 1 else N.2 r.2) then some (N.1 (4 + r.2) j) else none))))) : va_E) = _
              rw [e4, if_neg hri]
            · rw [if_neg c2, if_neg c2]
        rw [e5]
theorem w_add_tail {p : Program} {l : Launch} {e : Env} {R : Room} {s : State} {m : MethodId} {args : Array Value} {below : List Frame} {meth : Method} {c : Code} {X : zC} {N N0 : zN} {g : zG} {H : Heap} {locs : List Loc} {ls : Array Slot} {i cells slots : Nat} (hF : zF p s m args meth c X cJx4a65c_add_72be8 4 RJx4a65c) (hr : meth.sig.returnType = none) (hw : zH X N g s H locs) (hi : i = 0 ∨ i = 1) (hE4 : zE N (4 + i) (N.2 i)) (hlt : N.2 i < N.2 (2 + i)) (hp : N.2 i < N.2 (7 + i)) (h1 : ∀ k j, ¬ (k = 16 ∧ j = i) → N.1 k j = N0.1 k j) (h2 : ∀ q, q ≠ 2 + i → N.2 q = N0.2 q) (h3 : (N0.2 (2 + i) = 0 → N.2 (2 + i) = 10) ∧ (N0.2 i < N0.2 (2 + i) → N.2 (2 + i) = N0.2 (2 + i))) (hc : cells ≤ 1 ∧ slots ≤ 40)
    (hl : lv_has ls 4 [(2, z_r N 16 i), (0, z_r N 1 i), (1, z_r N (4 + i) (N.2 i)), (3, z_v (N.2 i : Nat))]) : W p l e R s m args below meth c H locs cells slots (MQ below (va_Qv (fun (_ : zN) => True) (fun N' t => zAdd i N0 N' ∧ zU X N' (zup g 1 i 2 (g 1 i 2 + 1)) t) (zA X)) args s 1 40 (zA X)) (F0 m 11 ls []) := by
  have hx := hF.1.1
  have hb := hF.1.2.1
  have hK := hF.2.1
  obtain ⟨s1, s2, s3, s4, s5, s6, s7, s8, s9, s10⟩ := id hw.1.2.2.1
  have hE1 : zE N 1 i := hi.elim (fun z => by rw [z]; exact zEf_1_0) (fun z => by rw [z]; exact zEf_1_1)
  have hcap : N.2 (2 + i) ≤ 40 := by rcases hi with rfl | rfl; exact s7; exact s8
  have hgs : g 1 i 2 = (N.2 i : Int) := by rcases hi with rfl | rfl; exact s1; exact s2
  have hE16 : zE N 16 i := zE_iff.mpr ⟨by decide, by omega, by
    have a1 : i < 2 := by omega
    have a2 : N.2 (2 + i) ≠ 0 := by omega
    simp [z_ex, a1, a2]⟩
  obtain ⟨q0, hr0, hq0⟩ := z_place (X := X) (g := g) hE1
  obtain ⟨q6, hr6, hq6⟩ := z_place (X := X) (g := g) hE16
  obtain ⟨q4, hr4, hq4⟩ := z_place (X := X) (g := g) hE4
  rw [z_cell_obj (by omega)] at hq4
  have hin := z_vin (j := ((N.2 i : Nat) : Int)) (n := N.2 (2 + i)) (by omega) ⟨by omega, by omega⟩
  obtain ⟨-, -, -, hcast, -⟩ := id hF.2.2.1
  refine lv_aload_n hx hb dJx4a65c_add_72be8_11 rfl (lv_at hl 0 rfl) ?_
  refine lv_iload_n hx hb dJx4a65c_add_72be8_12 rfl (lv_at hl 3 rfl) ?_
  refine lv_aload_n hx hb dJx4a65c_add_72be8_13 rfl (lv_at hl 2 rfl) ?_
  obtain ⟨r, hcl, hcs⟩ : ∃ r : vw_C, vwCl[z_ci (4 + i)]? = some r ∧ va_Nw (.castable r.1 "java/lang/Object") s := by
    rcases hi with rfl | rfl
    · exact ⟨_, rfl, hcast _ (List.mem_of_getElem? (i := 3) rfl)⟩
    · exact ⟨_, rfl, hcast _ (List.mem_of_getElem? (i := 4) rfl)⟩
  refine va_astqO (E := "java/lang/Object") (n := N.2 (2 + i)) (f := fun j => if j < N.2 i then some (N.1 (4 + i) j) else none) hx hb hK hw.1.1 hw.1.2.1 hw.2.1 q6 3 q4 (z_ci (4 + i)) hq6 rfl hcs hq4 hcl hin.1 dJx4a65c_add_72be8_14 (fun H1 locs1 hP1 hD1 hS1 => ?_)
  have h06 : q6 ≠ q0 := by
    rintro rfl
    cases hr0.symm.trans hr6
  refine lv_aload_n hx hb dJx4a65c_add_72be8_15 rfl (lv_at hl 1 rfl) ?_
  refine lv_iload_n hx hb dJx4a65c_add_72be8_16 rfl (lv_at hl 3 rfl) ?_
  refine lv_iconst hx hb dJx4a65c_add_72be8_17 rfl ?_
  refine zr_iadd hF dJx4a65c_add_72be8_18 ?_
  rw [z_cell_obj (by decide)] at hq0
  have hq0' := (List.getElem?_set_ne h06 (l := z_pool X N g) (a := (N.1 16 i, .inl (X.2.1 3, N.2 (2 + i), .inr (.inr (.inr (.inr (va_up (fun j => if j < N.2 i then some (N.1 (4 + i) j) else none) (Int32.ofInt ((N.2 i : Nat) : Int)).toNatClampNeg (some (N.1 (4 + i) (N.2 i)))))))))) ).trans hq0
  refine va_put (D := X.1) (C := RJx4a65c) (T := TJx4a65c) (N := 3) (ty := .int) (v := z_v (((N.2 i : Nat) : Int) + 1)) hx hb hF.1.2.2.2.2 zC_1.2.1 tyJx4a65c tyJx4a65c_ok nmJx4a65c hF.1.2.2.2.1 hK hP1 hD1 hS1 q0 hq0' rfl 2 (by decide) (hF.1.2.2.2.2 _ qw_58) (fun _ h9 => h9) rfl (by decide +kernel) rfl rfl (Nat.le_of_ble_eq_true rfl) dJx4a65c_add_72be8_19 (fun H2 locs2 hP2 hD2 hS2 => ?_)
  have hfs : (z_obj X N g 1 i).set 2 (z_v (((N.2 i : Nat) : Int) + 1)) = [z_v (g 1 i 0), z_r N 16 i, z_v (g 1 i 2 + 1)] := by
    rw [hgs]
    have hnz : ¬ N.2 (2 + i) = 0 := by omega
    simp [z_obj, hnz]
  have key := z_added (X := X) (N := N) (g := g) hi hw.1.2.1 hlt hr0 hr6 (f := va_up (fun j => if j < N.2 i then some (N.1 (4 + i) j) else none) (Int32.ofInt ((N.2 i : Nat) : Int)).toNatClampNeg (some (N.1 (4 + i) (N.2 i)))) (by
    rw [hin.2]
    funext j
    by_cases c9 : j = N.2 i
    · rw [c9]
      show va_up _ ((N.2 i : Nat) : Int).toNat _ _ = _
      rw [Int.toNat_natCast, va_up_self, if_pos (by omega)]
    · rw [Int.toNat_natCast, va_up_ne _ _ c9]
      by_cases c8 : j < N.2 i
      · rw [if_pos c8, if_pos (by omega)]
      · rw [if_neg c8, if_neg (by omega)])
  rw [hfs] at hP2 hD2
  have hP3 := key ▸ hP2
  have hD3 := key ▸ hD2
  have hsz : zSz (N.1, fun z => if z = i then N.2 i + 1 else N.2 z) (zup g 1 i 2 (g 1 i 2 + 1)) := by
    rcases hi with rfl | rfl
    · have y1 : N.2 0 < N.2 2 := hlt
      have y2 : N.2 0 < N.2 7 := hp
      refine ⟨?_, ?_, ?_, ?_, ?_, ?_, ?_, ?_, ?_, ?_⟩ <;> simp [zup] <;> omega
    · have y1 : N.2 1 < N.2 3 := hlt
      have y2 : N.2 1 < N.2 8 := hp
      refine ⟨?_, ?_, ?_, ?_, ?_, ?_, ?_, ?_, ?_, ?_⟩ <;> simp [zup] <;> omega
  have hw3 : zH X (N.1, fun z => if z = i then N.2 i + 1 else N.2 z) (zup g 1 i 2 (g 1 i 2 + 1)) s H2 locs2 := zH_step hw hP3 hD3 hsz hS2
  refine W.widen (k := 1) (n := 40) hc.1 hc.2 ?_
  refine W.vret hx hb hr (fun t ht hW => ⟨⟨(N.1, fun z => if z = i then N.2 i + 1 else N.2 z), rfl, trivial, ⟨h1, fun q hq hq2 => ?_, ?_, fun z9 => ?_, fun z9 => ?_⟩, by rw [ht]; exact hw3.1, va_K.moved hW.alike hF.2.1, zS_pass hF.2.2.1 hw3.2.1 hW ht⟩, hw3.2.1.F ht⟩) hw3.2.1.2.2 dJx4a65c_add_72be8_22 hF.2.2.2
  · show (if q = i then N.2 i + 1 else N.2 q) = N0.2 q
    rw [if_neg hq]
    exact h2 q hq2
  · show (if i = i then N.2 i + 1 else N.2 i) = N0.2 i + 1
    rw [if_pos rfl, h2 i (by omega)]
  · show (if 2 + i = i then N.2 i + 1 else N.2 (2 + i)) = 10
    rw [if_neg (by omega)]
    exact h3.1 z9
  · show (if 2 + i = i then N.2 i + 1 else N.2 (2 + i)) = N0.2 (2 + i)
    rw [if_neg (by omega)]
    exact h3.2 z9
set_option maxHeartbeats 4000000 in
set_option maxRecDepth 100000 in
theorem c_add3 (l : Launch) (X : zC) (N : zN) {g : zG} {i : Nat} (hi : i = 0 ∨ i = 1) (hE4 : zE N (4 + i) (N.2 i)) (hp : N.2 i < N.2 (7 + i)) (hle : N.2 i ≤ 24) (h1 : i = 0 ∨ N.2 (2 + i) = 0 ∨ N.2 i < N.2 (2 + i)) : Met l yJx4a65c_add_72be8 (zws yJx4a65c_add_72be8 cJx4a65c_add_72be8 4 none) { frames := 5, cells := 1, slots := 40, locals := 140 } (va_Pc [z_r N 1 i, z_r N (4 + i) (N.2 i), (if N.2 (2 + i) = 0 then .ref X.2.2.2 else z_r N 16 i), z_v (N.2 i : Nat)] (fun U => zU X N g U)) (va_Qv (fun (_ : zN) => True) (fun N' t => zAdd i N N' ∧ zU X N' (zup g 1 i 2 (g 1 i 2 + 1)) t) (zA X)) 1 40 (zA X) := by
  refine Met.ofW (cc := cJx4a65c_add_72be8) (maxL := 4) (ret := none) (by decide +kernel) rfl ?_
  intro p e s m args below meth c s₁ B hml hv
  obtain ⟨ed, hed⟩ : ∃ ed : Nat, (if N.2 (2 + i) = 0 then .ref X.2.2.2 else z_r N 16 i : Value) = .ref ed := by
    by_cases c9 : N.2 (2 + i) = 0
    · exact ⟨_, if_pos c9⟩
    · exact ⟨_, if_neg c9⟩
  rw [hed] at hv
  obtain ⟨rfl, hWd, hK, hS⟩ := hv
  have hts : ∀ w ∈ lw_G, w.before [z_r N 1 i, z_r N (4 + i) (N.2 i), .ref ed, z_v (N.2 i : Nat)].toArray s = true := fun w hw => atoms_spec (ws := zws yJx4a65c_add_72be8 cJx4a65c_add_72be8 4 none) B.pre w (List.mem_cons_of_mem _ hw)
  have hown : s.vm.findClass RJx4a65c = some m.cls := findClass_of_methodNamed B.named
  have hl := lv_entry [z_r N 1 i, z_r N (4 + i) (N.2 i), .ref ed, z_v (N.2 i : Nat)] (n := 4) (Nat.le_of_ble_eq_true rfl)
  rw [lg_entry_eq]
  generalize (lg_sl ([z_r N 1 i, z_r N (4 + i) (N.2 i), .ref ed, z_v (N.2 i : Nat)]) ++ List.replicate (4 - (lg_sl ([z_r N 1 i, z_r N (4 + i) (N.2 i), .ref ed, z_v (N.2 i : Nat)])).length) Slot.unset).toArray = ls at hl ⊢
  have hF : zF p s m [z_r N 1 i, z_r N (4 + i) (N.2 i), .ref ed, z_v (N.2 i : Nat)].toArray meth c X cJx4a65c_add_72be8 4 RJx4a65c := ⟨⟨B.exec, B.bytes, hml, hown, hts⟩, hK, hS, B.notSynchronized⟩
  have hr := B.returns
  have hw : zH X N g s s.heap [] := ⟨hWd, va_S.rf, hWd.2.2.2.2.1⟩
  have hl : lv_has ls 4 [(0, z_r N 1 i), (1, z_r N (4 + i) (N.2 i)), (2, .ref ed), (3, z_v (N.2 i : Nat))] := hl
  have hx := hF.1.1
  have hb := hF.1.2.1
  have hE1 : zE N 1 i := hi.elim (fun z => by rw [z]; exact zEf_1_0) (fun z => by rw [z]; exact zEf_1_1)
  obtain ⟨s1, s2, s3, s4, s5, s6, s7, s8, s9, s10⟩ := id hWd.2.2.1
  have hcap : N.2 i ≤ N.2 (2 + i) ∧ N.2 (2 + i) ≤ 40 := by
    rcases hi with rfl | rfl
    · exact ⟨s5, s7⟩
    · exact ⟨s6, s8⟩
  refine lv_iload_n hx hb dJx4a65c_add_72be8_0 rfl (lv_at hl 3 rfl) ?_
  refine lv_aload_n hx hb dJx4a65c_add_72be8_1 rfl (lv_at hl 2 rfl) ?_
  have hlen : ∃ cell : Cell, s.heap[ed]? = some cell ∧ s.isArrayOf cell (.object "java/lang/Object") ∧ cell.slots.size.toInt32 = Int32.ofInt (N.2 (2 + i) : Nat) := by
    by_cases c9 : N.2 (2 + i) = 0
    · rw [if_pos c9] at hed
      cases hed
      rw [c9]
      exact z_emlen hK hWd.2.2.2.2.2
    · rw [if_neg c9] at hed
      cases hed
      have hE16 : zE N 16 i := zE_iff.mpr ⟨by decide, by omega, by
        have a1 : i < 2 := by omega
        simp [z_ex, a1, c9]⟩
      obtain ⟨q6, -, hq6⟩ := z_place (X := X) (g := g) hE16
      exact ⟨_, hWd.1 q6 _ hq6, (hK.2 3 (X.2.1 3, .object "java/lang/Object") rfl).1 (N.2 (2 + i)) (fun j => va_rf ((fun j => if j < N.2 i then some (N.1 (4 + i) j) else none) j)), by rw [vp_cell_q, arrV_size]; rfl⟩
  obtain ⟨ecell, ec1, ec2, ec3⟩ := hlen
  refine z_alen hx hb ec1 ec2 ec3 dJx4a65c_add_72be8_2 ?_
  by_cases hfull : N.2 i = N.2 (2 + i)
  · refine zr_icmp_ne (tgt := 11) (x := ((N.2 i : Nat) : Int)) (y := ((N.2 (2 + i) : Nat) : Int)) (A := some ()) (B := none) (o := ()) hF (by unfold zeq; rw [if_pos ⟨⟨by omega, by omega⟩, ⟨by omega, by omega⟩⟩, if_pos (by omega)]) dJx4a65c_add_72be8_3 (by decide) (fun h => nomatch h) (fun _ => ?_)
    refine lv_aload_n hx hb dJx4a65c_add_72be8_6 rfl (lv_at hl 0 rfl) ?_
    have h1' : i = 0 ∨ N.2 (2 + i) = 0 := by omega
    refine va_callr (va_runV (As := []) (rest := []) hF.1 (c_grow0 l X N hi hfull hle h1') (cwV 0 hF.1.2.2.2.2 (z_goodV qw_521 qw_523 qw_8 qw_18 qw_524) rfl rfl rfl (by decide +kernel) ⟨Nat.le_of_ble_eq_true rfl, Nat.le_of_ble_eq_true rfl⟩) ⟨zU_blind, z_recv hF hw hE1 (by decide) zC_1, z_pre hF hw⟩ rfl rfl hl.1 rfl (lv_room (Nat.le_of_ble_eq_true rfl)) dJx4a65c_add_72be8_7 ⟨Nat.le_of_ble_eq_true rfl, Nat.le_of_ble_eq_true rfl⟩) hw.2.1 (fun q _ h => h) (fun q h => h) (fun N1 ra t H1 locs1 ht hvm hp9 hB hz1 hk1 hS1 => ?_)
    obtain ⟨⟨⟨k1, k2, k3, k4, k5⟩, rfl⟩, hU⟩ := hB
    have hw2 : zH X N1 g s H1 locs1 := zH_back hw ht hU hS1
    refine lv_astore_n (lv' := [(2, z_r N1 16 i), (0, z_r N 1 i), (1, z_r N (4 + i) (N.2 i)), (3, z_v (N.2 i : Nat))]) hx hb dJx4a65c_add_72be8_10 rfl hl (by decide) rfl (fun ls hl => ?_)
    have e0 : N.2 i = N1.2 i := (k2 i (by omega)).symm
    have ez1 : z_r N 1 i = z_r N1 1 i := by show Value.ref _ = Value.ref _; rw [k1 1 i (by omega)]
    have ez2 : z_r N (4 + i) (N.2 i) = z_r N1 (4 + i) (N.2 i) := by show Value.ref _ = Value.ref _; rw [k1 (4 + i) _ (by omega)]
    rw [ez1, ez2, e0] at hl
    refine w_add_tail hF hr hw2 hi ?_ (by rw [← e0]; exact k3) (by rw [← e0, k2 (7 + i) (by omega)]; exact hp) k1 k2 ⟨k5, fun z9 => absurd z9 (by omega)⟩ ⟨Nat.le_of_ble_eq_true rfl, Nat.le_of_ble_eq_true rfl⟩ hl
    rw [← e0]
    obtain ⟨a1, a2, a3⟩ := zE_iff.mp hE4
    refine zE_iff.mpr ⟨a1, a2, ?_⟩
    rw [← a3]
    have e7 := k2 7 (by omega)
    have e8 := k2 8 (by omega)
    rcases hi with rfl | rfl
    · simp [z_ex, e7]
    · simp [z_ex, e8]
  · refine zr_icmp_ne (tgt := 11) (x := ((N.2 i : Nat) : Int)) (y := ((N.2 (2 + i) : Nat) : Int)) (A := none) (B := some ()) (o := ()) hF (by unfold zeq; rw [if_pos ⟨⟨by omega, by omega⟩, ⟨by omega, by omega⟩⟩, if_neg (by omega)]) dJx4a65c_add_72be8_3 (by decide) (fun _ => ?_) (fun h => nomatch h)
    rw [if_neg (by omega)] at hed
    cases hed
    exact w_add_tail hF hr hw hi hE4 (by omega) hp (fun _ _ _ => rfl) (fun _ _ => rfl) ⟨fun z9 => absurd z9 (by omega), fun _ => rfl⟩ ⟨Nat.le_of_ble_eq_true rfl, Nat.le_of_ble_eq_true rfl⟩ (lv_sub hl [2, 0, 1, 3] rfl)
def zaddG (g : zG) (i : Nat) : zG := zup (zup g 1 i 0 (g 1 i 0 + 1)) 1 i 2 (g 1 i 2 + 1)
set_option maxHeartbeats 4000000 in
set_option maxRecDepth 100000 in
theorem c_add (l : Launch) (X : zC) (N : zN) {g : zG} {i : Nat} (hi : i = 0 ∨ i = 1) (hE4 : zE N (4 + i) (N.2 i)) (hp : N.2 i < N.2 (7 + i)) (hle : N.2 i ≤ 24) (h1 : i = 0 ∨ N.2 (2 + i) = 0 ∨ N.2 i < N.2 (2 + i)) : Met l yJx4a65c_add_9ea2d (zws yJx4a65c_add_9ea2d cJx4a65c_add_9ea2d 2 (some .boolean)) { frames := 6, cells := 1, slots := 40, locals := 165 } (va_Pc [z_r N 1 i, z_r N (4 + i) (N.2 i)] (fun U => zU X N g U)) (va_Qi (fun (r : Int32) (_ : zN) => r = Int32.ofInt 1) (fun N' t => zAdd i N N' ∧ zU X N' (zaddG g i) t) (zA X)) 1 40 (zA X) := by
  refine Met.ofW (cc := cJx4a65c_add_9ea2d) (maxL := 2) (ret := (some .boolean)) (by decide +kernel) rfl ?_
  intro p e s m args below meth c s₁ B hml hv
  obtain ⟨rfl, hWd, hK, hS⟩ := hv
  have hts : ∀ w ∈ lw_G, w.before [z_r N 1 i, z_r N (4 + i) (N.2 i)].toArray s = true := fun w hw => atoms_spec (ws := zws yJx4a65c_add_9ea2d cJx4a65c_add_9ea2d 2 (some .boolean)) B.pre w (List.mem_cons_of_mem _ hw)
  have hown : s.vm.findClass RJx4a65c = some m.cls := findClass_of_methodNamed B.named
  have hl := lv_entry [z_r N 1 i, z_r N (4 + i) (N.2 i)] (n := 2) (Nat.le_of_ble_eq_true rfl)
  rw [lg_entry_eq]
  generalize (lg_sl ([z_r N 1 i, z_r N (4 + i) (N.2 i)]) ++ List.replicate (2 - (lg_sl ([z_r N 1 i, z_r N (4 + i) (N.2 i)])).length) Slot.unset).toArray = ls at hl ⊢
  have hF : zF p s m [z_r N 1 i, z_r N (4 + i) (N.2 i)].toArray meth c X cJx4a65c_add_9ea2d 2 RJx4a65c := ⟨⟨B.exec, B.bytes, hml, hown, hts⟩, hK, hS, B.notSynchronized⟩
  have hr := B.returns
  have hw : zH X N g s s.heap [] := ⟨hWd, va_S.rf, hWd.2.2.2.2.1⟩
  have hl : lv_has ls 2 [(0, z_r N 1 i), (1, z_r N (4 + i) (N.2 i))] := hl
  have hx := hF.1.1
  have hb := hF.1.2.1
  have hE1 : zE N 1 i := hi.elim (fun z => by rw [z]; exact zEf_1_0) (fun z => by rw [z]; exact zEf_1_1)
  have hgs : g 1 i 2 = (N.2 i : Int) := by
    obtain ⟨s1, s2, -⟩ := hWd.2.2.1
    rcases hi with rfl | rfl
    · exact s1
    · exact s2
  have hsame : ∀ x, s.fieldFound? "java/util/AbstractList" "modCount" "I" = some x → s.fieldFound? "java/util/ArrayList" "modCount" "I" = some x := fun x hx9 => u_same (args := [z_r N 1 i, z_r N (4 + i) (N.2 i)].toArray) (hts _ qw_61) x hx9
  obtain ⟨q0, hr0, hq0⟩ := z_place (X := X) (g := g) hE1
  rw [z_cell_obj (by decide)] at hq0
  refine lv_aload_n hx hb dJx4a65c_add_9ea2d_0 rfl (lv_at hl 0 rfl) ?_
  refine lv_dup hx hb dJx4a65c_add_9ea2d_1 rfl ?_
  refine va_get (D := X.1) (C := RJx4a65c) (T := TJx4a65c) (N := 3) (v := z_v (g 1 i 0)) hx hb hts zC_1.2.1 hown hK hw.1.1 q0 hq0 rfl 0 (by decide) (hts _ qw_60) hsame rfl dJx4a65c_add_9ea2d_2 ?_
  refine lv_iconst hx hb dJx4a65c_add_9ea2d_5 rfl ?_
  refine zr_iadd hF dJx4a65c_add_9ea2d_6 ?_
  refine va_put (D := X.1) (C := RJx4a65c) (T := TJx4a65c) (N := 3) (ty := .int) (v := z_v (g 1 i 0 + 1)) hx hb hts zC_1.2.1 tyJx4a65c tyJx4a65c_ok nmJx4a65c hown hK hw.1.1 hw.1.2.1 hw.2.1 q0 hq0 rfl 0 (by decide) (hts _ qw_60) hsame rfl (by decide +kernel) rfl rfl (Nat.le_of_ble_eq_true rfl) dJx4a65c_add_9ea2d_7 (fun H1 locs1 hP hD hS1 => ?_)
  have hps := z_pool_set (g' := zup g 1 i 0 (g 1 i 0 + 1)) (e := .inr (0, (z_obj X N g 1 i).set 0 (z_v (g 1 i 0 + 1)))) hw.1.2.1 hr0 (by rw [z_cell_obj (by decide), (z_obj_set (k := 1) (f := 0) (by decide)).1]; rfl) (fun k' i' hn => z_cell_congr (fun p' => zup_other hn))
  have hP3 := hps ▸ hP
  have hD3 := hps ▸ hD
  have hw1 : zH X N (zup g 1 i 0 (g 1 i 0 + 1)) s H1 locs1 := zH_step hw hP3 hD3 (zSz_up hWd.2.2.1 (fun z => absurd z.2 (by decide))) hS1
  have hgs1 : zup g 1 i 0 (g 1 i 0 + 1) 1 i 2 = g 1 i 2 := zup_place (by decide)
  refine lv_aload_n hx hb dJx4a65c_add_9ea2d_10 rfl (lv_at hl 0 rfl) ?_
  refine lv_aload_n hx hb dJx4a65c_add_9ea2d_11 rfl (lv_at hl 1 rfl) ?_
  refine lv_aload_n hx hb dJx4a65c_add_9ea2d_12 rfl (lv_at hl 0 rfl) ?_
  refine zr_get hF hw1 hE1 (by decide) zC_1 1 (by decide) qw_57 rfl dJx4a65c_add_9ea2d_13 ?_
  refine lv_aload_n hx hb dJx4a65c_add_9ea2d_16 rfl (lv_at hl 0 rfl) ?_
  refine zr_get hF hw1 hE1 (by decide) zC_1 2 (by decide) qw_58 rfl dJx4a65c_add_9ea2d_17 ?_
  rw [hgs1, hgs]
  refine va_callv (va_runV (As := [z_r N (4 + i) (N.2 i), (if N.2 (2 + i) = 0 then .ref X.2.2.2 else z_r N 16 i), z_v (N.2 i : Nat)]) (rest := []) hF.1 (c_add3 l X N (g := zup g 1 i 0 (g 1 i 0 + 1)) hi hE4 hp hle h1) (cwV 3 hF.1.2.2.2.2 (z_goodV qw_517 qw_519 qw_7 qw_18 qw_520) rfl rfl rfl (by decide +kernel) ⟨Nat.le_of_ble_eq_true rfl, Nat.le_of_ble_eq_true rfl⟩) ⟨zU_blind, z_recv hF hw1 hE1 (by decide) zC_1, z_pre hF hw1⟩ rfl rfl hl.1 rfl (lv_room (Nat.le_of_ble_eq_true rfl)) dJx4a65c_add_9ea2d_20 ⟨Nat.le_of_ble_eq_true rfl, Nat.le_of_ble_eq_true rfl⟩) hw1.2.1 (fun q _ h => h) (fun q h => h) (fun N1 t H2 locs2 ht hvm hp9 hB hz1 hk1 hS2 => ?_)
  have hw2 := zH_back hw1 ht hB.2 hS2
  rw [hgs1] at hw2
  refine lv_iconst hx hb dJx4a65c_add_9ea2d_23 rfl ?_
  exact W.zret (v := Int32.ofInt 1) hx hb hr (by decide) (fun t9 ht9 hW => ⟨⟨Int32.ofInt 1, N1, rfl, rfl, hB.1, by rw [ht9]; exact hw2.1, va_K.moved hW.alike hF.2.1, zS_pass hF.2.2.1 hw2.2.1 hW ht9⟩, hw2.2.1.F ht9⟩) hw2.2.1.2.2 dJx4a65c_add_9ea2d_24 hF.2.2.2

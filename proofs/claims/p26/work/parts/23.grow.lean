theorem z_shr1 {n : Nat} (h : n ≤ 40) : Int32.ofInt (n : Int) >>> ((Int32.ofInt 1) &&& 31) = Int32.ofInt ((n / 2 : Nat) : Int) := by
  have e1 : ∀ k : Nat, Int32.ofInt (k : Int) = nI k := fun k => by
    show Int32.ofInt (k : Int) = Int32.ofNat k
    rfl
  rw [e1, e1]
  have k := pk_shrN (n := n) (by omega) ((1 : Int32) &&& 31) 1 (by decide)
  rw [Nat.pow_one] at k
  exact k
/-- the length of the JDK's empty row -/
theorem z_emlen {X : zC} {s : State} {H : Heap} (hK : va_K X.1 vwCl (z_tys X) s) (h : zEm X H) : ∃ cell : Cell, H[X.2.2.2]? = some cell ∧ s.isArrayOf cell (.object "java/lang/Object") ∧ cell.slots.size.toInt32 = Int32.ofInt 0 := by
  obtain ⟨cell, h1, h2, h3, h4⟩ := h
  refine ⟨cell, h1, ⟨h4, ?_⟩, by rw [h2]; rfl⟩
  obtain ⟨-, k, hk, comp, hkind⟩ := (hK.2 3 (X.2.1 3, .object "java/lang/Object") rfl).1 0 (fun _ => .null)
  exact ⟨k, by rw [h3]; exact hk, comp, hkind⟩
theorem z_alen {p : Program} {l : Launch} {e : Env} {R : Room} {s : State} {m : MethodId} {args : Array Value} {below : List Frame} {meth : Method} {c : Code} {H : Heap} {locs : List Loc} {cells slots : Nat} {Q : State → Prop} {cc : ByteArray} {pc : Nat} {ls : Array Slot} {rest : List Value} (hexec : p.tables.exec = Jvm.exec) (hb : c.code = cc) {a : Nat} {cell : Cell} {ty : FieldType} (h1 : H[a]? = some cell) (h2 : s.isArrayOf cell ty) {v : Int32} (h3 : cell.slots.size.toInt32 = v) (hdg : decode cc pc = .ok (.arraylength, 1))
    (kk : W p l e R s m args below meth c H locs cells slots Q (F0 m (pc + 1) ls (.int v :: rest))) : W p l e R s m args below meth c H locs cells slots Q (F0 m pc ls (.ref a :: rest)) := W.alen (n := v) hexec hb h1 h2 h3 rfl rfl hdg kk
set_option maxHeartbeats 4000000 in
set_option maxRecDepth 100000 in
theorem c_growI (l : Launch) (X : zC) (N : zN) {g : zG} {i : Nat} (hi : i = 0 ∨ i = 1) (hf : N.2 i = N.2 (2 + i)) (hle : N.2 i ≤ 24) (h1 : i = 0 ∨ N.2 (2 + i) = 0) : Met l yJx4a65c_grow_92f84 (zws yJx4a65c_grow_92f84 cJx4a65c_grow_92f84 4 (some (.array (.object "java/lang/Object")))) { frames := 3, cells := 1, slots := 40, locals := 90 } (va_Pc [z_r N 1 i, z_v ((N.2 i : Int) + 1)] (fun U => zU X N g U)) (va_Qr (fun (_ : zN) => True) (fun N' a t => (zGrow i N N' ∧ a = N'.1 16 i) ∧ zU X N' g t) (zA X)) 1 40 (zA X) := by
  refine Met.ofW (cc := cJx4a65c_grow_92f84) (maxL := 4) (ret := (some (.array (.object "java/lang/Object")))) (by decide +kernel) rfl ?_
  intro p e s m args below meth c s₁ B hml hv
  obtain ⟨rfl, hWd, hK, hS⟩ := hv
  have hts : ∀ w ∈ lw_G, w.before [z_r N 1 i, z_v ((N.2 i : Int) + 1)].toArray s = true := fun w hw => atoms_spec (ws := zws yJx4a65c_grow_92f84 cJx4a65c_grow_92f84 4 (some (.array (.object "java/lang/Object")))) B.pre w (List.mem_cons_of_mem _ hw)
  have hown : s.vm.findClass RJx4a65c = some m.cls := findClass_of_methodNamed B.named
  have hl := lv_entry [z_r N 1 i, z_v ((N.2 i : Int) + 1)] (n := 4) (Nat.le_of_ble_eq_true rfl)
  rw [lg_entry_eq]
  generalize (lg_sl ([z_r N 1 i, z_v ((N.2 i : Int) + 1)]) ++ List.replicate (4 - (lg_sl ([z_r N 1 i, z_v ((N.2 i : Int) + 1)])).length) Slot.unset).toArray = ls at hl ⊢
  have hF : zF p s m [z_r N 1 i, z_v ((N.2 i : Int) + 1)].toArray meth c X cJx4a65c_grow_92f84 4 RJx4a65c := ⟨⟨B.exec, B.bytes, hml, hown, hts⟩, hK, hS, B.notSynchronized⟩
  have hr := B.returns
  have hw : zH X N g s s.heap [] := ⟨hWd, va_S.rf, hWd.2.2.2.2.1⟩
  have hl : lv_has ls 4 [(0, z_r N 1 i), (1, z_v ((N.2 i : Int) + 1))] := hl
  have hx := hF.1.1
  have hb := hF.1.2.1
  have hsz := hWd.2.2.1
  obtain ⟨s1, s2, s3, s4, s5, s6, s7, s8, s9, s10⟩ := id hsz
  have hA0 : ∀ q, s.heap.size ≤ q → zA X q := fun q h => Nat.le_trans hw.2.2 h
  obtain ⟨-, -, hZ, -, -, -, -, -, hAO, -⟩ := id hS
  have hE1 : zE N 1 i := hi.elim (fun z => by rw [z]; exact zEf_1_0) (fun z => by rw [z]; exact zEf_1_1)
  obtain ⟨q0, hq1, hq⟩ := z_place (X := X) (g := g) hE1
  have hi2 : i < 2 := by omega
  by_cases hz0 : N.2 (2 + i) = 0
  · -- the first of all
    have hn0 : N.2 i = 0 := by omega
    have hed : (z_obj X N g 1 i)[1]? = some (.ref X.2.2.2) := by simp [z_obj, hz0]
    refine lv_aload_n hx hb dJx4a65c_grow_92f84_0 rfl (lv_at hl 0 rfl) ?_
    refine zr_get hF hw hE1 (by decide) zC_1 1 (by decide) qw_57 hed dJx4a65c_grow_92f84_1 ?_
    obtain ⟨ecell, ec1, ec2, ec3⟩ := z_emlen hK hWd.2.2.2.2.2
    refine z_alen hx hb ec1 ec2 ec3 dJx4a65c_grow_92f84_4 ?_
    refine lv_istore_n (lv' := [(2, z_v 0), (0, z_r N 1 i), (1, z_v ((N.2 i : Int) + 1))]) hx hb dJx4a65c_grow_92f84_5 rfl hl (by decide) rfl (fun ls hl => ?_)
    refine lv_iload_n hx hb dJx4a65c_grow_92f84_6 rfl (lv_at hl 0 rfl) ?_
    refine zr_if_gt (tgt := 20) (x := 0) (A := some ()) (B := none) (o := ()) hF (by decide) dJx4a65c_grow_92f84_7 (by decide) (fun h => nomatch h) (fun _ => ?_)
    refine lv_aload_n hx hb dJx4a65c_grow_92f84_10 rfl (lv_at hl 1 rfl) ?_
    refine zr_get hF hw hE1 (by decide) zC_1 1 (by decide) qw_57 hed dJx4a65c_grow_92f84_11 ?_
    refine va_gets (C := "java/util/ArrayList") (n := "DEFAULTCAPACITY_EMPTY_ELEMENTDATA") (d := "[Ljava/lang/Object;") hx hb hZ hw.2.1 hown (hF.1.2.2.2.2 _ qw_55) (fun _ h9 => h9) dJx4a65c_grow_92f84_14 ?_
    refine lv_acmp_eq (tgt := 45) (rx := some X.2.2.2) (ry := some X.2.2.2) hx hb dJx4a65c_grow_92f84_17 (by decide) (fun _ => ?_) (fun z => absurd rfl z)
    refine lv_aload_n hx hb dJx4a65c_grow_92f84_45 rfl (lv_at hl 1 rfl) ?_
    refine lv_bipush (v := Int32.ofInt 10) hx hb dJx4a65c_grow_92f84_46 (by decide) ?_
    refine lv_iload_n hx hb dJx4a65c_grow_92f84_48 rfl (lv_at hl 2 rfl) ?_
    refine zr_max hF hl.1 qw_563 (z_fit (P := True) (x := 10) (y := (N.2 i : Int) + 1) (by decide) ⟨by omega, by omega⟩) dJx4a65c_grow_92f84_49 ⟨Nat.le_of_ble_eq_true rfl, Nat.le_of_ble_eq_true rfl⟩ (Nat.le_of_ble_eq_true rfl) ⟨Nat.le_of_ble_eq_true rfl, Nat.le_of_ble_eq_true rfl⟩ (fun _ => ?_)
    rw [show max (10 : Int) ((N.2 i : Int) + 1) = 10 from by omega]
    refine va_newq (N' := 10) hx hb hown (hF.1.2.2.2.2 _ qw_564) hAO hK hw.1.1 hw.1.2.1 hw.2.1 hA0 (by decide) (by decide) (by decide) (Nat.le_of_ble_eq_true rfl) (Nat.le_of_ble_eq_true rfl) dJx4a65c_grow_92f84_52 (fun q cA H1 hK1 hP1 hD1 hS1 => ?_)
    have hcA := z_cyO hK hK1
    subst hcA
    obtain ⟨u1, u2, u3, u4, u5⟩ := z_unpush hP1 hD1
    refine lv_dup_x1 hx hb dJx4a65c_grow_92f84_55 rfl rfl ?_
    have hcont : (fun _ => none : Nat → Option Nat) = (fun j => if j < N.2 i then some (N.1 (4 + i) j) else none) := by
      funext j
      rw [hn0, if_neg (by omega)]
    rw [hcont] at hP1 hD1
    have hq9 : (z_pool X N g ++ [(q, .inl (X.2.1 3, 10, .inr (.inr (.inr (.inr (fun j => if j < N.2 i then some (N.1 (4 + i) j) else none))))))] : va_W)[q0]? = some (N.1 1 i, .inr (0, z_obj X N g 1 i)) := by
      rw [List.getElem?_append_left (List.getElem?_eq_some_iff.mp hq).1]
      exact hq
    refine va_put (D := X.1) (C := RJx4a65c) (T := TJx4a65c) (N := 3) (ty := .array (.object "java/lang/Object")) (v := .ref q) hx hb hts zC_1.2.1 tyJx4a65c tyJx4a65c_ok nmJx4a65c hown hK hP1 hD1 hS1 q0 hq9 rfl 1 (by decide) (hF.1.2.2.2.2 _ qw_57) (fun _ h9 => h9) rfl (by decide +kernel) rfl rfl (Nat.le_of_ble_eq_true rfl) dJx4a65c_grow_92f84_56 (fun H2 locs2 hP2 hD2 hS2 => ?_)
    obtain ⟨N', k1, k2, k3⟩ := z_regrow2 (H0 := s.heap) (locs0 := []) hi hw hq1 ⟨by omega, by omega⟩ (fun _ => rfl) (fun j x hj => u5 j x hj) u4 hP2 hS2
    refine W.widen (k := 1) (n := 40) (Nat.le_of_ble_eq_true rfl) (Nat.le_of_ble_eq_true rfl) ?_
    exact W.aret (v := .ref q) hx hb hr (Or.inr ⟨_, rfl⟩) (Or.inr ⟨_, rfl⟩) (fun t9 ht9 hW => ⟨⟨N', q, rfl, trivial, ⟨k1, k2.symm⟩, by rw [ht9]; exact k3.1, va_K.moved hW.alike hF.2.1, zS_pass hF.2.2.1 k3.2.1 hW ht9⟩, k3.2.1.F ht9⟩) k3.2.1.2.2 dJx4a65c_grow_92f84_59 hF.2.2.2
  · -- a larger row
    have hi0 : i = 0 := h1.resolve_right hz0
    subst hi0
    have hz0 : ¬ N.2 2 = 0 := hz0
    have hf : N.2 0 = N.2 2 := hf
    have hE16 : zE N 16 0 := zE_iff.mpr ⟨by decide, by decide, by simp [z_ex, hz0]⟩
    have hed : (z_obj X N g 1 0)[1]? = some (z_r N 16 0) := by simp [z_obj, hz0]
    obtain ⟨q6, -, hq6⟩ := z_place (X := X) (g := g) hE16
    refine lv_aload_n hx hb dJx4a65c_grow_92f84_0 rfl (lv_at hl 0 rfl) ?_
    refine zr_get hF hw hE1 (by decide) zC_1 1 (by decide) qw_57 hed dJx4a65c_grow_92f84_1 ?_
    refine va_alen (x := (N.2 2, .inr (.inr (.inr (.inr (fun j => if j < N.2 0 then some (N.1 4 j) else none)))))) (ty := .object "java/lang/Object") (v := Int32.ofInt (N.2 2 : Nat)) hx hb hK hw.1.1 q6 3 hq6 rfl rfl dJx4a65c_grow_92f84_4 ?_
    refine lv_istore_n (lv' := [(2, z_v (N.2 2 : Nat)), (0, z_r N 1 0), (1, z_v ((N.2 0 : Int) + 1))]) hx hb dJx4a65c_grow_92f84_5 rfl hl (by decide) rfl (fun ls hl => ?_)
    refine lv_iload_n hx hb dJx4a65c_grow_92f84_6 rfl (lv_at hl 0 rfl) ?_
    refine zr_if_gt (tgt := 20) (x := ((N.2 2 : Nat) : Int)) (A := none) (B := some ()) (o := ()) hF (by unfold zle; rw [if_pos ⟨⟨by omega, by omega⟩, by decide⟩, if_neg (by omega)]) dJx4a65c_grow_92f84_7 (by decide) (fun _ => ?_) (fun h => nomatch h)
    refine lv_iload_n hx hb dJx4a65c_grow_92f84_20 rfl (lv_at hl 0 rfl) ?_
    refine lv_iload_n hx hb dJx4a65c_grow_92f84_21 rfl (lv_at hl 2 rfl) ?_
    refine lv_iload_n hx hb dJx4a65c_grow_92f84_22 rfl (lv_at hl 0 rfl) ?_
    refine zr_isub hF dJx4a65c_grow_92f84_23 ?_
    rw [show (N.2 0 : Int) + 1 - ((N.2 2 : Nat) : Int) = 1 from by omega]
    refine lv_iload_n hx hb dJx4a65c_grow_92f84_24 rfl (lv_at hl 0 rfl) ?_
    refine lv_iconst hx hb dJx4a65c_grow_92f84_25 rfl ?_
    refine lv_ishr hx hb dJx4a65c_grow_92f84_26 ?_
    rw [z_shr1 (by omega)]
    refine zr_callSi (n := 3) (As := [z_v (N.2 2 : Nat), z_v 1, z_v ((N.2 2 / 2 : Nat) : Int)]) (rest := []) hF hw (c_newLen l X N ⟨by omega, by omega⟩ ⟨by omega, by omega⟩ ⟨by omega, by omega⟩) (z_goodS qw_529 qw_530 qw_31 qw_531) (by decide +kernel) ⟨Nat.le_of_ble_eq_true rfl, Nat.le_of_ble_eq_true rfl⟩ ⟨rfl, rfl⟩ rfl hl.1 rfl (Nat.le_of_ble_eq_true rfl) dJx4a65c_grow_92f84_27 ⟨Nat.le_of_ble_eq_true rfl, Nat.le_of_ble_eq_true rfl⟩ (fun H locs hw => ?_)
    obtain ⟨n, hn⟩ : ∃ n : Nat, ((N.2 2 : Nat) : Int) + max 1 ((N.2 2 / 2 : Nat) : Int) = (n : Int) := ⟨N.2 2 + max 1 (N.2 2 / 2), by omega⟩
    rw [hn]
    have hn2 : N.2 2 < n ∧ n ≤ 40 := by omega
    refine lv_istore_n (lv' := [(3, z_v n), (2, z_v (N.2 2 : Nat)), (0, z_r N 1 0), (1, z_v ((N.2 0 : Int) + 1))]) hx hb dJx4a65c_grow_92f84_30 rfl hl (by decide) rfl (fun ls hl => ?_)
    refine lv_aload_n hx hb dJx4a65c_grow_92f84_31 rfl (lv_at hl 2 rfl) ?_
    refine lv_aload_n hx hb dJx4a65c_grow_92f84_32 rfl (lv_at hl 2 rfl) ?_
    refine zr_get hF hw hE1 (by decide) zC_1 1 (by decide) qw_57 hed dJx4a65c_grow_92f84_33 ?_
    refine lv_iload_n hx hb dJx4a65c_grow_92f84_36 rfl (lv_at hl 0 rfl) ?_
    refine va_callr (va_runS (As := [z_r N 16 0, z_v n]) (rest := [z_r N 1 0]) hF.1 (c_copy2 l X N hE16 ⟨by omega, hn2.2⟩) (va_cwS 2 hF.1.2.2.2.2 (z_goodS qw_537 qw_538 qw_32 qw_539) rfl rfl rfl (by decide +kernel) ⟨Nat.le_of_ble_eq_true rfl, Nat.le_of_ble_eq_true rfl⟩) ⟨zU_blind, z_pre hF hw⟩ rfl rfl hl.1 rfl (lv_room (Nat.le_of_ble_eq_true rfl)) dJx4a65c_grow_92f84_37 ⟨Nat.le_of_ble_eq_true rfl, Nat.le_of_ble_eq_true rfl⟩) hw.2.1 (fun q _ h => h) (fun q h => h) (fun u ra t H1 locs1 ht hvm hp hB hz1 hk1 hS1 => ?_)
    have hw2 : zH X N g s H1 locs1 := zH_back hw ht hB.2 hS1
    refine lv_dup_x1 hx hb dJx4a65c_grow_92f84_40 rfl rfl ?_
    obtain ⟨⟨v1, v2, v3⟩, -⟩ := hB
    rw [ht] at v1
    have hne : ∀ (j : Nat) (x : Nat × va_E), (z_pool X N g)[j]? = some x → x.1 ≠ ra := by
      intro j x hj e9
      unfold z_pool at hj
      rw [List.getElem?_map] at hj
      cases hr9 : (z_roles N.2)[j]? with
      | none => rw [hr9] at hj; cases hj
      | some r =>
        rw [hr9] at hj
        cases hj
        exact v3 r.1 r.2 (List.mem_of_getElem? hr9) e9
    obtain ⟨hP1, hD1⟩ := z_push hw2.1.1 hw2.1.2.1 v1 v2 hne
    have hq9 : (z_pool X N g ++ [(ra, .inl (X.2.1 3, n, .inr (.inr (.inr (.inr (fun j => if j < N.2 0 then some (N.1 (4 + 0) j) else none))))))] : va_W)[q0]? = some (N.1 1 0, .inr (0, z_obj X N g 1 0)) := by
      rw [List.getElem?_append_left (List.getElem?_eq_some_iff.mp hq).1]
      exact hq
    refine va_put (D := X.1) (C := RJx4a65c) (T := TJx4a65c) (N := 3) (ty := .array (.object "java/lang/Object")) (v := .ref ra) hx hb hts zC_1.2.1 tyJx4a65c tyJx4a65c_ok nmJx4a65c hown hK hP1 hD1 hS1 q0 hq9 rfl 1 (by decide) (hF.1.2.2.2.2 _ qw_57) (fun _ h9 => h9) rfl (by decide +kernel) rfl rfl (Nat.le_of_ble_eq_true rfl) dJx4a65c_grow_92f84_41 (fun H2 locs2 hP2 hD2 hS2 => ?_)
    obtain ⟨N', k1, k2, k3⟩ := z_regrow2 (H0 := H1) (locs0 := locs1) (Or.inl rfl) hw2 hq1 ⟨by omega, by omega⟩ (fun z => absurd z hz0) hne v2 hP2 hS2
    exact W.aret (v := .ref ra) hx hb hr (Or.inr ⟨_, rfl⟩) (Or.inr ⟨_, rfl⟩) (fun t9 ht9 hW => ⟨⟨N', ra, rfl, trivial, ⟨k1, k2.symm⟩, by rw [ht9]; exact k3.1, va_K.moved hW.alike hF.2.1, zS_pass hF.2.2.1 k3.2.1 hW ht9⟩, k3.2.1.F ht9⟩) k3.2.1.2.2 dJx4a65c_grow_92f84_44 hF.2.2.2

/-! THE JDK'S LISTS: adding -/
theorem z_cyO {X : zC} {s : State} {cA : ClassId} (h0 : va_K X.1 vwCl (z_tys X) s) (h1 : va_K X.1 vwCl (z_tys X ++ [(cA, .object "java/lang/Object")]) s) : cA = X.2.1 3 := by
  obtain ⟨-, ka, co, -, -, -, e1⟩ := h0.2 3 (X.2.1 3, .object "java/lang/Object") rfl
  obtain ⟨-, ka2, co2, -, -, -, e2⟩ := h1.2 4 (cA, .object "java/lang/Object") rfl
  exact Option.some.inj (e2.symm.trans e1)
theorem z_unpush {X : zC} {ws : va_W} {x : Nat × va_E} {H : Heap} {A : Nat → Prop} (hP : va_P X.1 vwCl (ws ++ [x]) H) (hD : va_D A (ws ++ [x])) : va_P X.1 vwCl ws H ∧ va_D A ws ∧ va_at X.1 vwCl x H ∧ A x.1 ∧ ∀ (j : Nat) (q : Nat × va_E), ws[j]? = some q → q.1 ≠ x.1 := by
  have h0 : (ws ++ [x])[ws.length]? = some x := by simp
  have h1 : ∀ (j : Nat) (q : Nat × va_E), ws[j]? = some q → (ws ++ [x])[j]? = some q := fun j q h => by
    rw [List.getElem?_append_left (List.getElem?_eq_some_iff.mp h).1]
    exact h
  refine ⟨fun j q h => hP j q (h1 j q h), ⟨fun a b p q hp hq e => hD.1 a b p q (h1 a p hp) (h1 b q hq) e, fun j q h => hD.2 j q (h1 j q h)⟩, hP _ _ h0, hD.2 _ _ h0, fun j q h e => ?_⟩
  have e2 := hD.1 j ws.length q x (h1 j q h) h0 e
  have e3 := (List.getElem?_eq_some_iff.mp h).1
  omega
def zArr (X : zC) (N : zN) (i n : Nat) (a : Nat) (H : Heap) : Prop := va_at X.1 vwCl (a, .inl (X.2.1 3, n, .inr (.inr (.inr (.inr (fun j => if j < N.2 i then some (N.1 (4 + i) j) else none)))))) H ∧ zA X a ∧ ∀ k j, zE N k j → N.1 k j ≠ a
def zGrow (i : Nat) (N N' : zN) : Prop := (∀ k j, ¬ (k = 16 ∧ j = i) → N'.1 k j = N.1 k j) ∧ (∀ q, q ≠ 2 + i → N'.2 q = N.2 q) ∧ N.2 i < N'.2 (2 + i) ∧ N'.2 (2 + i) ≤ 40 ∧ (N.2 (2 + i) = 0 → N'.2 (2 + i) = 10)
def zAdd (i : Nat) (N N' : zN) : Prop := (∀ k j, ¬ (k = 16 ∧ j = i) → N'.1 k j = N.1 k j) ∧ (∀ q, q ≠ i → q ≠ 2 + i → N'.2 q = N.2 q) ∧ N'.2 i = N.2 i + 1 ∧ (N.2 (2 + i) = 0 → N'.2 (2 + i) = 10) ∧ (N.2 i < N.2 (2 + i) → N'.2 (2 + i) = N.2 (2 + i))
theorem z_fit {P : Prop} {x y : Int} (hx : zIn x) (hy : zIn y) : zri x (zri y (some ())) = some () := by
  unfold zri
  rw [if_pos hx, if_pos hy]
set_option maxHeartbeats 4000000 in
set_option maxRecDepth 100000 in
theorem c_newLen (l : Launch) (X : zC) (N : zN) {g : zG} {o a b : Int} (ho : 0 ≤ o ∧ o ≤ 40) (ha : 0 < a ∧ a ≤ 40) (hb9 : 0 ≤ b ∧ b ≤ 40) : zM l yJ8_newLength_cabcc cJ8_newLength_cabcc 4 (some .int) { frames := 1, cells := 0, slots := 0, locals := 21 } X N g [z_v o, z_v a, z_v b] (zQi X N (o + max a b) g) := by
  refine z_ofW (own := RJ8) (by decide +kernel) rfl (Nat.le_of_ble_eq_true rfl) ?_
  intro p e s m args below meth c ls hF hr hw hl
  have hl : lv_has ls 4 [(0, z_v o), (1, z_v a), (2, z_v b)] := hl
  have hx := hF.1.1
  have hb := hF.1.2.1
  refine lv_iload_n hx hb dJ8_newLength_cabcc_0 rfl (lv_at hl 0 rfl) ?_
  refine lv_iload_n hx hb dJ8_newLength_cabcc_1 rfl (lv_at hl 1 rfl) ?_
  refine lv_iload_n hx hb dJ8_newLength_cabcc_2 rfl (lv_at hl 2 rfl) ?_
  refine zr_max hF hl.1 qw_532 (z_fit (P := True) (x := a) (y := b) ⟨by omega, by omega⟩ ⟨by omega, by omega⟩) dJ8_newLength_cabcc_3 ⟨Nat.le_of_ble_eq_true rfl, Nat.le_of_ble_eq_true rfl⟩ (Nat.le_of_ble_eq_true rfl) ⟨Nat.le_of_ble_eq_true rfl, Nat.le_of_ble_eq_true rfl⟩ (fun _ => ?_)
  refine zr_iadd hF dJ8_newLength_cabcc_6 ?_
  have hv : 0 < o + max a b ∧ o + max a b ≤ 80 := by omega
  generalize o + max a b = v at hv ⊢
  refine lv_istore_n (lv' := [(3, z_v v), (0, z_v o), (1, z_v a), (2, z_v b)]) hx hb dJ8_newLength_cabcc_7 rfl hl (by decide) rfl (fun ls hl => ?_)
  refine lv_iconst hx hb dJ8_newLength_cabcc_8 rfl ?_
  refine lv_iload_n hx hb dJ8_newLength_cabcc_9 rfl (lv_at hl 0 rfl) ?_
  refine zr_icmp_ge (tgt := 21) (x := 0) (y := v) (A := some ()) (B := none) (o := ()) hF (by unfold zlt; rw [if_pos ⟨by decide, by omega, by omega⟩, if_pos hv.1]) dJ8_newLength_cabcc_10 (by decide) (fun h => nomatch h) (fun _ => ?_)
  refine lv_iload_n hx hb dJ8_newLength_cabcc_13 rfl (lv_at hl 0 rfl) ?_
  refine lv_ldc hx hb hF.1.2.2.2.1 (hF.1.2.2.2.2 _ qw_533) dJ8_newLength_cabcc_14 ?_
  refine zr_icmp_gt (tgt := 21) (x := v) (y := 2147483639) (A := some ()) (B := none) (o := ()) hF (by unfold zle; rw [if_pos ⟨⟨by omega, by omega⟩, by decide⟩, if_pos (by omega)]) dJ8_newLength_cabcc_16 (by decide) (fun h => nomatch h) (fun _ => ?_)
  refine lv_iload_n hx hb dJ8_newLength_cabcc_19 rfl (lv_at hl 0 rfl) ?_
  exact zr_iret hF hr hw rfl dJ8_newLength_cabcc_20
set_option maxHeartbeats 4000000 in
set_option maxRecDepth 100000 in
theorem c_copy3 (l : Launch) (X : zC) (N : zN) {g : zG} {n mi : Nat} (hE : zE N 16 0) (hn : N.2 2 ≤ n ∧ n ≤ 40) : Met l yJ7_copyOf_6403c (zws yJ7_copyOf_6403c cJ7_copyOf_6403c 4 (some (.array (.object "java/lang/Object")))) { frames := 1, cells := 1, slots := 40, locals := 40 } (va_Pc [z_r N 16 0, z_v n, .ref mi] (fun U => zU X N g U ∧ va_Mi "[Ljava/lang/Object;" mi U)) (va_Qr (fun (_ : Unit) => True) (fun _ a t => zArr X N 0 n a t.heap ∧ zU X N g t) (zA X)) 1 40 (zA X) := by
  refine Met.ofW (cc := cJ7_copyOf_6403c) (maxL := 4) (ret := (some (.array (.object "java/lang/Object")))) (by decide +kernel) rfl ?_
  intro p e s m args below meth c s₁ B hml hv
  obtain ⟨rfl, ⟨hWd, hK, hS⟩, hMi⟩ := hv
  have hts : ∀ w ∈ lw_G, w.before [z_r N 16 0, z_v n, .ref mi].toArray s = true := fun w hw => atoms_spec (ws := zws yJ7_copyOf_6403c cJ7_copyOf_6403c 4 (some (.array (.object "java/lang/Object")))) B.pre w (List.mem_cons_of_mem _ hw)
  have hown : s.vm.findClass RJ7 = some m.cls := findClass_of_methodNamed B.named
  have hl := lv_entry [z_r N 16 0, z_v n, .ref mi] (n := 4) (Nat.le_of_ble_eq_true rfl)
  rw [lg_entry_eq]
  generalize (lg_sl ([z_r N 16 0, z_v n, .ref mi]) ++ List.replicate (4 - (lg_sl ([z_r N 16 0, z_v n, .ref mi])).length) Slot.unset).toArray = ls at hl ⊢
  have hF : zF p s m [z_r N 16 0, z_v n, .ref mi].toArray meth c X cJ7_copyOf_6403c 4 RJ7 := ⟨⟨B.exec, B.bytes, hml, hown, hts⟩, hK, hS, B.notSynchronized⟩
  have hr := B.returns
  have hw : zH X N g s s.heap [] := ⟨hWd, va_S.rf, hWd.2.2.2.2.1⟩
  have hl : lv_has ls 4 [(0, z_r N 16 0), (1, z_v n), (2, .ref mi)] := hl
  have hx := hF.1.1
  have hb := hF.1.2.1
  have hsz := hWd.2.2.1
  obtain ⟨s1, s2, s3, s4, s5, s6, s7, s8, s9, s10⟩ := id hsz
  have hA0 : ∀ q, s.heap.size ≤ q → zA X q := fun q h => Nat.le_trans hw.2.2 h
  obtain ⟨-, -, -, hcast, -, -, -, -, hAO, -⟩ := id hS
  refine lv_aload_n hx hb dJ7_copyOf_6403c_0 rfl (lv_at hl 2 rfl) ?_
  refine va_ldcM hx hb hown (hF.1.2.2.2.2 _ qw_556) hMi dJ7_copyOf_6403c_1 ?_
  refine lv_acmp_ne (tgt := 13) (rx := some mi) (ry := some mi) hx hb dJ7_copyOf_6403c_3 (by decide) (fun z => absurd rfl z) (fun _ => ?_)
  refine lv_iload_n hx hb dJ7_copyOf_6403c_6 rfl (lv_at hl 1 rfl) ?_
  have hin := z_vin (j := (n : Int)) (n := 100) (by decide) ⟨by omega, by omega⟩
  have hn0 : ¬ Int32.ofInt (n : Int) < 0 := fun z => hin.1 (Or.inl z)
  refine va_newq (N' := n) hx hb hown (hF.1.2.2.2.2 _ qw_558) hAO hK hw.1.1 hw.1.2.1 hw.2.1 hA0 hn0 (by rw [hin.2]; exact Int.toNat_natCast n) (by omega) (Nat.le_of_ble_eq_true rfl) (by show 0 + n ≤ 40; omega) dJ7_copyOf_6403c_7 (fun q cA H1 hK1 hP1 hD1 hS1 => ?_)
  have hcA := z_cyO hK hK1
  subst hcA
  refine lv_goto (tgt := 24) hx hb dJ7_copyOf_6403c_10 (by decide) ?_
  refine lv_astore_n (lv' := [(3, .ref q), (0, z_r N 16 0), (1, z_v n), (2, .ref mi)]) hx hb dJ7_copyOf_6403c_24 rfl hl (by decide) rfl (fun ls hl => ?_)
  refine lv_aload_n hx hb dJ7_copyOf_6403c_25 rfl (lv_at hl 1 rfl) ?_
  refine lv_iconst hx hb dJ7_copyOf_6403c_26 rfl ?_
  refine lv_aload_n hx hb dJ7_copyOf_6403c_27 rfl (lv_at hl 0 rfl) ?_
  refine lv_iconst hx hb dJ7_copyOf_6403c_28 rfl ?_
  refine lv_aload_n hx hb dJ7_copyOf_6403c_29 rfl (lv_at hl 1 rfl) ?_
  obtain ⟨q0, hq1, hq⟩ := z_place (X := X) (g := g) hE
  have hq9 : (z_pool X N g ++ [(q, .inl (X.2.1 3, n, .inr (.inr (.inr (.inr (fun _ => none))))))])[q0]? = some (N.1 16 0, z_cell X N g 16 0) := by
    rw [List.getElem?_append_left (List.getElem?_eq_some_iff.mp hq).1]
    exact hq
  refine va_alen (x := (N.2 2, .inr (.inr (.inr (.inr (fun j => if j < N.2 0 then some (N.1 4 j) else none)))))) (ty := .object "java/lang/Object") (v := Int32.ofInt (N.2 2 : Nat)) hx hb hK hP1 q0 3 hq9 rfl rfl dJ7_copyOf_6403c_30 ?_
  refine lv_iload_n hx hb dJ7_copyOf_6403c_31 rfl (lv_at hl 2 rfl) ?_
  refine zr_min hF hl.1 qw_559 (z_fit (P := True) (x := ((N.2 2 : Nat) : Int)) (y := (n : Int)) ⟨by omega, by omega⟩ ⟨by omega, by omega⟩) dJ7_copyOf_6403c_32 ⟨Nat.le_of_ble_eq_true rfl, Nat.le_of_ble_eq_true rfl⟩ (Nat.le_of_ble_eq_true rfl) ⟨Nat.le_of_ble_eq_true rfl, by show 0 + n ≤ 40; omega⟩ (fun _ => ?_)
  rw [show min ((N.2 2 : Nat) : Int) (n : Int) = ((N.2 2 : Nat) : Int) from by omega]
  have hin2 := z_vin (j := ((N.2 2 : Nat) : Int)) (n := 100) (by decide) ⟨by omega, by omega⟩
  have hin0 := z_vin (j := 0) (n := 100) (by decide) ⟨by omega, by omega⟩
  have e2 : (Int32.ofInt ((N.2 2 : Nat) : Int)).toNatClampNeg = N.2 2 := by rw [hin2.2]; exact Int.toNat_natCast _
  have e0 : (Int32.ofInt 0).toNatClampNeg = 0 := rfl
  refine va_copyq (C := RX1) (E0 := "java/lang/Object") (E1 := "java/lang/Object") (c0 := X.2.1 3) (c1 := X.2.1 3) (n0 := N.2 2) (n1 := n) (f := fun j => if j < N.2 0 then some (N.1 4 j) else none) (g := fun _ => none) hx hb (hml.trans hl.1.symm) hown (hF.1.2.2.2.2 _ qw_560) (hF.1.2.2.2.2 _ qw_562) (hF.1.2.2.2.2 _ qw_561) (hF.1.2.2.2.2 _ qw_33) hK hP1 hD1 hS1 q0 (z_pool X N g).length 3 3 hq9 (by simp) rfl rfl (fun z => hin0.1 (Or.inl z)) (fun z => hin0.1 (Or.inl z)) (fun z => hin2.1 (Or.inl z)) (by rw [e0, e2]; omega) (by rw [e0, e2]; omega) ?_ ?_ (Nat.le_of_ble_eq_true rfl) (Nat.le_of_ble_eq_true rfl) dJ7_copyOf_6403c_35 (fun H2 locs2 hP2 hD2 hS2 => ?_)
  · intro j hj y hy
    rw [e0, Nat.zero_add] at hy
    by_cases c9 : j < N.2 0
    · rw [if_pos c9] at hy
      cases hy
      have hE4 : zE N 4 j := zE_fl hsz c9
      obtain ⟨q4, hq4⟩ : ∃ q4 : Nat, (z_pool X N g ++ [(q, .inl (X.2.1 3, n, .inr (.inr (.inr (.inr (fun _ => none))))))])[q4]? = some (N.1 4 j, .inr (z_ci 4, z_obj X N g 4 j)) := by
        obtain ⟨q4, -, h4⟩ := z_place (X := X) (g := g) hE4
        refine ⟨q4, ?_⟩
        rw [List.getElem?_append_left (List.getElem?_eq_some_iff.mp h4).1]
        exact h4
      exact va_recv (q := (RX1, TX1, 14)) hK hP1 rfl hq4
    · rw [if_neg c9] at hy
      cases hy
  · intro comp c0 h1 h2
    obtain ⟨c3, c4, hc3, hc4, hasg⟩ := Cond.castable_spec (va_Nw.use (A := #[]) rfl (hcast _ (List.mem_of_getElem? (i := 3) rfl)))
    cases Option.some.inj (hc3.symm.trans h2)
    cases Option.some.inj (hc4.symm.trans h1)
    exact hasg
  have hset : ∀ (ws : va_W) (x y : Nat × va_E), (ws ++ [x]).set ws.length y = ws ++ [y] := fun ws x y => by simp
  rw [hset] at hP2 hD2
  obtain ⟨u1, u2, u3, u4, u5⟩ := z_unpush hP2 hD2
  have hcp : va_cpy (fun j => if j < N.2 0 then some (N.1 4 j) else none) (fun _ => none) (Int32.ofInt 0).toNatClampNeg (Int32.ofInt 0).toNatClampNeg (Int32.ofInt ((N.2 2 : Nat) : Int)).toNatClampNeg = (fun j => if j < N.2 0 then some (N.1 (4 + 0) j) else none) := by
    rw [e0, e2]
    funext j
    by_cases c8 : j < N.2 2
    · rw [pk_cpy_in (Nat.zero_le _) (by omega)]
      simp
    · rw [pk_cpy_out (Or.inr (by omega)), if_neg (by omega)]
  rw [hcp] at u3
  refine lv_aload_n hx hb dJ7_copyOf_6403c_38 rfl (lv_at hl 0 rfl) ?_
  have hw2 : zH X N g s H2 locs2 := zH_step hw u1 u2 hsz hS2
  refine W.widen (k := 1) (n := 40) (Nat.le_of_ble_eq_true rfl) (by show 0 + n ≤ 40; omega) ?_
  refine W.aret (v := .ref q) hx hb hr (Or.inr ⟨_, rfl⟩) (Or.inr ⟨_, rfl⟩) (fun t ht hW => ⟨⟨(), q, rfl, trivial, ⟨by rw [ht]; exact u3, u4, fun k j hE9 e9 => ?_⟩, by rw [ht]; exact hw2.1, va_K.moved hW.alike hF.2.1, zS_pass hF.2.2.1 hw2.2.1 hW ht⟩, hw2.2.1.F ht⟩) hw2.2.1.2.2 dJ7_copyOf_6403c_39 hF.2.2.2
  obtain ⟨q8, -, h8⟩ := z_place (X := X) (g := g) hE9
  exact u5 q8 _ h8 e9

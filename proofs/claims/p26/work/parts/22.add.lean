set_option maxHeartbeats 4000000 in
set_option maxRecDepth 100000 in
theorem c_copy2 (l : Launch) (X : zC) (N : zN) {g : zG} {n : Nat} (hE : zE N 16 0) (hn : N.2 2 ≤ n ∧ n ≤ 40) : Met l yJ7_copyOf_1904c (zws yJ7_copyOf_1904c cJ7_copyOf_1904c 2 (some (.array (.object "java/lang/Object")))) { frames := 2, cells := 1, slots := 40, locals := 63 } (va_Pc [z_r N 16 0, z_v n] (fun U => zU X N g U)) (va_Qr (fun (_ : Unit) => True) (fun _ a t => zArr X N 0 n a t.heap ∧ zU X N g t) (zA X)) 1 40 (zA X) := by
  refine Met.ofW (cc := cJ7_copyOf_1904c) (maxL := 2) (ret := (some (.array (.object "java/lang/Object")))) (by decide +kernel) rfl ?_
  intro p e s m args below meth c s₁ B hml hv
  obtain ⟨rfl, hWd, hK, hS⟩ := hv
  have hts : ∀ w ∈ lw_G, w.before [z_r N 16 0, z_v n].toArray s = true := fun w hw => atoms_spec (ws := zws yJ7_copyOf_1904c cJ7_copyOf_1904c 2 (some (.array (.object "java/lang/Object")))) B.pre w (List.mem_cons_of_mem _ hw)
  have hown : s.vm.findClass RJ7 = some m.cls := findClass_of_methodNamed B.named
  have hl := lv_entry [z_r N 16 0, z_v n] (n := 2) (Nat.le_of_ble_eq_true rfl)
  rw [lg_entry_eq]
  generalize (lg_sl ([z_r N 16 0, z_v n]) ++ List.replicate (2 - (lg_sl ([z_r N 16 0, z_v n])).length) Slot.unset).toArray = ls at hl ⊢
  have hF : zF p s m [z_r N 16 0, z_v n].toArray meth c X cJ7_copyOf_1904c 2 RJ7 := ⟨⟨B.exec, B.bytes, hml, hown, hts⟩, hK, hS, B.notSynchronized⟩
  have hr := B.returns
  have hw : zH X N g s s.heap [] := ⟨hWd, va_S.rf, hWd.2.2.2.2.1⟩
  have hl : lv_has ls 2 [(0, z_r N 16 0), (1, z_v n)] := hl
  have hx := hF.1.1
  have hb := hF.1.2.1
  obtain ⟨-, -, -, -, -, -, -, ⟨mi, hMi⟩, hAO, hDc⟩ := id hS
  refine lv_aload_n hx hb dJ7_copyOf_1904c_0 rfl (lv_at hl 0 rfl) ?_
  refine lv_iload_n hx hb dJ7_copyOf_1904c_1 rfl (lv_at hl 1 rfl) ?_
  refine lv_aload_n hx hb dJ7_copyOf_1904c_2 rfl (lv_at hl 0 rfl) ?_
  have hrec : ∃ cell : Cell, s.heap[N.1 16 0]? = some cell ∧ cell.vm.isStatics = false ∧ s.vm.findClass "[Ljava/lang/Object;" = some cell.cls := by
    have h1 := zW_at hWd hE
    obtain ⟨-, ka, co, k1, k2, k3, k4⟩ := hK.2 3 (X.2.1 3, .object "java/lang/Object") rfl
    exact ⟨_, h1, rfl, k4⟩
  refine va_getC (C := "[Ljava/lang/Object;") hx hb (hml.trans hl.1.symm) hown (hF.1.2.2.2.2 _ qw_540) (va_Dc.use hDc) (hF.1.2.2.2.2 _ qw_778) (hF.1.2.2.2.2 _ qw_541) (hF.1.2.2.2.2 _ qw_552) hMi hrec (Nat.le_of_ble_eq_true rfl) (Nat.le_of_ble_eq_true rfl) dJ7_copyOf_1904c_3 ?_
  refine va_callr (va_runS (As := [z_r N 16 0, z_v n, .ref mi]) (rest := []) hF.1 (c_copy3 l X N hE hn) (va_cwS 3 hF.1.2.2.2.2 (z_goodS qw_553 qw_554 qw_32 qw_555) rfl rfl rfl (by decide +kernel) ⟨Nat.le_of_ble_eq_true rfl, Nat.le_of_ble_eq_true rfl⟩) ⟨fun a U g9 mk q => by
    obtain ⟨q0, ⟨q1, q2, q3⟩, q4⟩ := q
    exact ⟨q0, ⟨q1, va_K.moved (u := U) (U := U.calling g9 mk a) (Vm.Alike.refl U.vm) q2, zS_pass (s := U) (U := U.calling g9 mk a) (H := U.heap) (locs := []) q3 va_S.rf (State.WarmedH.refl U) rfl⟩, va_Mi.moved (u := U) (U := U.calling g9 mk a) (Vm.Alike.refl U.vm) q4⟩, fun U hU hW => ⟨rfl, ⟨by rw [hU]; exact hw.1, va_K.moved hW.alike hF.2.1, zS_pass hF.2.2.1 hw.2.1 hW hU⟩, va_Mi.moved hW.alike hMi⟩⟩ rfl rfl hl.1 rfl (lv_room (Nat.le_of_ble_eq_true rfl)) dJ7_copyOf_1904c_6 ⟨Nat.le_of_ble_eq_true rfl, Nat.le_of_ble_eq_true rfl⟩) hw.2.1 (fun q _ h => h) (fun q h => h) (fun u ra t H1 locs1 ht hvm hp hB hz1 hk1 hS1 => ?_)
  have hw2 : zH X N g s H1 locs1 := zH_back hw ht hB.2 hS1
  exact W.aret (v := .ref ra) hx hb hr (Or.inr ⟨_, rfl⟩) (Or.inr ⟨_, rfl⟩) (fun t9 ht9 hW => ⟨⟨(), ra, rfl, trivial, by rw [ht9, ← ht]; exact hB.1, by rw [ht9]; exact hw2.1, va_K.moved hW.alike hF.2.1, zS_pass hF.2.2.1 hw2.2.1 hW ht9⟩, hw2.2.1.F ht9⟩) hw2.2.1.2.2 dJ7_copyOf_1904c_9 hF.2.2.2
/-- the list's row of elements put anew -/
theorem z_regrow {X : zC} {N : zN} {g : zG} {H : Heap} {i n q q0 : Nat} (hi : i = 0 ∨ i = 1) (hw : zW X N g H) (hq : (z_roles N.2)[q0]? = some (1, i)) (hn : N.2 i < n ∧ n ≤ 40) (h10 : N.2 (2 + i) = 0 → n = 10) (hq0 : zA X q) (hfr : ∀ k j, zE N k j → N.1 k j ≠ q) {H1 : Heap}
    (h1 : va_at X.1 vwCl (N.1 1 i, .inr (0, [z_v (g 1 i 0), .ref q, z_v (g 1 i 2)])) H1) (h2 : va_at X.1 vwCl (q, .inl (X.2.1 3, n, .inr (.inr (.inr (.inr (fun j => if j < N.2 i then some (N.1 (4 + i) j) else none)))))) H1) (h3 : ∀ k j, zE N k j → ¬ (k = 1 ∧ j = i) → va_at X.1 vwCl (N.1 k j, z_cell X N g k j) H1) (hb : X.2.2.1 ≤ H1.size) (he : zEm X H1) :
    ∃ N' : zN, zGrow i N N' ∧ N'.1 16 i = q ∧ zW X N' g H1 := by
  obtain ⟨s1, s2, s3, s4, s5, s6, s7, s8, s9, s10⟩ := id hw.2.2.1
  have hi2 : i < 2 := by omega
  refine ⟨(fun k j => if k = 16 ∧ j = i then q else N.1 k j, fun z => if z = 2 + i then n else N.2 z), ⟨fun k j h => if_neg h, fun z h => if_neg h, by show N.2 i < (if 2 + i = 2 + i then n else N.2 (2 + i)); rw [if_pos rfl]; exact hn.1, by show (if 2 + i = 2 + i then n else N.2 (2 + i)) ≤ 40; rw [if_pos rfl]; exact hn.2, fun hz9 => by show (if 2 + i = 2 + i then n else N.2 (2 + i)) = 10; rw [if_pos rfl]; exact h10 hz9⟩, if_pos ⟨rfl, rfl⟩, ?_⟩
  generalize hN' : ((fun k j => if k = 16 ∧ j = i then q else N.1 k j, fun z => if z = 2 + i then n else N.2 z) : zN) = N'
  have e1 : ∀ k j, ¬ (k = 16 ∧ j = i) → N'.1 k j = N.1 k j := fun k j h => by rw [← hN']; exact if_neg h
  have e1' : N'.1 16 i = q := by rw [← hN']; exact if_pos ⟨rfl, rfl⟩
  have e2 : ∀ z, z ≠ 2 + i → N'.2 z = N.2 z := fun z h => by rw [← hN']; exact if_neg h
  have e2' : N'.2 (2 + i) = n := by rw [← hN']; exact if_pos rfl
  have hsz : zSz N' g := by
    have f0 := e2 0 (by omega)
    have f1 := e2 1 (by omega)
    have f7 := e2 7 (by omega)
    have f8 := e2 8 (by omega)
    rcases hi with rfl | rfl
    · have f3 := e2 3 (by omega)
      have f2 : N'.2 2 = n := e2'
      exact ⟨by rw [f0]; exact s1, by rw [f1]; exact s2, by omega, by omega, by omega, by omega, by omega, by omega, by omega, by omega⟩
    · have f2 := e2 2 (by omega)
      have f3 : N'.2 3 = n := e2'
      exact ⟨by rw [f0]; exact s1, by rw [f1]; exact s2, by omega, by omega, by omega, by omega, by omega, by omega, by omega, by omega⟩
  have hE : ∀ k j, zE N' k j → ¬ (k = 16 ∧ j = i) → zE N k j := by
    intro k j h hn9
    obtain ⟨a1, a2, a3⟩ := zE_iff.mp h
    refine zE_iff.mpr ⟨a1, a2, ?_⟩
    rw [← a3]
    unfold z_ex
    rw [e2 7 (by omega), e2 8 (by omega)]
    by_cases c16 : k = 16
    · subst c16
      have hj : j ≠ i := fun z => hn9 ⟨rfl, z⟩
      rw [e2 (2 + j) (by omega)]
    · simp [c16]
  have hf : ∀ k j, ¬ (k = 16 ∧ j = i) → z_r N' k j = z_r N k j := fun k j h => by show Value.ref _ = Value.ref _; rw [e1 k j h]
  have hc : ∀ k j, zE N' k j → ¬ (k = 16 ∧ j = i) → ¬ (k = 1 ∧ j = i) → z_cell X N' g k j = z_cell X N g k j := by
    intro k j hk hn9 hn8
    unfold z_cell
    by_cases c1 : k < 10
    · rw [if_pos c1, if_pos c1]
      congr 2
      match k, c1, hn8 with
      | 0, _, _ => simp only [z_obj, hf 1 0 (by omega), hf 1 1 (by omega), hf 2 0 (by omega), hf 3 2 (by omega)]
      | 1, _, hn8 =>
        have hj : j ≠ i := fun z => hn8 ⟨rfl, z⟩
        simp only [z_obj, e2 (2 + j) (by omega), hf 16 j (by omega)]
      | 2, _, _ => simp only [z_obj, hf 3 0 (by omega), hf 3 1 (by omega)]
      | 3, _, _ => simp only [z_obj, hf 10 j (by omega), hf 11 j (by omega), hf 12 j (by omega), hf 13 j (by omega)]
      | 4, _, _ => simp only [z_obj, hf 14 j (by omega), hf 15 j (by omega)]
      | 5, _, _ => simp only [z_obj]
      | 6, _, _ => simp only [z_obj, hf 20 j (by omega), hf 21 j (by omega), hf 22 j (by omega), hf 23 j (by omega), hf 24 j (by omega), hf 25 j (by omega), hf 26 j (by omega), hf 27 j (by omega), hf 28 j (by omega), hf 29 j (by omega), hf 30 j (by omega), hf 31 j (by omega), hf 32 j (by omega), hf 33 j (by omega), hf 34 j (by omega), hf 35 j (by omega), hf 36 j (by omega), hf 37 j (by omega), hf 38 j (by omega), hf 39 j (by omega), hf 40 j (by omega), hf 41 j (by omega)]
      | 7, _, _ => simp [zE_iff, z_ex] at hk
      | 8, _, _ => simp [zE_iff, z_ex] at hk
      | 9, _, _ => simp [zE_iff, z_ex] at hk
    · rw [if_neg c1, if_neg c1]
      by_cases c2 : k = 16
      · rw [if_pos c2, if_pos c2]
        have hj : j ≠ i := fun z => hn9 ⟨c2, z⟩
        subst c2
        have hj2 : j < 2 := by
          have h9 := (zE_iff.mp hk).2.2
          simp [z_ex] at h9
          exact h9.1
        rw [e2 (2 + j) (by omega), e2 j (by omega)]
        have e4 : (fun z => if z < N.2 j then some (N'.1 (4 + j) z) else none) = (fun z => if z < N.2 j then some (N.1 (4 + j) z) else none) := by
          funext z
          rw [e1 (4 + j) z (by omega)]
        rw [e4]
      · rw [if_neg c2, if_neg c2]
  have hE1 : zE N 1 i := List.mem_of_getElem? hq
  have hm := z_mk (X := X) (N := N') (g := g) (H := H1) (fun k j hk => by
    by_cases c16 : k = 16 ∧ j = i
    · obtain ⟨rfl, rfl⟩ := c16
      rw [e1']
      have : z_cell X N' g 16 j = .inl (X.2.1 3, n, .inr (.inr (.inr (.inr (fun z => if z < N.2 j then some (N.1 (4 + j) z) else none))))) := by
        have e4 : (fun z => if z < N'.2 j then some (N'.1 (4 + j) z) else none) = (fun z => if z < N.2 j then some (N.1 (4 + j) z) else none) := by
          funext z
          rw [e1 (4 + j) z (by omega), e2 j (by omega)]
        show (Sum.inl (X.2.1 3, N'.2 (2 + j), .inr (.inr (.inr (.inr (fun z => if z < N'.2 j then some (N'.1 (4 + j) z) else none))))) : va_E) = _
        rw [e2', e4]
      rw [this]
      exact h2
    · rw [e1 k j c16]
      by_cases c1 : k = 1 ∧ j = i
      · obtain ⟨rfl, rfl⟩ := c1
        have : z_cell X N' g 1 j = .inr (0, [z_v (g 1 j 0), .ref q, z_v (g 1 j 2)]) := by
          rw [z_cell_obj (by decide)]
          show (Sum.inr (0, [z_v (g 1 j 0), (if N'.2 (2 + j) = 0 then .ref X.2.2.2 else z_r N' 16 j), z_v (g 1 j 2)]) : va_E) = _
          rw [e2', if_neg (by omega)]
          show (Sum.inr (0, [z_v (g 1 j 0), .ref (N'.1 16 j), z_v (g 1 j 2)]) : va_E) = _
          rw [e1']
        rw [this]
        exact h1
      · rw [hc k j hk c16 c1]
        exact h3 k j (hE k j hk c16) c1)
    (fun k j k' j' hk hk' e => by
      by_cases c16 : k = 16 ∧ j = i
      · by_cases c16' : k' = 16 ∧ j' = i
        · exact ⟨c16.1.trans c16'.1.symm, c16.2.trans c16'.2.symm⟩
        · obtain ⟨rfl, rfl⟩ := c16
          rw [e1', e1 k' j' c16'] at e
          exact absurd e.symm (hfr k' j' (hE k' j' hk' c16'))
      · by_cases c16' : k' = 16 ∧ j' = i
        · obtain ⟨rfl, rfl⟩ := c16'
          rw [e1', e1 k j c16] at e
          exact absurd e (hfr k j (hE k j hk c16))
        · rw [e1 k j c16, e1 k' j' c16'] at e
          exact zW_inj hw (hE k j hk c16) (hE k' j' hk' c16') e)
    (fun k j hk => by
      by_cases c16 : k = 16 ∧ j = i
      · obtain ⟨rfl, rfl⟩ := c16
        rw [e1']
        exact hq0
      · rw [e1 k j c16]
        exact zW_A hw (hE k j hk c16))
  exact ⟨hm.1, hm.2, hsz, hw.2.2.2.1, hb, he⟩
theorem z_push {X : zC} {ws : va_W} {x : Nat × va_E} {H : Heap} {A : Nat → Prop} (hP : va_P X.1 vwCl ws H) (hD : va_D A ws) (hx : va_at X.1 vwCl x H) (hA : A x.1) (hne : ∀ (j : Nat) (q : Nat × va_E), ws[j]? = some q → q.1 ≠ x.1) : va_P X.1 vwCl (ws ++ [x]) H ∧ va_D A (ws ++ [x]) := by
  have key : ∀ (j : Nat) (q : Nat × va_E), (ws ++ [x])[j]? = some q → (ws[j]? = some q) ∨ (j = ws.length ∧ q = x) := by
    intro j q h
    by_cases c : j < ws.length
    · rw [List.getElem?_append_left c] at h
      exact Or.inl h
    · rw [List.getElem?_append_right (by omega)] at h
      have h9 : j - ws.length < 1 := (List.getElem?_eq_some_iff.mp h).1
      have h8 : j = ws.length := by omega
      subst h8
      rw [Nat.sub_self] at h
      cases h
      exact Or.inr ⟨rfl, rfl⟩
  refine ⟨fun j q h => ?_, fun a b p q hp hq e => ?_, fun j q h => ?_⟩
  · rcases key j q h with h | ⟨-, rfl⟩
    · exact hP j q h
    · exact hx
  · rcases key a p hp with h1 | ⟨h1, rfl⟩ <;> rcases key b q hq with h2 | ⟨h2, rfl⟩
    · exact hD.1 a b p q h1 h2 e
    · exact absurd e (hne a p h1)
    · exact absurd e.symm (hne b q h2)
    · exact h1.trans h2.symm
  · rcases key j q h with h | ⟨-, rfl⟩
    · exact hD.2 j q h
    · exact hA
theorem z_regrow2 {X : zC} {N : zN} {g : zG} {s : State} {H0 H2 : Heap} {locs0 locs2 : List Loc} {i n q q0 : Nat} (hi : i = 0 ∨ i = 1) (hw : zH X N g s H0 locs0) (hq : (z_roles N.2)[q0]? = some (1, i)) (hn : N.2 i < n ∧ n ≤ 40) (h10 : N.2 (2 + i) = 0 → n = 10) (hne : ∀ (j : Nat) (x : Nat × va_E), (z_pool X N g)[j]? = some x → x.1 ≠ q) (hAq : zA X q)
    (hP : va_P X.1 vwCl (List.set (z_pool X N g ++ [(q, .inl (X.2.1 3, n, .inr (.inr (.inr (.inr (fun j => if j < N.2 i then some (N.1 (4 + i) j) else none))))))] : va_W) q0 (N.1 1 i, .inr (0, [z_v (g 1 i 0), .ref q, z_v (g 1 i 2)]))) H2) (hS : va_S (zA X) s.heap H2 locs2) :
    ∃ N' : zN, zGrow i N N' ∧ N'.1 16 i = q ∧ zH X N' g s H2 locs2 := by
  have hE1 : zE N 1 i := List.mem_of_getElem? hq
  have hpl : ∀ (j : Nat) (r : Nat × Nat), (z_roles N.2)[j]? = some r → (z_pool X N g)[j]? = some (N.1 r.1 r.2, z_cell X N g r.1 r.2) := by
    intro j r hr
    unfold z_pool
    rw [List.getElem?_map, hr]
    rfl
  have hq9 := hpl q0 _ hq
  have hlt := (List.getElem?_eq_some_iff.mp hq9).1
  have hfr : ∀ k j, zE N k j → N.1 k j ≠ q := by
    intro k j hE e
    obtain ⟨z, -, hz⟩ := z_place (X := X) (g := g) hE
    exact hne z _ hz e
  have hb0 := hw.2.2
  have hemlt : X.2.2.2 < s.heap.size := Nat.lt_of_lt_of_le hw.1.2.2.2.1 hb0
  have hemA : ¬ zA X X.2.2.2 := Nat.not_le.mpr hw.1.2.2.2.1
  obtain ⟨N', g1, g2, g3⟩ := z_regrow (X := X) (N := N) (g := g) (H := H0) (H1 := H2) (q := q) hi hw.1 hq hn h10 hAq hfr
    (hP q0 _ (by rw [List.getElem?_set_self (by rw [List.length_append]; omega)]))
    (hP (z_pool X N g).length _ (by rw [List.getElem?_set_ne (by omega), List.getElem?_append_right (Nat.le_refl _), Nat.sub_self]; rfl))
    (fun k j hE hnn => by
      obtain ⟨z, hz1, hz2⟩ := z_place (X := X) (g := g) hE
      refine hP z (N.1 k j, z_cell X N g k j) ?_
      have hzq : q0 ≠ z := by
        rintro rfl
        cases hz1.symm.trans hq
        exact hnn ⟨rfl, rfl⟩
      rw [List.getElem?_set_ne hzq, List.getElem?_append_left (List.getElem?_eq_some_iff.mp hz2).1]
      exact hz2) (Nat.le_trans hb0 hS.1) (hw.1.2.2.2.2.2.kept ((hS.2.1 _ hemlt hemA).trans (hw.2.1.2.1 _ hemlt hemA).symm))
  exact ⟨N', g1, g2, g3, hS, hb0⟩

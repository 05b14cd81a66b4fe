/-! the methods that make: the other ends -/
set_option maxHeartbeats 4000000 in
set_option maxRecDepth 100000 in
theorem w_regulationTail {p : Program} {l : Launch} {e : Env} {s : State} {m : MethodId} {args : Array Value} {below : List Frame} {meth : Method} {c : Code} {H : Heap} {locs : List Loc} {ls : Array Slot} {X : zC} {N : zN} {g g' : zG} {o : Nat × Int} {x1 x2 x3 x4 : Int} (hF : zF p s m args meth c X cX4_regulation 5 RX4) (hr : meth.sig.returnType = some .int) (hw : zH X N g s H locs) (hnp : zNp N) (hl : lv_has ls 5 [(0, z_r N 0 0), (1, z_v x1), (2, z_v x2), (3, z_v x3), (4, z_v x4)]) (h : zRgT x1 x2 x3 x4 g = some (o, g')) : W p l e { frames := 8, cells := 6, slots := 80, locals := 200 } s m args below meth c H locs 4 24 (vx_MQ below (zYn X N o g') (zXC X N o g') args s 6 80 (zA X)) (F0 m 37 ls [z_r N 1 1]) := by
  unfold zRgT at h
  split at h
  case isFalse => cases h
  rename_i hlt
  have hx := hF.1.1
  have hb := hF.1.2.1
  have hts := hF.1.2.2.2.2
  have hown := hF.1.2.2.2.1
  have hK := hF.2.1
  obtain ⟨s1, s2, s3, s4, s5, s6, s7, s8, s9, s10⟩ := id hw.1.2.2.1
  obtain ⟨p1, p2, p3⟩ := id hnp
  have hA0 : ∀ q, s.heap.size ≤ q → zA X q := fun q h => Nat.le_trans hw.2.2 h
  obtain ⟨n, hn⟩ : ∃ n : Nat, N.2 1 = n := ⟨_, rfl⟩
  have hgn : (g 1 1 2).toNat = n := by rw [s2, hn]; exact Int.toNat_natCast n
  rw [hgn] at h
  refine va_new (ci := 4) (fs := [z_v 0, z_v 0, z_v 0, z_v 0, z_v 0]) (C := RX3) (T := TX3) (N := 5) hx hb hts zC_5.2.1 tyX3 tyX3_ok hown (hts _ qw_292) (hts _ qw_591) (hts _ qw_34) hK hw.1.1 hw.1.2.1 hw.2.1 hA0 rfl (fun j hj => by
    have : j = 0 ∨ j = 1 ∨ j = 2 ∨ j = 3 ∨ j = 4 := by omega
    rcases this with rfl | rfl | rfl | rfl | rfl <;> rfl) (Nat.le_of_ble_eq_true rfl) (Nat.le_of_ble_eq_true rfl) dX4_regulation_37 (fun q H1 hP1 hD1 hS1 => ?_)
  refine lv_dup hx hb dX4_regulation_40 rfl ?_
  refine lv_iload_n hx hb dX4_regulation_41 rfl (lv_at hl 1 rfl) ?_
  refine lv_iload_n hx hb dX4_regulation_42 rfl (lv_at hl 2 rfl) ?_
  refine lv_iload_n hx hb dX4_regulation_43 rfl (lv_at hl 3 rfl) ?_
  refine lv_iload hx hb dX4_regulation_44 (lv_at hl 4 rfl) ?_
  obtain ⟨u1, u2, u3, u4, u5⟩ := z_unpush hP1 hD1
  have hPc : va_P X.1 vwCl [(q, .inr (4, [z_v 0, z_v 0, z_v 0, z_v 0, z_v 0]))] H1 := by
    intro k x hk
    match k, hk with
    | 0, hk => cases hk; exact u3
    | k + 1, hk => simp at hk
  have hb1 : X.2.2.1 ≤ H1.size := Nat.le_trans hw.2.2 hS1.1
  have hFc : ∀ a, va_A [(q, .inr (4, [z_v 0, z_v 0, z_v 0, z_v 0, z_v 0]))] H1.size a → zA X a := by
    intro a ha
    rcases ha with ⟨k, e9, hk⟩ | ha
    · match k, hk with
      | 0, hk => cases hk; exact u4
      | k + 1, hk => simp at hk
    · exact Nat.le_trans hb1 ha
  refine va_callv (va_runI (As := [z_v x1, z_v x2, z_v x3, z_v x4]) (rest := [.ref q, z_r N 1 1]) hF.1 (c_RgInit l X q H1.size x1 x2 x3 x4) (cwI 4 hts (z_goodI qw_594) rfl rfl rfl (hts _ qw_34) (hts _ qw_592) (hts _ qw_593) rfl (by decide +kernel) ⟨Nat.le_of_ble_eq_true rfl, Nat.le_of_ble_eq_true rfl⟩) ⟨fun a U g9 mk q9 => by
    obtain ⟨y0, y1, y2, y3⟩ := q9
    exact ⟨y0, y1, y2, va_K.moved (u := U) (U := U.calling g9 mk a) (Vm.Alike.refl U.vm) y3⟩, fun U hU hW => ⟨rfl, by rw [hU], by rw [hU]; exact hPc, va_K.moved hW.alike hK⟩⟩ rfl rfl hl.1 rfl (lv_room (Nat.le_of_ble_eq_true rfl)) dX4_regulation_46 ⟨Nat.le_of_ble_eq_true rfl, Nat.le_of_ble_eq_true rfl⟩) hS1 (fun a _ h => hFc a h) hFc (fun u t H2 locs2 ht hvm hp hB hz1 hk1 hS2 => ?_)
  have hB1 := hB
  rw [ht] at hB1
  have c0 := hB1 0 _ rfl
  have hnew : ∀ a, va_A [(q, .inr (4, [z_v 0, z_v 0, z_v 0, z_v 0, z_v 0]))] H1.size a → a ≠ q → H1.size ≤ a := by
    intro a ha hne
    rcases ha with ⟨k, e9, hk⟩ | ha
    · match k, hk with
      | 0, hk => cases hk; exact absurd rfl hne
      | k + 1, hk => simp at hk
    · exact ha
  have hkeep : ∀ (j : Nat) (x : Nat × va_E), (z_pool X N g)[j]? = some x → x.1 < H1.size ∧ ¬ va_A [(q, .inr (4, [z_v 0, z_v 0, z_v 0, z_v 0, z_v 0]))] H1.size x.1 := by
    intro j x hj
    have hl9 := (u1 j x hj).lt
    exact ⟨hl9, fun ha => absurd (hnew _ ha (u5 j x hj)) (by omega)⟩
  have hPp : va_P X.1 vwCl (z_pool X N g) H2 := va_P.kept u1 (fun j x hj => hk1 x.1 (hkeep j x hj).1 (hkeep j x hj).2)
  have hem := hw.1.2.2.2.1
  have hemlt : X.2.2.2 < s.heap.size := Nat.lt_of_lt_of_le hem hw.2.2
  have hwN := z_newRg (X := X) (N := N) (g := g) (n := n) (q := q) (x1 := x1) (x2 := x2) (x3 := x3) (x4 := x4) hw.1 (by omega) (by omega) hPp (fun j x hj => u5 j x hj) u4 c0 (Nat.le_trans hb1 hz1) (hw.1.2.2.2.2.2.kept ((hS2.2.1 _ hemlt (Nat.not_le.mpr hem)).trans (hw.2.1.2.1 _ hemlt (Nat.not_le.mpr hem)).symm))
  generalize hNp : ((fun k j => if j = n ∧ k = 5 then q else N.1 k j, fun z => if z = 8 then n + 1 else N.2 z) : zN) = Np at hwN
  have f5 : Np.1 5 n = q := by rw [← hNp]; simp
  have f1 : ∀ k j, k ≠ 5 → Np.1 k j = N.1 k j := fun k j y1 => by
    rw [← hNp]
    show (if j = n ∧ k = 5 then q else N.1 k j) = N.1 k j
    rw [if_neg (by omega)]
  have f8 : Np.2 8 = n + 1 := by rw [← hNp]; rfl
  have f2 : ∀ z, z ≠ 8 → Np.2 z = N.2 z := fun z hz => by rw [← hNp]; exact if_neg hz
  have hw2 : zH X Np (zRg g n x1 x2 x3 x4) s H2 locs2 := ⟨hwN, hS2, hw.2.2⟩
  have f0 : Np.2 1 = n := (f2 1 (by omega)).trans hn
  have hE4 : zE Np (4 + 1) (Np.2 1) := zE_iff.mpr ⟨by decide, by omega, by
    have a1 : Np.2 1 < Np.2 8 := by omega
    simp [z_ex, a1]⟩
  have ez1 : (Value.ref q) = z_r Np (4 + 1) (Np.2 1) := by
    show Value.ref q = Value.ref (Np.1 5 (Np.2 1))
    rw [f0, f5]
  have ez2 : z_r N 1 1 = z_r Np 1 1 := by
    show Value.ref _ = Value.ref _
    rw [f1 1 1 (by omega)]
  have f3 : Np.2 3 = N.2 3 := f2 3 (by omega)
  rw [ez1, ez2]
  refine va_calli (va_runV (As := [z_r Np (4 + 1) (Np.2 1)]) (rest := []) hF.1 (c_add l X Np (g := zRg g n x1 x2 x3 x4) (i := 1) (Or.inr rfl) hE4 (by show Np.2 1 < Np.2 8; omega) (by omega) (Or.inr (by show Np.2 3 = 0 ∨ Np.2 1 < Np.2 3; omega))) (cwV 1 hts (z_goodV qw_513 qw_514 qw_515 qw_18 qw_516) rfl rfl rfl (by decide +kernel) ⟨Nat.le_of_ble_eq_true rfl, Nat.le_of_ble_eq_true rfl⟩) ⟨zU_blind, z_recv hF hw2 zEf_1_1 (by decide) zC_1, z_pre hF hw2⟩ rfl rfl hl.1 rfl (lv_room (Nat.le_of_ble_eq_true rfl)) dX4_regulation_49 ⟨Nat.le_of_ble_eq_true rfl, Nat.le_of_ble_eq_true rfl⟩) hw2.2.1 (fun q _ h => h) (fun q h => h) (fun r9 N2 t3 H3 locs3 ht3 hvm3 hp3 hB3 hz3 hk3 hS3 => ?_)
  obtain ⟨⟨j1, j2, j3, j4, j5⟩, hU3⟩ := hB3
  have hw3 := zH_back hw2 ht3 hU3 hS3
  refine lv_pop hx hb dX4_regulation_52 rfl ?_
  have ez0 : z_r N 0 0 = z_r N2 0 0 := by
    show Value.ref _ = Value.ref _
    rw [j1 0 0 (by omega), f1 0 0 (by omega)]
  rw [ez0] at hl
  refine lv_aload_n hx hb dX4_regulation_53 rfl (lv_at hl 0 rfl) ?_
  refine zr_get hF hw3 zEf_0_0 (by decide) zC_0 1 (by decide) qw_124 rfl dX4_regulation_54 ?_
  refine zr_size hF hw3 hl.1 (i := 1) zEf_1_1 qw_234 (Nat.le_of_ble_eq_true rfl) dX4_regulation_57 ⟨Nat.le_of_ble_eq_true rfl, Nat.le_of_ble_eq_true rfl⟩ ⟨Nat.le_of_ble_eq_true rfl, Nat.le_of_ble_eq_true rfl⟩ (fun H locs hw3 => ?_)
  refine lv_iconst hx hb dX4_regulation_60 rfl ?_
  refine zr_isub hF dX4_regulation_61 ?_
  have hval : zaddG (zRg g n x1 x2 x3 x4) 1 1 1 2 = g 1 1 2 + 1 := by
    unfold zaddG
    rw [zup_self, zRg_old (by omega)]
  rw [hval]
  refine zx_nret hF hr ⟨fun k j y1 y2 y3 y4 y5 => ?_, fun _ => ?_⟩ hw3 h dX4_regulation_62 ⟨Nat.le_of_ble_eq_true rfl, Nat.le_of_ble_eq_true rfl⟩
  · rw [j1 k j (by omega), f1 k j y2]
  · have g7 := j2 7 (by omega) (by omega)
    have g8 := j2 8 (by omega) (by omega)
    have f7 := f2 7 (by omega)
    have fo := f2 0 (by omega)
    have g0 := j2 0 (by omega) (by omega)
    have j4 : Np.2 3 = 0 → N2.2 3 = 10 := j4
    have j5 : Np.2 1 < Np.2 3 → N2.2 3 = Np.2 3 := j5
    refine ⟨by omega, by omega, ?_⟩
    by_cases c9 : Np.2 3 = 0
    · rw [j4 c9]
      exact Or.inr (by decide)
    · have := j5 (by omega)
      omega
def zWdT (n : Nat) (x1 x2 x3 x4 : Int) (g : zG) : Option ((Nat × Int) × zG) := if 0 ≤ g 1 1 2 ∧ g 1 1 2 < 7 then zbd (sX4_reckonPenalties n (g 1 1 2).toNat (g 1 1 2) (zRg g (g 1 1 2).toNat x1 x2 x3 x4)) (fun _ g => zbd (sX4_sumOfDues n g) (fun r g => some ((0, r), g))) else none
set_option maxHeartbeats 4000000 in
set_option maxRecDepth 100000 in
theorem w_wouldTail {p : Program} {l : Launch} {e : Env} {s : State} {m : MethodId} {args : Array Value} {below : List Frame} {meth : Method} {c : Code} {H : Heap} {locs : List Loc} {ls : Array Slot} {X : zC} {N : zN} {g g' : zG} {o : Nat × Int} {x1 x2 x3 x4 : Int} {nf : Nat} (hF : zF p s m args meth c X cX4_would 5 RX4) (hr : meth.sig.returnType = some .int) (hw : zH X N g s H locs) (hnp : zNp N) (hl : lv_has ls 5 [(0, z_r N 0 0), (1, z_v x1), (2, z_v x2), (3, z_v x3), (4, z_v x4)]) (h : zWdT nf x1 x2 x3 x4 g = some (o, g')) : W p l e { frames := 8, cells := 6, slots := 80, locals := 200 } s m args below meth c H locs 4 24 (vx_MQ below (zYi X N o g') (zXC X N o g') args s 6 80 (zA X)) (F0 m 16 ls [z_r N 0 0]) := by
  unfold zWdT at h
  split at h
  case isFalse => cases h
  rename_i hlt
  have hx := hF.1.1
  have hb := hF.1.2.1
  have hts := hF.1.2.2.2.2
  have hown := hF.1.2.2.2.1
  have hK := hF.2.1
  obtain ⟨s1, s2, s3, s4, s5, s6, s7, s8, s9, s10⟩ := id hw.1.2.2.1
  obtain ⟨p1, p2, p3⟩ := id hnp
  have hA0 : ∀ q, s.heap.size ≤ q → zA X q := fun q h => Nat.le_trans hw.2.2 h
  obtain ⟨n, hn⟩ : ∃ n : Nat, N.2 1 = n := ⟨_, rfl⟩
  have hgn : (g 1 1 2).toNat = n := by rw [s2, hn]; exact Int.toNat_natCast n
  rw [hgn] at h
  refine va_new (ci := 4) (fs := [z_v 0, z_v 0, z_v 0, z_v 0, z_v 0]) (C := RX3) (T := TX3) (N := 5) hx hb hts zC_5.2.1 tyX3 tyX3_ok hown (hts _ qw_292) (hts _ qw_591) (hts _ qw_34) hK hw.1.1 hw.1.2.1 hw.2.1 hA0 rfl (fun j hj => by
    have : j = 0 ∨ j = 1 ∨ j = 2 ∨ j = 3 ∨ j = 4 := by omega
    rcases this with rfl | rfl | rfl | rfl | rfl <;> rfl) (Nat.le_of_ble_eq_true rfl) (Nat.le_of_ble_eq_true rfl) dX4_would_16 (fun q H1 hP1 hD1 hS1 => ?_)
  refine lv_dup hx hb dX4_would_19 rfl ?_
  refine lv_iload_n hx hb dX4_would_20 rfl (lv_at hl 1 rfl) ?_
  refine lv_iload_n hx hb dX4_would_21 rfl (lv_at hl 2 rfl) ?_
  refine lv_iload_n hx hb dX4_would_22 rfl (lv_at hl 3 rfl) ?_
  refine lv_iload hx hb dX4_would_23 (lv_at hl 4 rfl) ?_
  obtain ⟨u1, u2, u3, u4, u5⟩ := z_unpush hP1 hD1
  have hPc : va_P X.1 vwCl [(q, .inr (4, [z_v 0, z_v 0, z_v 0, z_v 0, z_v 0]))] H1 := by
    intro k x hk
    match k, hk with
    | 0, hk => cases hk; exact u3
    | k + 1, hk => simp at hk
  have hb1 : X.2.2.1 ≤ H1.size := Nat.le_trans hw.2.2 hS1.1
  have hFc : ∀ a, va_A [(q, .inr (4, [z_v 0, z_v 0, z_v 0, z_v 0, z_v 0]))] H1.size a → zA X a := by
    intro a ha
    rcases ha with ⟨k, e9, hk⟩ | ha
    · match k, hk with
      | 0, hk => cases hk; exact u4
      | k + 1, hk => simp at hk
    · exact Nat.le_trans hb1 ha
  refine va_callv (va_runI (As := [z_v x1, z_v x2, z_v x3, z_v x4]) (rest := [.ref q, z_r N 0 0]) hF.1 (c_RgInit l X q H1.size x1 x2 x3 x4) (cwI 4 hts (z_goodI qw_594) rfl rfl rfl (hts _ qw_34) (hts _ qw_592) (hts _ qw_593) rfl (by decide +kernel) ⟨Nat.le_of_ble_eq_true rfl, Nat.le_of_ble_eq_true rfl⟩) ⟨fun a U g9 mk q9 => by
    obtain ⟨y0, y1, y2, y3⟩ := q9
    exact ⟨y0, y1, y2, va_K.moved (u := U) (U := U.calling g9 mk a) (Vm.Alike.refl U.vm) y3⟩, fun U hU hW => ⟨rfl, by rw [hU], by rw [hU]; exact hPc, va_K.moved hW.alike hK⟩⟩ rfl rfl hl.1 rfl (lv_room (Nat.le_of_ble_eq_true rfl)) dX4_would_25 ⟨Nat.le_of_ble_eq_true rfl, Nat.le_of_ble_eq_true rfl⟩) hS1 (fun a _ h => hFc a h) hFc (fun u t H2 locs2 ht hvm hp hB hz1 hk1 hS2 => ?_)
  have hB1 := hB
  rw [ht] at hB1
  have c0 := hB1 0 _ rfl
  have hnew : ∀ a, va_A [(q, .inr (4, [z_v 0, z_v 0, z_v 0, z_v 0, z_v 0]))] H1.size a → a ≠ q → H1.size ≤ a := by
    intro a ha hne
    rcases ha with ⟨k, e9, hk⟩ | ha
    · match k, hk with
      | 0, hk => cases hk; exact absurd rfl hne
      | k + 1, hk => simp at hk
    · exact ha
  have hkeep : ∀ (j : Nat) (x : Nat × va_E), (z_pool X N g)[j]? = some x → x.1 < H1.size ∧ ¬ va_A [(q, .inr (4, [z_v 0, z_v 0, z_v 0, z_v 0, z_v 0]))] H1.size x.1 := by
    intro j x hj
    have hl9 := (u1 j x hj).lt
    exact ⟨hl9, fun ha => absurd (hnew _ ha (u5 j x hj)) (by omega)⟩
  have hPp : va_P X.1 vwCl (z_pool X N g) H2 := va_P.kept u1 (fun j x hj => hk1 x.1 (hkeep j x hj).1 (hkeep j x hj).2)
  have hem := hw.1.2.2.2.1
  have hemlt : X.2.2.2 < s.heap.size := Nat.lt_of_lt_of_le hem hw.2.2
  have hwN := z_newRg (X := X) (N := N) (g := g) (n := n) (q := q) (x1 := x1) (x2 := x2) (x3 := x3) (x4 := x4) hw.1 (by omega) (by omega) hPp (fun j x hj => u5 j x hj) u4 c0 (Nat.le_trans hb1 hz1) (hw.1.2.2.2.2.2.kept ((hS2.2.1 _ hemlt (Nat.not_le.mpr hem)).trans (hw.2.1.2.1 _ hemlt (Nat.not_le.mpr hem)).symm))
  generalize hNp : ((fun k j => if j = n ∧ k = 5 then q else N.1 k j, fun z => if z = 8 then n + 1 else N.2 z) : zN) = Np at hwN
  have f5 : Np.1 5 n = q := by rw [← hNp]; simp
  have f1 : ∀ k j, k ≠ 5 → Np.1 k j = N.1 k j := fun k j y1 => by
    rw [← hNp]
    show (if j = n ∧ k = 5 then q else N.1 k j) = N.1 k j
    rw [if_neg (by omega)]
  have f8 : Np.2 8 = n + 1 := by rw [← hNp]; rfl
  have f2 : ∀ z, z ≠ 8 → Np.2 z = N.2 z := fun z hz => by rw [← hNp]; exact if_neg hz
  have hw2 : zH X Np (zRg g n x1 x2 x3 x4) s H2 locs2 := ⟨hwN, hS2, hw.2.2⟩
  have f0 : Np.2 1 = n := (f2 1 (by omega)).trans hn
  have hE5 : zE Np 5 n := zE_iff.mpr ⟨by decide, by omega, by
    have a1 : n < Np.2 8 := by omega
    simp [z_ex, a1]⟩
  have ez1 : (Value.ref q) = z_r Np 5 n := by
    show Value.ref q = Value.ref (Np.1 5 n)
    rw [f5]
  have ez2 : z_r N 0 0 = z_r Np 0 0 := by
    show Value.ref _ = Value.ref _
    rw [f1 0 0 (by omega)]
  rw [ez2] at hl
  rw [ez1, ez2]
  obtain ⟨ra, ga, h1, h⟩ := zbd_some h
  obtain ⟨rb, gb, h2, h⟩ := zbd_some h
  refine lv_aload_n hx hb dX4_would_28 rfl (lv_at hl 0 rfl) ?_
  refine zr_get hF hw2 zEf_0_0 (by decide) zC_0 1 (by decide) qw_124 rfl dX4_would_29 ?_
  refine zr_size hF hw2 hl.1 (i := 1) zEf_1_1 qw_234 (Nat.le_of_ble_eq_true rfl) dX4_would_32 ⟨Nat.le_of_ble_eq_true rfl, Nat.le_of_ble_eq_true rfl⟩ ⟨Nat.le_of_ble_eq_true rfl, Nat.le_of_ble_eq_true rfl⟩ (fun H locs hw3 => ?_)
  have hval : zRg g n x1 x2 x3 x4 1 1 2 = g 1 1 2 := zRg_old (by omega)
  rw [hval]
  refine zr_callVv (n := 2) (As := [z_r Np 5 n, z_v (g 1 1 2)]) (rest := []) hF hw3 (czX4_reckonPenalties l X Np hE5 h1) zEf_0_0 (by decide) zC_0 (z_goodV qw_293 qw_295 qw_3 qw_15 qw_296) (by decide +kernel) ⟨Nat.le_of_ble_eq_true rfl, Nat.le_of_ble_eq_true rfl⟩ ⟨rfl, rfl⟩ rfl hl.1 rfl (Nat.le_of_ble_eq_true rfl) dX4_would_35 ⟨Nat.le_of_ble_eq_true rfl, Nat.le_of_ble_eq_true rfl⟩ (fun H locs hw3 => ?_)
  refine lv_aload_n hx hb dX4_would_38 rfl (lv_at hl 0 rfl) ?_
  refine zr_callVi (n := 0) (As := []) (rest := []) hF hw3 (czX4_sumOfDues l X Np h2) zEf_0_0 (by decide) zC_0 (z_goodV qw_381 qw_383 qw_6 qw_15 qw_384) (by decide +kernel) ⟨Nat.le_of_ble_eq_true rfl, Nat.le_of_ble_eq_true rfl⟩ ⟨rfl, rfl⟩ rfl hl.1 rfl (Nat.le_of_ble_eq_true rfl) dX4_would_39 ⟨Nat.le_of_ble_eq_true rfl, Nat.le_of_ble_eq_true rfl⟩ (fun H locs hw3 => ?_)
  have hz3 := hw3.1.2.2.1
  obtain ⟨v1, v2, v3, v4, v5, v6, v7, v8, v9, v10⟩ := id hz3
  have g0 := f2 0 (by omega)
  have g1 := f2 1 (by omega)
  have g2 := f2 2 (by omega)
  have g3 := f2 3 (by omega)
  have g7 := f2 7 (by omega)
  have hNE : ∀ k i, zE N k i → ¬ (i = n ∧ k = 5) := by
    intro k i hE z
    obtain ⟨rfl, rfl⟩ := z
    have h9 := (zE_iff.mp hE).2.2
    simp [z_ex] at h9
    omega
  have hwb := zW_sub (N := N) hw3.1 ⟨by rw [v1]; omega, by rw [v2]; omega, by omega, by omega, by omega, by omega, by omega, by omega, by omega, by omega⟩ (fun k i hE => by
    obtain ⟨b1, b2, b3⟩ := zE_iff.mp hE
    refine zE_iff.mpr ⟨b1, b2, ?_⟩
    by_cases c5 : k = 5
    · subst c5
      have : i < N.2 8 := by simp [z_ex] at b3; exact b3
      have h9 : i < Np.2 8 := by omega
      simp [z_ex, h9]
    · rw [← b3]
      unfold z_ex
      rw [g7]
      by_cases c16 : k = 16
      · subst c16
        by_cases cj : i < 2
        · rw [f2 (2 + i) (by omega)]
          simp
        · simp [cj]
      · simp [c16, c5]) (fun k i hE => by
    rw [← hNp]
    exact if_neg (hNE k i hE)) (fun z hz => f2 z (by omega))
  exact zx_iret hF hr ⟨hwb, hw3.2.1, hw3.2.2⟩ h dX4_would_42 ⟨Nat.le_of_ble_eq_true rfl, Nat.le_of_ble_eq_true rfl⟩

/-! the methods that make: their ends -/
theorem z_goodI {y : MethodName} {b : ByteArray} {n : Nat} {ret : Option FieldType} (h5 : Cond.code y b n ret ∈ lw_G) : GoodIn lw_G (zws y b n ret) := by
  intro w hw
  have hm : w ∈ lw_G := by
    rcases List.mem_cons.mp hw with rfl | h
    · exact h5
    · exact h
  exact ⟨hm, zG_good hm⟩
def zFlT (x1 x2 : Int) (g : zG) : Option ((Nat × Int) × zG) := if 0 ≤ g 1 0 2 ∧ g 1 0 2 < 24 then some ((0, g 1 0 2 + 1 - 1), zaddG (zFl g (g 1 0 2).toNat x1 x2) 0) else none
def zRgT (x1 x2 x3 x4 : Int) (g : zG) : Option ((Nat × Int) × zG) := if 0 ≤ g 1 1 2 ∧ g 1 1 2 < 6 then some ((0, g 1 1 2 + 1 - 1), zaddG (zRg g (g 1 1 2).toNat x1 x2 x3 x4) 1) else none
theorem zx_nret {p : Program} {l : Launch} {e : Env} {R : Room} {s : State} {m : MethodId} {args : Array Value} {below : List Frame} {meth : Method} {c : Code} {H : Heap} {locs : List Loc} {cells slots : Nat} {cc : ByteArray} {pc nL : Nat} {ls : Array Slot} {own : String} {X : zC} {N N0 : zN} {g g' : zG} {o : Nat × Int} {mc ms : Nat} (hF : zF p s m args meth c X cc nL own) (hr : meth.sig.returnType = some .int) (hs : zSame N0 N) (hw : zH X N g s H locs) {x : Int} (h : (some ((0, x), g) : Option ((Nat × Int) × zG)) = some (o, g')) (hdg : decode cc pc = .ok (.ireturn, 1)) (hc : cells ≤ mc ∧ slots ≤ ms) : W p l e R s m args below meth c H locs cells slots (vx_MQ below (zYn X N0 o g') (zXC X N0 o g') args s mc ms (zA X)) (F0 m pc ls [z_v x]) := by
  cases h
  refine W.widen (k := mc) (n := ms) hc.1 hc.2 (vx_ret ?_)
  exact W.iret (v := Int32.ofInt x) hF.1.1 hF.1.2.1 hr (fun t ht hW => ⟨⟨Int32.ofInt x, N, rfl, ⟨rfl, rfl⟩, hs, by rw [ht]; exact hw.1, va_K.moved hW.alike hF.2.1, zS_pass hF.2.2.1 hw.2.1 hW ht⟩, hw.2.1.F ht⟩) hw.2.1.2.2 hdg hF.2.2.2
set_option maxHeartbeats 4000000 in
set_option maxRecDepth 100000 in
theorem w_flightTail {p : Program} {l : Launch} {e : Env} {s : State} {m : MethodId} {args : Array Value} {below : List Frame} {meth : Method} {c : Code} {H : Heap} {locs : List Loc} {ls : Array Slot} {X : zC} {N : zN} {g g' : zG} {o : Nat × Int} {x1 x2 : Int} (hF : zF p s m args meth c X cX4_flight 3 RX4) (hr : meth.sig.returnType = some .int) (hw : zH X N g s H locs) (hnp : zNp N) (hl : lv_has ls 3 [(0, z_r N 0 0), (1, z_v x1), (2, z_v x2)]) (h : zFlT x1 x2 g = some (o, g')) : W p l e { frames := 8, cells := 6, slots := 80, locals := 200 } s m args below meth c H locs 2 12 (vx_MQ below (zYn X N o g') (zXC X N o g') args s 6 80 (zA X)) (F0 m 38 ls [z_r N 1 0]) := by
  unfold zFlT at h
  split at h
  case isFalse => cases h
  rename_i hlt
  have hx := hF.1.1
  have hb := hF.1.2.1
  have hts := hF.1.2.2.2.2
  have hown := hF.1.2.2.2.1
  have hK := hF.2.1
  obtain ⟨s1, s2, s3, s4, s5, s6, s7, s8, s9, s10⟩ := id hw.1.2.2.1
  obtain ⟨p1, p2, p3⟩ := id hnp
  have hA0 : ∀ q, s.heap.size ≤ q → zA X q := fun q h => Nat.le_trans hw.2.2 h
  obtain ⟨n, hn⟩ : ∃ n : Nat, N.2 0 = n := ⟨_, rfl⟩
  have hgn : (g 1 0 2).toNat = n := by rw [s1, hn]; exact Int.toNat_natCast n
  rw [hgn] at h
  refine va_new (ci := 2) (fs := [z_v 0, z_v 0, z_v 0, z_v 0, z_v 0, z_v 0, z_v 0, z_v 0, z_v 0, z_v 0, .null, .null, z_v 0, z_v 0]) (C := RX1) (T := TX1) (N := 14) hx hb hts zC_4.2.1 tyX1 tyX1_ok hown (hts _ qw_252) (hts _ qw_456) (hts _ qw_30) hK hw.1.1 hw.1.2.1 hw.2.1 hA0 rfl (fun j hj => by
    have : j = 0 ∨ j = 1 ∨ j = 2 ∨ j = 3 ∨ j = 4 ∨ j = 5 ∨ j = 6 ∨ j = 7 ∨ j = 8 ∨ j = 9 ∨ j = 10 ∨ j = 11 ∨ j = 12 ∨ j = 13 := by omega
    rcases this with rfl | rfl | rfl | rfl | rfl | rfl | rfl | rfl | rfl | rfl | rfl | rfl | rfl | rfl <;> rfl) (Nat.le_of_ble_eq_true rfl) (Nat.le_of_ble_eq_true rfl) dX4_flight_38 (fun q H1 hP1 hD1 hS1 => ?_)
  refine lv_dup hx hb dX4_flight_41 rfl ?_
  refine lv_iload_n hx hb dX4_flight_42 rfl (lv_at hl 1 rfl) ?_
  refine lv_iload_n hx hb dX4_flight_43 rfl (lv_at hl 2 rfl) ?_
  obtain ⟨u1, u2, u3, u4, u5⟩ := z_unpush hP1 hD1
  have hPc : va_P X.1 vwCl [(q, .inr (2, [z_v 0, z_v 0, z_v 0, z_v 0, z_v 0, z_v 0, z_v 0, z_v 0, z_v 0, z_v 0, .null, .null, z_v 0, z_v 0]))] H1 := by
    intro k x hk
    match k, hk with
    | 0, hk => cases hk; exact u3
    | k + 1, hk => simp at hk
  have hb1 : X.2.2.1 ≤ H1.size := Nat.le_trans hw.2.2 hS1.1
  have hFc : ∀ a, va_A [(q, .inr (2, [z_v 0, z_v 0, z_v 0, z_v 0, z_v 0, z_v 0, z_v 0, z_v 0, z_v 0, z_v 0, .null, .null, z_v 0, z_v 0]))] H1.size a → zA X a := by
    intro a ha
    rcases ha with ⟨k, e9, hk⟩ | ha
    · match k, hk with
      | 0, hk => cases hk; exact u4
      | k + 1, hk => simp at hk
    · exact Nat.le_trans hb1 ha
  refine va_callv (va_runI (As := [z_v x1, z_v x2]) (rest := [.ref q, z_r N 1 0]) hF.1 (c_FlInit l X q H1.size x1 x2) (cwI 2 hts (z_goodI qw_459) rfl rfl rfl (hts _ qw_30) (hts _ qw_457) (hts _ qw_458) rfl (by decide +kernel) ⟨Nat.le_of_ble_eq_true rfl, Nat.le_of_ble_eq_true rfl⟩) ⟨fun a U g9 mk q9 => by
    obtain ⟨y0, y1, y2, y3⟩ := q9
    exact ⟨y0, y1, y2, va_K.moved (u := U) (U := U.calling g9 mk a) (Vm.Alike.refl U.vm) y3⟩, fun U hU hW => ⟨rfl, by rw [hU], by rw [hU]; exact hPc, va_K.moved hW.alike hK⟩⟩ rfl rfl hl.1 rfl (lv_room (Nat.le_of_ble_eq_true rfl)) dX4_flight_44 ⟨Nat.le_of_ble_eq_true rfl, Nat.le_of_ble_eq_true rfl⟩) hS1 (fun a _ h => hFc a h) hFc (fun u t H2 locs2 ht hvm hp hB hz1 hk1 hS2 => ?_)
  obtain ⟨q1, q2⟩ := u
  obtain ⟨hB1, hB2⟩ := hB
  rw [ht] at hB1
  have c0 := hB1 0 _ rfl
  have c1 := hB1 1 _ rfl
  have c2 := hB1 2 _ rfl
  have hqq : q ≠ q1 ∧ q ≠ q2 ∧ q1 ≠ q2 := ⟨fun z => absurd (hB2.1 0 1 _ _ rfl rfl z) (by decide), fun z => absurd (hB2.1 0 2 _ _ rfl rfl z) (by decide), fun z => absurd (hB2.1 1 2 _ _ rfl rfl z) (by decide)⟩
  have hnew : ∀ a, va_A [(q, .inr (2, [z_v 0, z_v 0, z_v 0, z_v 0, z_v 0, z_v 0, z_v 0, z_v 0, z_v 0, z_v 0, .null, .null, z_v 0, z_v 0]))] H1.size a → a ≠ q → H1.size ≤ a := by
    intro a ha hne
    rcases ha with ⟨k, e9, hk⟩ | ha
    · match k, hk with
      | 0, hk => cases hk; exact absurd rfl hne
      | k + 1, hk => simp at hk
    · exact ha
  have h1n : H1.size ≤ q1 := hnew q1 (hB2.2 1 _ rfl) (Ne.symm hqq.1)
  have h2n : H1.size ≤ q2 := hnew q2 (hB2.2 2 _ rfl) (Ne.symm hqq.2.1)
  have hkeep : ∀ (j : Nat) (x : Nat × va_E), (z_pool X N g)[j]? = some x → x.1 < H1.size ∧ ¬ va_A [(q, .inr (2, [z_v 0, z_v 0, z_v 0, z_v 0, z_v 0, z_v 0, z_v 0, z_v 0, z_v 0, z_v 0, .null, .null, z_v 0, z_v 0]))] H1.size x.1 := by
    intro j x hj
    have hl9 := (u1 j x hj).lt
    exact ⟨hl9, fun ha => absurd (hnew _ ha (u5 j x hj)) (by omega)⟩
  have hPp : va_P X.1 vwCl (z_pool X N g) H2 := va_P.kept u1 (fun j x hj => hk1 x.1 (hkeep j x hj).1 (hkeep j x hj).2)
  have hem := hw.1.2.2.2.1
  have hemlt : X.2.2.2 < s.heap.size := Nat.lt_of_lt_of_le hem hw.2.2
  have hwN := z_newFl (X := X) (N := N) (g := g) (n := n) (q := q) (q1 := q1) (q2 := q2) (c := x1) (p := x2) hw.1 (by omega) (by omega) hPp (fun j x hj => ⟨u5 j x hj, by have := (hkeep j x hj).1; omega, by have := (hkeep j x hj).1; omega⟩) hqq ⟨u4, Nat.le_trans hb1 h1n, Nat.le_trans hb1 h2n⟩ c0 c1 c2 (Nat.le_trans hb1 hz1) (hw.1.2.2.2.2.2.kept ((hS2.2.1 _ hemlt (Nat.not_le.mpr hem)).trans (hw.2.1.2.1 _ hemlt (Nat.not_le.mpr hem)).symm))
  generalize hNp : ((fun k j => if j = n ∧ k = 4 then q else if j = n ∧ k = 14 then q1 else if j = n ∧ k = 15 then q2 else N.1 k j, fun z => if z = 7 then n + 1 else N.2 z) : zN) = Np at hwN
  have f4 : Np.1 4 n = q := by rw [← hNp]; simp
  have f1 : ∀ k j, k ≠ 4 → k ≠ 14 → k ≠ 15 → Np.1 k j = N.1 k j := fun k j y1 y2 y3 => by
    rw [← hNp]
    show (if j = n ∧ k = 4 then q else if j = n ∧ k = 14 then q1 else if j = n ∧ k = 15 then q2 else N.1 k j) = N.1 k j
    rw [if_neg (by omega), if_neg (by omega), if_neg (by omega)]
  have f7 : Np.2 7 = n + 1 := by rw [← hNp]; rfl
  have f2 : ∀ z, z ≠ 7 → Np.2 z = N.2 z := fun z hz => by rw [← hNp]; exact if_neg hz
  have hw2 : zH X Np (zFl g n x1 x2) s H2 locs2 := ⟨hwN, hS2, hw.2.2⟩
  have f0 : Np.2 0 = n := (f2 0 (by omega)).trans hn
  have hE4 : zE Np (4 + 0) (Np.2 0) := zE_iff.mpr ⟨by decide, by omega, by
    have a1 : Np.2 0 < Np.2 7 := by omega
    simp [z_ex, a1]⟩
  have ez1 : (Value.ref q) = z_r Np (4 + 0) (Np.2 0) := by
    show Value.ref q = Value.ref (Np.1 4 (Np.2 0))
    rw [f0, f4]
  have ez2 : z_r N 1 0 = z_r Np 1 0 := by
    show Value.ref _ = Value.ref _
    rw [f1 1 0 (by omega) (by omega) (by omega)]
  rw [ez1, ez2]
  refine va_calli (va_runV (As := [z_r Np (4 + 0) (Np.2 0)]) (rest := []) hF.1 (c_add l X Np (g := zFl g n x1 x2) (i := 0) (Or.inl rfl) hE4 (by show Np.2 0 < Np.2 7; omega) (by omega) (Or.inl rfl)) (cwV 1 hts (z_goodV qw_513 qw_514 qw_515 qw_18 qw_516) rfl rfl rfl (by decide +kernel) ⟨Nat.le_of_ble_eq_true rfl, Nat.le_of_ble_eq_true rfl⟩) ⟨zU_blind, z_recv hF hw2 zEf_1_0 (by decide) zC_1, z_pre hF hw2⟩ rfl rfl hl.1 rfl (lv_room (Nat.le_of_ble_eq_true rfl)) dX4_flight_47 ⟨Nat.le_of_ble_eq_true rfl, Nat.le_of_ble_eq_true rfl⟩) hw2.2.1 (fun q _ h => h) (fun q h => h) (fun r9 N2 t3 H3 locs3 ht3 hvm3 hp3 hB3 hz3 hk3 hS3 => ?_)
  obtain ⟨⟨j1, j2, j3, j4, j5⟩, hU3⟩ := hB3
  have hw3 := zH_back hw2 ht3 hU3 hS3
  refine lv_pop hx hb dX4_flight_50 rfl ?_
  have ez0 : z_r N 0 0 = z_r N2 0 0 := by
    show Value.ref _ = Value.ref _
    rw [j1 0 0 (by omega), f1 0 0 (by omega) (by omega) (by omega)]
  rw [ez0] at hl
  refine lv_aload_n hx hb dX4_flight_51 rfl (lv_at hl 0 rfl) ?_
  refine zr_get hF hw3 zEf_0_0 (by decide) zC_0 0 (by decide) qw_123 rfl dX4_flight_52 ?_
  refine zr_size hF hw3 hl.1 (i := 0) zEf_1_0 qw_234 (Nat.le_of_ble_eq_true rfl) dX4_flight_55 ⟨Nat.le_of_ble_eq_true rfl, Nat.le_of_ble_eq_true rfl⟩ ⟨Nat.le_of_ble_eq_true rfl, Nat.le_of_ble_eq_true rfl⟩ (fun H locs hw3 => ?_)
  refine lv_iconst hx hb dX4_flight_58 rfl ?_
  refine zr_isub hF dX4_flight_59 ?_
  have hval : zaddG (zFl g n x1 x2) 0 1 0 2 = g 1 0 2 + 1 := by
    unfold zaddG
    rw [zup_self, zFl_old (by omega)]
  rw [hval]
  refine zx_nret hF hr ⟨fun k j y1 y2 y3 y4 y5 => ?_, fun _ => ?_⟩ hw3 h dX4_flight_60 ⟨Nat.le_of_ble_eq_true rfl, Nat.le_of_ble_eq_true rfl⟩
  · rw [j1 k j (by omega), f1 k j y1 y3 y4]
  · have g7 := j2 7 (by omega) (by omega)
    have g8 := j2 8 (by omega) (by omega)
    have g1 := j2 1 (by omega) (by omega)
    have g3 := j2 3 (by omega) (by omega)
    have f8 := f2 8 (by omega)
    have f3 := f2 3 (by omega)
    have fo := f2 1 (by omega)
    refine ⟨by omega, by omega, ?_⟩
    rw [g3, f3]
    exact p3

/-! the law's start -/
theorem z_cyL {X : zC} {s : State} {cA : ClassId} (h0 : va_K X.1 vwCl (z_tys X) s) (h1 : va_K X.1 vwCl (z_tys X ++ [(cA, .long)]) s) : cA = X.2.1 2 := by
  have e1 := (h0.2 2 (X.2.1 2, .long) rfl).2
  have e2 := (h1.2 4 (cA, .long) rfl).2
  exact Option.some.inj (e2.symm.trans e1)
set_option maxHeartbeats 4000000 in
set_option maxRecDepth 100000 in
theorem wL_start {p : Program} {l : Launch} {e : Env} {s : State} {m : MethodId} {args : Array Value} {below : List Frame} {meth : Method} {c : Code} {Q : State → Prop} {X : zC} {b : Nat} {ls : Array Slot} (hF : zF p s m args meth c X cL_law 7 RL) (hNs : zNs s) (hb9 : X.2.2.1 = s.heap.size) (hem : X.2.2.2 < s.heap.size) (hea : zEm X s.heap) (hl : lv_has ls 7 [(0, .ref b)])
    (kk : ∀ (N : zN) (H : Heap) (locs : List Loc) (ls : Array Slot), zNp N → zH X N zg0 s H locs → lv_has ls 7 [(0, .ref b), (1, z_r N 0 0), (2, z_r N 6 0), (3, z_r N 17 0), (4, z_v ((0 : Nat) : Int))] → W p l e zRL s m args below meth c H locs 43 2536 Q (F0 m 23 ls [])) : W p l e zRL s m args below meth c s.heap [] 0 0 Q (F0 m 0 ls []) := by
  have hx := hF.1.1
  have hb := hF.1.2.1
  have hts := hF.1.2.2.2.2
  have hown := hF.1.2.2.2.1
  have hK := hF.2.1
  have hZS := hF.2.2.1
  have hAz : ∀ x, zA X x → X.2.2.1 ≤ x := fun x h => h
  have hb0 : X.2.2.1 ≤ s.heap.size := Nat.le_of_eq hb9
  have hA : ∀ x, s.heap.size ≤ x → zA X x := fun x h => Nat.le_trans hb0 h
  have hP : va_P X.1 vwCl [] s.heap := fun k q hk => by simp at hk
  have hD : va_D (zA X) [] := ⟨fun i j p q hp _ _ => by simp at hp, fun k q hk => by simp at hk⟩
  have hS : va_S (zA X) s.heap s.heap [] := va_S.rf
  refine va_new (ci := 5) (fs := [.null, .null, .null, .null]) (C := RX4) (T := TX4) (N := 4) hx hb hts zC_0.2.1 tyX4 tyX4_ok hown (hts _ qw_57) (hts _ qw_58) (hts _ qw_36) hK hP hD hS hA rfl (fun j hj => by
    have : j = 0 ∨ j = 1 ∨ j = 2 ∨ j = 3 := by omega
    rcases this with rfl | rfl | rfl | rfl <;> rfl) (Nat.le_of_ble_eq_true rfl) (Nat.le_of_ble_eq_true rfl) dL_law_0 (fun q1 H hP hD hS => ?_)
  have hP : va_P X.1 vwCl [(q1, .inr (5, [.null, .null, .null, .null]))] H := hP
  have hD : va_D (zA X) [(q1, .inr (5, [.null, .null, .null, .null]))] := hD
  refine lv_dup hx hb dL_law_3 rfl ?_
  refine z_iback (pc_In_SkyloadBureau X q1) (fun _ => rfl) hP hD hS hA (j := 0) rfl (va_runI (As := []) (rest := [.ref q1]) hF.1 (c_In_SkyloadBureau l X q1 H.size (hAz _ (hD.2 0 _ rfl)) (Nat.le_trans hb0 hS.1)) (cwI 0 hts (z_goodI qw_61) rfl rfl rfl (hts _ qw_36) (hts _ qw_59) (hts _ qw_60) rfl (by decide +kernel) ⟨Nat.le_of_ble_eq_true rfl, Nat.le_of_ble_eq_true rfl⟩) ⟨zB_blind, zB_pre hK hNs hZS hAz hS hP (j := 0) rfl⟩ rfl rfl hl.1 rfl (lv_room (Nat.le_of_ble_eq_true rfl)) dL_law_4 ⟨Nat.le_of_ble_eq_true rfl, Nat.le_of_ble_eq_true rfl⟩) (fun u H locs hP hD hS => ?_)
  have hP : va_P X.1 vwCl (pc_In_SkyloadBureau X q1 u) H := hP
  have hD : va_D (zA X) (pc_In_SkyloadBureau X q1 u) := hD
  refine lv_astore_n (lv' := [(1, .ref q1), (0, .ref b)]) hx hb dL_law_7 rfl hl (by decide) rfl (fun ls hl => ?_)
  refine va_new (ci := 6) (fs := [z_v 0, z_v 0, .null, .null, .null, .null, .null, .null, .null, .null, .null, .null, .null, .null, z_v 0, .null, .null, .null, .null, .null, .null, .null, .null, .null, z_v 0, z_v 0, z_v 0, z_v 0, z_v 0, .null]) (C := RX5) (T := TX5) (N := 30) hx hb hts zC_6.2.1 tyX5 tyX5_ok hown (hts _ qw_816) (hts _ qw_817) (hts _ qw_42) hK hP hD hS hA rfl (fun j hj => by
    have : j = 0 ∨ j = 1 ∨ j = 2 ∨ j = 3 ∨ j = 4 ∨ j = 5 ∨ j = 6 ∨ j = 7 ∨ j = 8 ∨ j = 9 ∨ j = 10 ∨ j = 11 ∨ j = 12 ∨ j = 13 ∨ j = 14 ∨ j = 15 ∨ j = 16 ∨ j = 17 ∨ j = 18 ∨ j = 19 ∨ j = 20 ∨ j = 21 ∨ j = 22 ∨ j = 23 ∨ j = 24 ∨ j = 25 ∨ j = 26 ∨ j = 27 ∨ j = 28 ∨ j = 29 := by omega
    rcases this with rfl | rfl | rfl | rfl | rfl | rfl | rfl | rfl | rfl | rfl | rfl | rfl | rfl | rfl | rfl | rfl | rfl | rfl | rfl | rfl | rfl | rfl | rfl | rfl | rfl | rfl | rfl | rfl | rfl | rfl <;> rfl) (Nat.le_of_ble_eq_true rfl) (Nat.le_of_ble_eq_true rfl) dL_law_8 (fun q2 H hP hD hS => ?_)
  refine lv_dup hx hb dL_law_11 rfl ?_
  refine z_iback (pc_In_SkyloadBureauModel X q2) (fun _ => rfl) hP hD hS hA (j := 19) rfl (va_runI (As := []) (rest := [.ref q2]) hF.1 (c_In_SkyloadBureauModel l X q2 H.size (hAz _ (hD.2 19 _ rfl)) (Nat.le_trans hb0 hS.1)) (cwI 0 hts (z_goodI qw_820) rfl rfl rfl (hts _ qw_42) (hts _ qw_818) (hts _ qw_819) rfl (by decide +kernel) ⟨Nat.le_of_ble_eq_true rfl, Nat.le_of_ble_eq_true rfl⟩) ⟨zB_blind, zB_pre hK hNs hZS hAz hS hP (j := 19) rfl⟩ rfl rfl hl.1 rfl (lv_room (Nat.le_of_ble_eq_true rfl)) dL_law_12 ⟨Nat.le_of_ble_eq_true rfl, Nat.le_of_ble_eq_true rfl⟩) (fun w H locs hP hD hS => ?_)
  have hP : va_P X.1 vwCl (pc_In_SkyloadBureau X q1 u ++ pc_In_SkyloadBureauModel X q2 w) H := hP
  have hD : va_D (zA X) (pc_In_SkyloadBureau X q1 u ++ pc_In_SkyloadBureauModel X q2 w) := hD
  refine lv_astore_n (lv' := [(2, .ref q2), (1, .ref q1), (0, .ref b)]) hx hb dL_law_15 rfl hl (by decide) rfl (fun ls hl => ?_)
  refine lv_iconst hx hb dL_law_16 rfl ?_
  refine va_newa (atype := .long) (a0 := (1, .inr (.inl (fun _ => Int64.ofInt 0)))) (ty := .long) (N' := 1) hx hb (hts _ qw_1105) rfl hK hP hD hS hA (fun _ => rfl) (by decide) (by decide) (Nat.le_of_ble_eq_true rfl) (Nat.le_of_ble_eq_true rfl) (Nat.le_of_ble_eq_true rfl) dL_law_17 (fun q3 cA H hK1 hP hD hS => ?_)
  have hcA := z_cyL hK hK1
  subst hcA
  clear hK1
  refine lv_astore_n (lv' := [(3, .ref q3), (2, .ref q2), (1, .ref q1), (0, .ref b)]) hx hb dL_law_19 rfl hl (by decide) rfl (fun ls hl => ?_)
  refine lv_iconst hx hb dL_law_20 rfl ?_
  refine lv_istore (lv' := [(4, z_v ((0 : Nat) : Int)), (3, .ref q3), (2, .ref q2), (1, .ref q1), (0, .ref b)]) hx hb dL_law_21 hl (by decide) rfl (fun ls hl => ?_)
  obtain ⟨w1, w2⟩ := z_start (X := X) (H := H) (b := q1) (mo := q2) (q := q3) (u := u) (w := w) hP hD (by omega) (Nat.le_trans hb0 hS.1) (hea.kept (hS.2.1 _ hem (by show ¬ X.2.2.1 ≤ X.2.2.2; omega)))
  exact kk (zN0 q1 q2 q3 u w) H _ ls w2 ⟨w1, hS, hb0⟩ (lv_sub hl [4, 3, 2, 1, 0] rfl)

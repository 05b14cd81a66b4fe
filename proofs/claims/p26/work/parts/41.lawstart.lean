/-! the law's start -/
set_option maxHeartbeats 4000000 in
set_option maxRecDepth 100000 in
theorem wL_start {p : Program} {l : Launch} {e : Env} {s : State} {m : MethodId} {args : Array Value} {below : List Frame} {meth : Method} {c : Code} {Q : State → Prop} {X : zC} {b : Nat} {ls : Array Slot} (hF : zF p s m args meth c X cL_law 7 RL) (hNs : zNs s) (hb9 : X.2.2.1 = s.heap.size) (hem : X.2.2.2 < s.heap.size) (hea : zEm X s.heap) (hl : lv_has ls 7 [(0, .ref b)])
    (kk : ∀ (N : zN) (H : Heap) (locs : List Loc) (ls : Array Slot), zNp N → zH X N zg0 s H locs → lv_has ls 7 [(0, .ref b), (1, z_r N 0 0), (2, z_r N 17 0)] → W p l e zRL s m args below meth c H locs 100 4000 Q (F0 m 12 ls [])) : W p l e zRL s m args below meth c s.heap [] 0 0 Q (F0 m 0 ls []) := by
  have hx := hF.1.1
  have hb := hF.1.2.1
  have hts := hF.1.2.2.2.2
  have hown := hF.1.2.2.2.1
  have hK := hF.2.1
  have hZS := hF.2.2.1
  have hAz : ∀ x, zA X x → X.2.2.1 ≤ x := fun x h => h
  have hb0 : X.2.2.1 ≤ s.heap.size := Nat.le_of_eq hb9
  have hA : ∀ x, s.heap.size ≤ x → zA X x := fun x h => Nat.le_trans hb0 h
  have hP : va_P X.1 vwCl [] s.heap := fun k q hk => by simp at hk
  have hD : va_D (zA X) [] := ⟨fun i j p q hp _ _ => by simp at hp, fun k q hk => by simp at hk⟩
  have hS : va_S (zA X) s.heap s.heap [] := va_S.rf
  refine va_new (ci := 5) (fs := [.null, .null, .null, .null]) (C := RX4) (T := TX4) (N := 4) hx hb hts zC_0.2.1 tyX4 tyX4_ok hown (hts _ qw_35) (hts _ qw_36) (hts _ qw_15) hK hP hD hS hA rfl (fun j hj => by
    have : j = 0 ∨ j = 1 ∨ j = 2 ∨ j = 3 := by omega
    rcases this with rfl | rfl | rfl | rfl <;> rfl) (Nat.le_of_ble_eq_true rfl) (Nat.le_of_ble_eq_true rfl) dL_law_0 (fun q1 H hP hD hS => ?_)
  have hP : va_P X.1 vwCl [(q1, .inr (5, [.null, .null, .null, .null]))] H := hP
  have hD : va_D (zA X) [(q1, .inr (5, [.null, .null, .null, .null]))] := hD
  refine lv_dup hx hb dL_law_3 rfl ?_
  refine z_iback (pc_In_SkyloadBureau X q1) (fun _ => rfl) hP hD hS hA (j := 0) rfl (va_runI (As := []) (rest := [.ref q1]) hF.1 (c_In_SkyloadBureau l X q1 H.size (hAz _ (hD.2 0 _ rfl)) (Nat.le_trans hb0 hS.1)) (cwI 0 hts (z_goodI qw_39) rfl rfl rfl (hts _ qw_15) (hts _ qw_37) (hts _ qw_38) rfl (by decide +kernel) ⟨Nat.le_of_ble_eq_true rfl, Nat.le_of_ble_eq_true rfl⟩) ⟨zB_blind, zB_pre hK hNs hZS hAz hS hP (j := 0) rfl⟩ rfl rfl hl.1 rfl (lv_room (Nat.le_of_ble_eq_true rfl)) dL_law_4 ⟨Nat.le_of_ble_eq_true rfl, Nat.le_of_ble_eq_true rfl⟩) (fun u H locs hP hD hS => ?_)
  have hP : va_P X.1 vwCl (pc_In_SkyloadBureau X q1 u) H := hP
  have hD : va_D (zA X) (pc_In_SkyloadBureau X q1 u) := hD
  refine lv_astore_n (lv' := [(1, .ref q1), (0, .ref b)]) hx hb dL_law_7 rfl hl (by decide) rfl (fun ls hl => ?_)
  refine lv_iconst hx hb dL_law_8 rfl ?_
  refine va_newa (atype := .int) (a0 := (3, .inl (fun _ => Int32.ofInt 0))) (ty := .int) (N' := 3) hx hb (hts _ qw_99) rfl hK hP hD hS hA (fun _ => rfl) (by decide) (by decide) (Nat.le_of_ble_eq_true rfl) (Nat.le_of_ble_eq_true rfl) (Nat.le_of_ble_eq_true rfl) dL_law_9 (fun q3 cA H hK1 hP hD hS => ?_)
  have hcA := z_cyI hK hK1
  subst hcA
  clear hK1
  refine lv_astore_n (lv' := [(2, .ref q3), (1, .ref q1), (0, .ref b)]) hx hb dL_law_11 rfl hl (by decide) rfl (fun ls hl => ?_)
  obtain ⟨w1, w2⟩ := z_start (X := X) (H := H) (b := q1) (q := q3) (u := u) hP hD (by omega) (Nat.le_trans hb0 hS.1) (hea.kept (hS.2.1 _ hem (by show ¬ X.2.2.1 ≤ X.2.2.2; omega)))
  refine W.widen (k := 100) (n := 4000) (Nat.le_of_ble_eq_true rfl) (Nat.le_of_ble_eq_true rfl) ?_
  exact kk (zN0 q1 q3 u) H _ ls w2 ⟨w1, hS, hb0⟩ (lv_sub hl [2, 1, 0] rfl)

/-! makers: lists, lines -/
def pc_In_AbstractCollection (X : zC) (h0 : Nat) (u : Nat → Nat) : va_W := [(h0, .inr (0, [z_v 0, .null, z_v 0]))]
set_option maxHeartbeats 4000000 in
set_option maxRecDepth 100000 in
theorem c_In_AbstractCollection (l : Launch) (X : zC) (h0 sz : Nat) (hh : X.2.2.1 ≤ h0) (hs : X.2.2.1 ≤ sz) : zMI l yJxa1e45_init_da8c8 cJxa1e45_init_da8c8 { frames := 1, cells := 0, slots := 0, locals := 40 } X h0 sz (.inr (0, [z_v 0, .null, z_v 0])) (pc_In_AbstractCollection X h0) := by
  refine z_iofW (own := RJxa1e45) (by decide +kernel) rfl rfl hh hs ?_
  intro p e s m args below meth c ls A hF hr hlocks hin hP hD hS hK hNs hZS hAz hA hb0 hml hl
  have hx := hF.1
  have hb := hF.2.1
  have hown := hF.2.2.2.1
  have hts := hF.2.2.2.2
  obtain ⟨H, hH⟩ : ∃ H, H = s.heap := ⟨_, rfl⟩
  obtain ⟨locs, hlc⟩ : ∃ z : List Loc, z = [] := ⟨_, rfl⟩
  have hS : va_S A s.heap H locs := by rw [hH, hlc]; exact hS
  have hP : va_P X.1 vwCl [(h0, .inr (0, [z_v 0, .null, z_v 0]))] H := by rw [hH]; exact hP
  rw [← hlc]
  have goal : ∀ H1 : Heap, H1 = H → W p l e { frames := 1, cells := 0, slots := 0, locals := 40 } s m args below meth c H1 locs 0 0 (MQ below (va_Qv (fun (_ : Nat → Nat) => True) (fun u t => va_P X.1 vwCl (pc_In_AbstractCollection X h0 u) t.heap ∧ va_D A (pc_In_AbstractCollection X h0 u)) A) args s 0 0 A) (F0 m 0 ls []) := by
    intro H1 hH1
    rw [hH1]
    clear hH1 hH
    refine lv_aload_n hx hb dJxa1e45_init_da8c8_0 rfl (lv_at hl 0 rfl) ?_
    refine W.objInit hx hb hown (hts _ qw_54) (hts _ qw_41) (hts _ qw_42) rfl (hl.1.trans hml.symm) rfl dJxa1e45_init_da8c8_1 (Nat.le_of_ble_eq_true rfl) (Nat.le_of_ble_eq_true rfl) ?_
    refine W.eq (g2 := F0 m 4 ls []) rfl ?_
    exact W.vret hx hb hr (fun t ht hW => ⟨⟨(fun j => match j with | _ => 0), rfl, trivial, by rw [ht]; exact hP, hD⟩, hS.F ht⟩) hS.2.2 dJxa1e45_init_da8c8_4 hlocks
  exact goal _ hH.symm
def pc_In_AbstractList (X : zC) (h0 : Nat) (u : Nat → Nat) : va_W := [(h0, .inr (0, [z_v 0, .null, z_v 0]))]
set_option maxHeartbeats 4000000 in
set_option maxRecDepth 100000 in
theorem c_In_AbstractList (l : Launch) (X : zC) (h0 sz : Nat) (hh : X.2.2.1 ≤ h0) (hs : X.2.2.1 ≤ sz) : zMI l yJxc12de_init_da8c8 cJxc12de_init_da8c8 { frames := 2, cells := 0, slots := 0, locals := 64 } X h0 sz (.inr (0, [z_v 0, .null, z_v 0])) (pc_In_AbstractList X h0) := by
  refine z_iofW (own := RJxc12de) (by decide +kernel) rfl rfl hh hs ?_
  intro p e s m args below meth c ls A hF hr hlocks hin hP hD hS hK hNs hZS hAz hA hb0 hml hl
  have hx := hF.1
  have hb := hF.2.1
  have hown := hF.2.2.2.1
  have hts := hF.2.2.2.2
  obtain ⟨H, hH⟩ : ∃ H, H = s.heap := ⟨_, rfl⟩
  obtain ⟨locs, hlc⟩ : ∃ z : List Loc, z = [] := ⟨_, rfl⟩
  have hS : va_S A s.heap H locs := by rw [hH, hlc]; exact hS
  have hP : va_P X.1 vwCl [(h0, .inr (0, [z_v 0, .null, z_v 0]))] H := by rw [hH]; exact hP
  rw [← hlc]
  have goal : ∀ H1 : Heap, H1 = H → W p l e { frames := 2, cells := 0, slots := 0, locals := 64 } s m args below meth c H1 locs 0 0 (MQ below (va_Qv (fun (_ : Nat → Nat) => True) (fun u t => va_P X.1 vwCl (pc_In_AbstractList X h0 u) t.heap ∧ va_D A (pc_In_AbstractList X h0 u)) A) args s 0 0 A) (F0 m 0 ls []) := by
    intro H1 hH1
    rw [hH1]
    clear hH1 hH
    refine lv_aload_n hx hb dJxc12de_init_da8c8_0 rfl (lv_at hl 0 rfl) ?_
    refine z_iback (pc_In_AbstractCollection X h0) (fun _ => rfl) hP hD hS hA (j := 0) rfl (va_runI (As := []) (rest := []) hF (c_In_AbstractCollection l X h0 H.size (hAz _ (hD.2 0 _ rfl)) (Nat.le_trans hb0 hS.1)) (cwI 0 hts (z_goodI qw_53) rfl rfl rfl (hts _ qw_16) (hts _ qw_51) (hts _ qw_52) rfl (by decide +kernel) ⟨Nat.le_of_ble_eq_true rfl, Nat.le_of_ble_eq_true rfl⟩) ⟨zB_blind, zB_pre hK hNs hZS hAz hS hP (j := 0) rfl⟩ rfl rfl hl.1 rfl (lv_room (Nat.le_of_ble_eq_true rfl)) dJxc12de_init_da8c8_1 ⟨Nat.le_of_ble_eq_true rfl, Nat.le_of_ble_eq_true rfl⟩) (fun u1 H locs hP hD hS => ?_)
    have hP : va_P X.1 vwCl [(h0, .inr (0, [z_v 0, .null, z_v 0]))] H := hP
    have hD : va_D A [(h0, .inr (0, [z_v 0, .null, z_v 0]))] := hD
    refine lv_aload_n hx hb dJxc12de_init_da8c8_4 rfl (lv_at hl 0 rfl) ?_
    refine lv_iconst hx hb dJxc12de_init_da8c8_5 rfl ?_
    refine va_put (D := X.1) (C := RJx4a65c) (T := TJx4a65c) (N := 3) (ty := .int) (v := z_v 0) hx hb hts zC_1.2.1 tyJx4a65c tyJx4a65c_ok nmJx4a65c hown hK hP hD hS 0 rfl rfl 0 (by decide) (hts _ qw_59) (fun _ h9 => h9) rfl (by decide +kernel) rfl rfl (Nat.le_of_ble_eq_true rfl) dJxc12de_init_da8c8_6 (fun H locs hP hD hS => ?_)
    have hP : va_P X.1 vwCl [(h0, .inr (0, [z_v 0, .null, z_v 0]))] H := hP
    have hD : va_D A [(h0, .inr (0, [z_v 0, .null, z_v 0]))] := hD
    exact W.vret hx hb hr (fun t ht hW => ⟨⟨(fun j => match j with | _ => 0), rfl, trivial, by rw [ht]; exact hP, hD⟩, hS.F ht⟩) hS.2.2 dJxc12de_init_da8c8_9 hlocks
  exact goal _ hH.symm
def pc_In_ArrayList (X : zC) (h0 : Nat) (u : Nat → Nat) : va_W := [(h0, .inr (0, [z_v 0, .ref X.2.2.2, z_v 0]))]
set_option maxHeartbeats 4000000 in
set_option maxRecDepth 100000 in
theorem c_In_ArrayList (l : Launch) (X : zC) (h0 sz : Nat) (hh : X.2.2.1 ≤ h0) (hs : X.2.2.1 ≤ sz) : zMI l yJx4a65c_init_da8c8 cJx4a65c_init_da8c8 { frames := 3, cells := 0, slots := 0, locals := 88 } X h0 sz (.inr (0, [z_v 0, .null, z_v 0])) (pc_In_ArrayList X h0) := by
  refine z_iofW (own := RJx4a65c) (by decide +kernel) rfl rfl hh hs ?_
  intro p e s m args below meth c ls A hF hr hlocks hin hP hD hS hK hNs hZS hAz hA hb0 hml hl
  have hx := hF.1
  have hb := hF.2.1
  have hown := hF.2.2.2.1
  have hts := hF.2.2.2.2
  obtain ⟨H, hH⟩ : ∃ H, H = s.heap := ⟨_, rfl⟩
  obtain ⟨locs, hlc⟩ : ∃ z : List Loc, z = [] := ⟨_, rfl⟩
  have hS : va_S A s.heap H locs := by rw [hH, hlc]; exact hS
  have hP : va_P X.1 vwCl [(h0, .inr (0, [z_v 0, .null, z_v 0]))] H := by rw [hH]; exact hP
  rw [← hlc]
  have goal : ∀ H1 : Heap, H1 = H → W p l e { frames := 3, cells := 0, slots := 0, locals := 88 } s m args below meth c H1 locs 0 0 (MQ below (va_Qv (fun (_ : Nat → Nat) => True) (fun u t => va_P X.1 vwCl (pc_In_ArrayList X h0 u) t.heap ∧ va_D A (pc_In_ArrayList X h0 u)) A) args s 0 0 A) (F0 m 0 ls []) := by
    intro H1 hH1
    rw [hH1]
    clear hH1 hH
    refine lv_aload_n hx hb dJx4a65c_init_da8c8_0 rfl (lv_at hl 0 rfl) ?_
    refine z_iback (pc_In_AbstractList X h0) (fun _ => rfl) hP hD hS hA (j := 0) rfl (va_runI (As := []) (rest := []) hF (c_In_AbstractList l X h0 H.size (hAz _ (hD.2 0 _ rfl)) (Nat.le_trans hb0 hS.1)) (cwI 0 hts (z_goodI qw_50) rfl rfl rfl (hts _ qw_17) (hts _ qw_48) (hts _ qw_49) rfl (by decide +kernel) ⟨Nat.le_of_ble_eq_true rfl, Nat.le_of_ble_eq_true rfl⟩) ⟨zB_blind, zB_pre hK hNs hZS hAz hS hP (j := 0) rfl⟩ rfl rfl hl.1 rfl (lv_room (Nat.le_of_ble_eq_true rfl)) dJx4a65c_init_da8c8_1 ⟨Nat.le_of_ble_eq_true rfl, Nat.le_of_ble_eq_true rfl⟩) (fun u1 H locs hP hD hS => ?_)
    have hP : va_P X.1 vwCl [(h0, .inr (0, [z_v 0, .null, z_v 0]))] H := hP
    have hD : va_D A [(h0, .inr (0, [z_v 0, .null, z_v 0]))] := hD
    refine lv_aload_n hx hb dJx4a65c_init_da8c8_4 rfl (lv_at hl 0 rfl) ?_
    refine va_gets (C := "java/util/ArrayList") (n := "DEFAULTCAPACITY_EMPTY_ELEMENTDATA") (d := "[Ljava/lang/Object;") hx hb hZS.2.2.1 (z_mono hAz hS) hown (hts _ qw_55) (fun _ h9 => h9) dJx4a65c_init_da8c8_5 ?_
    refine va_put (D := X.1) (C := RJx4a65c) (T := TJx4a65c) (N := 3) (ty := .array (.object "java/lang/Object")) (v := .ref X.2.2.2) hx hb hts zC_1.2.1 tyJx4a65c tyJx4a65c_ok nmJx4a65c hown hK hP hD hS 0 rfl rfl 1 (by decide) (hts _ qw_57) (fun _ h9 => h9) rfl (by decide +kernel) rfl rfl (Nat.le_of_ble_eq_true rfl) dJx4a65c_init_da8c8_8 (fun H locs hP hD hS => ?_)
    have hP : va_P X.1 vwCl [(h0, .inr (0, [z_v 0, .ref X.2.2.2, z_v 0]))] H := hP
    have hD : va_D A [(h0, .inr (0, [z_v 0, .ref X.2.2.2, z_v 0]))] := hD
    exact W.vret hx hb hr (fun t ht hW => ⟨⟨(fun j => match j with | _ => 0), rfl, trivial, by rw [ht]; exact hP, hD⟩, hS.F ht⟩) hS.2.2 dJx4a65c_init_da8c8_11 hlocks
  exact goal _ hH.symm
def pc_In_SkyloadBureau_Line (X : zC) (h0 : Nat) (u : Nat → Nat) : va_W := [(h0, .inr (3, [.ref (u 0), .ref (u 1), .ref (u 2), .ref (u 3), z_v 0])), ((u 0), .inl (X.2.1 0, 24, .inl (fun _ => Int32.ofInt 0))), ((u 1), .inl (X.2.1 0, 24, .inl (fun _ => Int32.ofInt 0))), ((u 2), .inl (X.2.1 0, 24, .inl (fun _ => Int32.ofInt 0))), ((u 3), .inl (X.2.1 0, 24, .inl (fun _ => Int32.ofInt 0)))]
set_option maxHeartbeats 4000000 in
set_option maxRecDepth 100000 in
theorem c_In_SkyloadBureau_Line (l : Launch) (X : zC) (h0 sz : Nat) (hh : X.2.2.1 ≤ h0) (hs : X.2.2.1 ≤ sz) : zMI l yX2_init cX2_init { frames := 1, cells := 4, slots := 96, locals := 40 } X h0 sz (.inr (3, [.null, .null, .null, .null, z_v 0])) (pc_In_SkyloadBureau_Line X h0) := by
  refine z_iofW (own := RX2) (by decide +kernel) rfl rfl hh hs ?_
  intro p e s m args below meth c ls A hF hr hlocks hin hP hD hS hK hNs hZS hAz hA hb0 hml hl
  have hx := hF.1
  have hb := hF.2.1
  have hown := hF.2.2.2.1
  have hts := hF.2.2.2.2
  obtain ⟨H, hH⟩ : ∃ H, H = s.heap := ⟨_, rfl⟩
  obtain ⟨locs, hlc⟩ : ∃ z : List Loc, z = [] := ⟨_, rfl⟩
  have hS : va_S A s.heap H locs := by rw [hH, hlc]; exact hS
  have hP : va_P X.1 vwCl [(h0, .inr (3, [.null, .null, .null, .null, z_v 0]))] H := by rw [hH]; exact hP
  rw [← hlc]
  have goal : ∀ H1 : Heap, H1 = H → W p l e { frames := 1, cells := 4, slots := 96, locals := 40 } s m args below meth c H1 locs 0 0 (MQ below (va_Qv (fun (_ : Nat → Nat) => True) (fun u t => va_P X.1 vwCl (pc_In_SkyloadBureau_Line X h0 u) t.heap ∧ va_D A (pc_In_SkyloadBureau_Line X h0 u)) A) args s 4 96 A) (F0 m 0 ls []) := by
    intro H1 hH1
    rw [hH1]
    clear hH1 hH
    refine lv_aload_n hx hb dX2_init_0 rfl (lv_at hl 0 rfl) ?_
    refine W.objInit hx hb hown (hts _ qw_80) (hts _ qw_41) (hts _ qw_42) rfl (hl.1.trans hml.symm) rfl dX2_init_1 (Nat.le_of_ble_eq_true rfl) (Nat.le_of_ble_eq_true rfl) ?_
    refine W.eq (g2 := F0 m 4 ls []) rfl ?_
    refine lv_aload_n hx hb dX2_init_4 rfl (lv_at hl 0 rfl) ?_
    refine lv_bipush (v := Int32.ofInt 24) hx hb dX2_init_5 (by decide) ?_
    refine va_newa (atype := .int) (a0 := (24, .inl (fun _ => Int32.ofInt 0))) (ty := .int) (N' := 24) hx hb (hts _ qw_99) rfl hK hP hD hS hA (fun _ => rfl) (by decide) (by decide) (Nat.le_of_ble_eq_true rfl) (Nat.le_of_ble_eq_true rfl) (Nat.le_of_ble_eq_true rfl) dX2_init_7 (fun q1 cA H hK1 hP hD hS => ?_)
    have hcA := z_cyI hK hK1
    subst hcA
    clear hK1
    have hP : va_P X.1 vwCl [(h0, .inr (3, [.null, .null, .null, .null, z_v 0])), (q1, .inl (X.2.1 0, 24, .inl (fun _ => Int32.ofInt 0)))] H := hP
    have hD : va_D A [(h0, .inr (3, [.null, .null, .null, .null, z_v 0])), (q1, .inl (X.2.1 0, 24, .inl (fun _ => Int32.ofInt 0)))] := hD
    refine va_putF (D := X.1) (C := RX2) (T := TX2) (N := 5) (ty := .array .int) (v := .ref q1) hx hb hts zC_3.2.1 tyX2 tyX2_ok nmX2 hown hK hP hD hS 0 rfl rfl 0 (by decide) (hts _ qw_81) (fun _ h9 => h9) rfl hin rfl (by decide +kernel) rfl rfl (Nat.le_of_ble_eq_true rfl) dX2_init_9 (fun H locs hP hD hS => ?_)
    have hP : va_P X.1 vwCl [(h0, .inr (3, [.ref q1, .null, .null, .null, z_v 0])), (q1, .inl (X.2.1 0, 24, .inl (fun _ => Int32.ofInt 0)))] H := hP
    have hD : va_D A [(h0, .inr (3, [.ref q1, .null, .null, .null, z_v 0])), (q1, .inl (X.2.1 0, 24, .inl (fun _ => Int32.ofInt 0)))] := hD
    refine lv_aload_n hx hb dX2_init_12 rfl (lv_at hl 0 rfl) ?_
    refine lv_bipush (v := Int32.ofInt 24) hx hb dX2_init_13 (by decide) ?_
    refine va_newa (atype := .int) (a0 := (24, .inl (fun _ => Int32.ofInt 0))) (ty := .int) (N' := 24) hx hb (hts _ qw_99) rfl hK hP hD hS hA (fun _ => rfl) (by decide) (by decide) (Nat.le_of_ble_eq_true rfl) (Nat.le_of_ble_eq_true rfl) (Nat.le_of_ble_eq_true rfl) dX2_init_15 (fun q2 cA H hK1 hP hD hS => ?_)
    have hcA := z_cyI hK hK1
    subst hcA
    clear hK1
    have hP : va_P X.1 vwCl [(h0, .inr (3, [.ref q1, .null, .null, .null, z_v 0])), (q1, .inl (X.2.1 0, 24, .inl (fun _ => Int32.ofInt 0))), (q2, .inl (X.2.1 0, 24, .inl (fun _ => Int32.ofInt 0)))] H := hP
    have hD : va_D A [(h0, .inr (3, [.ref q1, .null, .null, .null, z_v 0])), (q1, .inl (X.2.1 0, 24, .inl (fun _ => Int32.ofInt 0))), (q2, .inl (X.2.1 0, 24, .inl (fun _ => Int32.ofInt 0)))] := hD
    refine va_putF (D := X.1) (C := RX2) (T := TX2) (N := 5) (ty := .array .int) (v := .ref q2) hx hb hts zC_3.2.1 tyX2 tyX2_ok nmX2 hown hK hP hD hS 0 rfl rfl 1 (by decide) (hts _ qw_82) (fun _ h9 => h9) rfl hin rfl (by decide +kernel) rfl rfl (Nat.le_of_ble_eq_true rfl) dX2_init_17 (fun H locs hP hD hS => ?_)
    have hP : va_P X.1 vwCl [(h0, .inr (3, [.ref q1, .ref q2, .null, .null, z_v 0])), (q1, .inl (X.2.1 0, 24, .inl (fun _ => Int32.ofInt 0))), (q2, .inl (X.2.1 0, 24, .inl (fun _ => Int32.ofInt 0)))] H := hP
    have hD : va_D A [(h0, .inr (3, [.ref q1, .ref q2, .null, .null, z_v 0])), (q1, .inl (X.2.1 0, 24, .inl (fun _ => Int32.ofInt 0))), (q2, .inl (X.2.1 0, 24, .inl (fun _ => Int32.ofInt 0)))] := hD
    refine lv_aload_n hx hb dX2_init_20 rfl (lv_at hl 0 rfl) ?_
    refine lv_bipush (v := Int32.ofInt 24) hx hb dX2_init_21 (by decide) ?_
    refine va_newa (atype := .int) (a0 := (24, .inl (fun _ => Int32.ofInt 0))) (ty := .int) (N' := 24) hx hb (hts _ qw_99) rfl hK hP hD hS hA (fun _ => rfl) (by decide) (by decide) (Nat.le_of_ble_eq_true rfl) (Nat.le_of_ble_eq_true rfl) (Nat.le_of_ble_eq_true rfl) dX2_init_23 (fun q3 cA H hK1 hP hD hS => ?_)
    have hcA := z_cyI hK hK1
    subst hcA
    clear hK1
    have hP : va_P X.1 vwCl [(h0, .inr (3, [.ref q1, .ref q2, .null, .null, z_v 0])), (q1, .inl (X.2.1 0, 24, .inl (fun _ => Int32.ofInt 0))), (q2, .inl (X.2.1 0, 24, .inl (fun _ => Int32.ofInt 0))), (q3, .inl (X.2.1 0, 24, .inl (fun _ => Int32.ofInt 0)))] H := hP
    have hD : va_D A [(h0, .inr (3, [.ref q1, .ref q2, .null, .null, z_v 0])), (q1, .inl (X.2.1 0, 24, .inl (fun _ => Int32.ofInt 0))), (q2, .inl (X.2.1 0, 24, .inl (fun _ => Int32.ofInt 0))), (q3, .inl (X.2.1 0, 24, .inl (fun _ => Int32.ofInt 0)))] := hD
    refine va_putF (D := X.1) (C := RX2) (T := TX2) (N := 5) (ty := .array .int) (v := .ref q3) hx hb hts zC_3.2.1 tyX2 tyX2_ok nmX2 hown hK hP hD hS 0 rfl rfl 2 (by decide) (hts _ qw_83) (fun _ h9 => h9) rfl hin rfl (by decide +kernel) rfl rfl (Nat.le_of_ble_eq_true rfl) dX2_init_25 (fun H locs hP hD hS => ?_)
    have hP : va_P X.1 vwCl [(h0, .inr (3, [.ref q1, .ref q2, .ref q3, .null, z_v 0])), (q1, .inl (X.2.1 0, 24, .inl (fun _ => Int32.ofInt 0))), (q2, .inl (X.2.1 0, 24, .inl (fun _ => Int32.ofInt 0))), (q3, .inl (X.2.1 0, 24, .inl (fun _ => Int32.ofInt 0)))] H := hP
    have hD : va_D A [(h0, .inr (3, [.ref q1, .ref q2, .ref q3, .null, z_v 0])), (q1, .inl (X.2.1 0, 24, .inl (fun _ => Int32.ofInt 0))), (q2, .inl (X.2.1 0, 24, .inl (fun _ => Int32.ofInt 0))), (q3, .inl (X.2.1 0, 24, .inl (fun _ => Int32.ofInt 0)))] := hD
    refine lv_aload_n hx hb dX2_init_28 rfl (lv_at hl 0 rfl) ?_
    refine lv_bipush (v := Int32.ofInt 24) hx hb dX2_init_29 (by decide) ?_
    refine va_newa (atype := .int) (a0 := (24, .inl (fun _ => Int32.ofInt 0))) (ty := .int) (N' := 24) hx hb (hts _ qw_99) rfl hK hP hD hS hA (fun _ => rfl) (by decide) (by decide) (Nat.le_of_ble_eq_true rfl) (Nat.le_of_ble_eq_true rfl) (Nat.le_of_ble_eq_true rfl) dX2_init_31 (fun q4 cA H hK1 hP hD hS => ?_)
    have hcA := z_cyI hK hK1
    subst hcA
    clear hK1
    have hP : va_P X.1 vwCl [(h0, .inr (3, [.ref q1, .ref q2, .ref q3, .null, z_v 0])), (q1, .inl (X.2.1 0, 24, .inl (fun _ => Int32.ofInt 0))), (q2, .inl (X.2.1 0, 24, .inl (fun _ => Int32.ofInt 0))), (q3, .inl (X.2.1 0, 24, .inl (fun _ => Int32.ofInt 0))), (q4, .inl (X.2.1 0, 24, .inl (fun _ => Int32.ofInt 0)))] H := hP
    have hD : va_D A [(h0, .inr (3, [.ref q1, .ref q2, .ref q3, .null, z_v 0])), (q1, .inl (X.2.1 0, 24, .inl (fun _ => Int32.ofInt 0))), (q2, .inl (X.2.1 0, 24, .inl (fun _ => Int32.ofInt 0))), (q3, .inl (X.2.1 0, 24, .inl (fun _ => Int32.ofInt 0))), (q4, .inl (X.2.1 0, 24, .inl (fun _ => Int32.ofInt 0)))] := hD
    refine va_putF (D := X.1) (C := RX2) (T := TX2) (N := 5) (ty := .array .int) (v := .ref q4) hx hb hts zC_3.2.1 tyX2 tyX2_ok nmX2 hown hK hP hD hS 0 rfl rfl 3 (by decide) (hts _ qw_84) (fun _ h9 => h9) rfl hin rfl (by decide +kernel) rfl rfl (Nat.le_of_ble_eq_true rfl) dX2_init_33 (fun H locs hP hD hS => ?_)
    have hP : va_P X.1 vwCl [(h0, .inr (3, [.ref q1, .ref q2, .ref q3, .ref q4, z_v 0])), (q1, .inl (X.2.1 0, 24, .inl (fun _ => Int32.ofInt 0))), (q2, .inl (X.2.1 0, 24, .inl (fun _ => Int32.ofInt 0))), (q3, .inl (X.2.1 0, 24, .inl (fun _ => Int32.ofInt 0))), (q4, .inl (X.2.1 0, 24, .inl (fun _ => Int32.ofInt 0)))] H := hP
    have hD : va_D A [(h0, .inr (3, [.ref q1, .ref q2, .ref q3, .ref q4, z_v 0])), (q1, .inl (X.2.1 0, 24, .inl (fun _ => Int32.ofInt 0))), (q2, .inl (X.2.1 0, 24, .inl (fun _ => Int32.ofInt 0))), (q3, .inl (X.2.1 0, 24, .inl (fun _ => Int32.ofInt 0))), (q4, .inl (X.2.1 0, 24, .inl (fun _ => Int32.ofInt 0)))] := hD
    refine lv_aload_n hx hb dX2_init_36 rfl (lv_at hl 0 rfl) ?_
    refine lv_iconst hx hb dX2_init_37 rfl ?_
    refine va_put (D := X.1) (C := RX2) (T := TX2) (N := 5) (ty := .int) (v := z_v 0) hx hb hts zC_3.2.1 tyX2 tyX2_ok nmX2 hown hK hP hD hS 0 rfl rfl 4 (by decide) (hts _ qw_85) (fun _ h9 => h9) rfl (by decide +kernel) rfl rfl (Nat.le_of_ble_eq_true rfl) dX2_init_38 (fun H locs hP hD hS => ?_)
    have hP : va_P X.1 vwCl [(h0, .inr (3, [.ref q1, .ref q2, .ref q3, .ref q4, z_v 0])), (q1, .inl (X.2.1 0, 24, .inl (fun _ => Int32.ofInt 0))), (q2, .inl (X.2.1 0, 24, .inl (fun _ => Int32.ofInt 0))), (q3, .inl (X.2.1 0, 24, .inl (fun _ => Int32.ofInt 0))), (q4, .inl (X.2.1 0, 24, .inl (fun _ => Int32.ofInt 0)))] H := hP
    have hD : va_D A [(h0, .inr (3, [.ref q1, .ref q2, .ref q3, .ref q4, z_v 0])), (q1, .inl (X.2.1 0, 24, .inl (fun _ => Int32.ofInt 0))), (q2, .inl (X.2.1 0, 24, .inl (fun _ => Int32.ofInt 0))), (q3, .inl (X.2.1 0, 24, .inl (fun _ => Int32.ofInt 0))), (q4, .inl (X.2.1 0, 24, .inl (fun _ => Int32.ofInt 0)))] := hD
    exact W.vret hx hb hr (fun t ht hW => ⟨⟨(fun j => match j with | 0 => q1 | 1 => q2 | 2 => q3 | 3 => q4 | _ => 0), rfl, trivial, by rw [ht]; exact hP, hD⟩, hS.F ht⟩) hS.2.2 dX2_init_41 hlocks
  exact goal _ hH.symm

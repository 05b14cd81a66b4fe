/-! the law's methods: slots, swaps, messages -/
theorem u_tm {x y : Int} (hx : 0 ≤ x) : x.tmod y = x % y := Int.tmod_eq_emod_of_nonneg hx
theorem u_td {x y : Int} (hx : 0 ≤ x) : x.tdiv y = x / y := Int.tdiv_eq_ediv_of_nonneg hx
section UF
variable {g : zG} {k : Nat}
theorem uFis0 : uFis g k 0 = g 4 k 2 := rfl
theorem uFis1 : uFis g k 1 = g 4 k 1 := rfl
theorem uFis2 : uFis g k 2 = g 4 k 4 := rfl
theorem uFis3 : uFis g k 3 = g 4 k 5 := rfl
theorem uFis4 : uFis g k 4 = uDep g k := rfl
theorem uFis5 : uFis g k 5 = g 4 k 8 := rfl
theorem uFis6 : uFis g k 6 = g 4 k 7 := rfl
theorem uFis7 : uFis g k 7 = if g 4 k 3 = 0 then 0 else 1 := rfl
end UF
theorem D3.rf {g : zG} : D3 g g := fun _ => rfl
theorem D3.tr {g g1 g2 : zG} (a : D3 g g1) (b : D3 g1 g2) : D3 g g2 := fun p => (b p).trans (a p)
theorem KS.d3 {R : Nat} {g g' : zG} (h : KS R g g') : D3 g g' := fun _ => h.d
section LAW1
variable {g0 g : zG} {F R n k : Nat}
theorem u_areSlots_run {r : Nat} (hI : INV g0 F R) (h : KS R g0 g) (hr : r < R) : ∀ (d j f : Nat), 1 ≤ j → j + d = 20 → d < f → zT (sL_areSlots_run n f 0 (r : Int) (uSc g0 r : Int) 1 (j : Int) g) (fun z g' => z = 1 ∧ g' = g) := by
  have hrg := hI.2.1.2.2 r hr
  have hsc := uSc_le hrg
  intro d
  induction d with
  | zero =>
    intro j f h1 hj hf
    obtain ⟨f, rfl⟩ : ∃ f', f = f' + 1 := ⟨f - 1, by omega⟩
    rw [qsL_areSlots_run0]
    unfold sL_areSlots_h26
    refine zT_lt (by omega) (fun _ => ?_) (fun _ => zT_bo (by omega) (zT_some ⟨rfl, rfl⟩))
    exact zT_ltF (by omega) (zT_bo (by omega) (zT_some ⟨rfl, rfl⟩))
  | succ d ih =>
    intro j f h1 hj hf
    obtain ⟨f, rfl⟩ : ∃ f', f = f' + 1 := ⟨f - 1, by omega⟩
    rw [qsL_areSlots_run0]
    unfold sL_areSlots_h26 sL_areSlots_j67
    refine zT_lt (by omega) (fun c => ?_) (fun _ => zT_bo (by omega) (zT_some ⟨rfl, rfl⟩))
    refine zT_ltT (by omega) (zT_eqF (by omega) ?_)
    have b1 := uSlo_bd (j := (j : Int)) hrg (by omega)
    have b2 := uSlo_bd (j := (j : Int) - 1) hrg (by omega)
    have b3 := uSlo_up (j := j) hrg h1 (by omega)
    refine b_slot hI h hr (by omega) (b_slot hI h hr (by omega) (zT_leF (by omega) (zT_let ?_)))
    exact ih (j + 1) f (by omega) (by omega) (by omega)
theorem u_areSlots {r : Nat} (hn : 3000 < n) (hI : INV g0 F R) (h : KS R g0 g) (hr : r < R) : zT (sL_areSlots n (r : Int) g) (fun z g' => z = 1 ∧ KS R g0 g') := by
  have hsc := uSc_le (hI.2.1.2.2 r hr)
  unfold sL_areSlots sL_areSlots_j22
  refine b_regulationIs hn hI h hr (by omega) (fun g1 h1 => ?_)
  rw [uRis_free.1]
  refine b_slot hI h1 hr (by omega) ?_
  rw [uSlo_end]
  refine zT_eqT (by omega) (zT_mono (u_areSlots_run (n := n) hI h1 hr 19 1 30 (by omega) (by omega) (by omega)) ?_)
  rintro z g' ⟨rfl, rfl⟩
  exact ⟨rfl, h1⟩
/-- two flights are swapped, and swapped back -/
theorem u_isSwapped {b : Int} (hI : INV g F R) (hk : k < F) (hb : 0 ≤ b ∧ b < 2147483648) (hd : g 17 0 0 = (F : Int)) : zT (sL_isSwapped (k : Int) b g) (fun z g' => z = 1 ∧ INV g' F R ∧ D3 g g') := by
  have h24 := hI.1.2.1
  have e0 : g 17 0 (0 : Int).toNat = (F : Int) := hd
  unfold sL_isSwapped
  refine zT_ix (by omega) ?_
  rw [e0, u_tm hb.1]
  obtain ⟨j, hj⟩ : ∃ j : Nat, b % (F : Int) = (j : Int) := ⟨(b % (F : Int)).toNat, by have := Int.emod_nonneg b (b := (F : Int)) (by omega); omega⟩
  have hjF : j < F := by have := Int.emod_lt_of_pos b (b := (F : Int)) (by omega); omega
  rw [hj]
  have hfk := (hI.1.2.2 k hk).1
  have hfj := (hI.1.2.2 j hjF).1
  unfold flok at hfk hfj
  refine zT_dv (by omega) (zT_let (b_flightIs hI KS.rf hk (by omega) (b_flightIs hI KS.rf hjF (by omega) ?_)))
  rw [uFis2, uFis2]
  refine zT_bdm (t_swaps hI hk hjF) ?_
  rintro z g1 (⟨rfl, -, rfl⟩ | ⟨rfl, hsw, hI1, hg1⟩)
  · refine zT_eqT (by omega) (b_flightIs hI KS.rf hk (by omega) ?_)
    rw [uFis2]
    refine zT_eqT (by omega) (b_flightIs hI KS.rf hjF (by omega) ?_)
    rw [uFis2]
    exact zT_eqT (by omega) (zT_bo (by omega) (zT_some ⟨rfl, hI, D3.rf⟩))
  · obtain ⟨hne, hsh, hp1, hp2⟩ := id hsw
    obtain ⟨k1, k2, k3, k4, k5, k6⟩ := id hsh
    have hp2' : g 4 j 1 ≤ uS2 g k j := hp2
    have hfk1 := (hI1.1.2.2 k hk).1
    have hfj1 := (hI1.1.2.2 j hjF).1
    unfold flok at hfk1 hfj1
    have hne' : ¬ (j = k) := fun z => hne z.symm
    have m1 : g1 4 k 4 = uS1 g k j := by rw [hg1]; simp [zup_rd, hne]
    have m2 : g1 4 j 4 = uS2 g k j := by rw [hg1]; simp [zup_rd]
    have mo : ∀ a i p, ¬ (a = 4 ∧ p = 4) → g1 a i p = g a i p := fun a i p q => by rw [hg1, zup_rd, if_neg (by omega), zup_rd, if_neg (by omega)]
    have mB : ∀ i s, uB g1 i s = uB g i s := fun i s => mo 14 i s.toNat (by omega)
    have d1 : uS1 g k j = g 4 j 4 + uB g j (g 5 (g 4 k 5).toNat 0) - uB g k (g 5 (g 4 k 5).toNat 0) := rfl
    have d2 : uS2 g k j = g 4 k 4 + uB g k (g 5 (g 4 k 5).toNat 0) - uB g j (g 5 (g 4 k 5).toNat 0) := rfl
    have hD1 : D3 g g1 := fun p => mo 17 0 p (by omega)
    refine zT_eqF (by omega) (zT_eqF (by omega) (zT_eqF (by omega) (zT_eqF (by omega) ?_)))
    refine b_flightIs hI1 KS.rf hk (by omega) (b_flightIs hI1 KS.rf hjF (by omega) ?_)
    rw [uFis3, uFis3, mo 4 k 5 (by omega), mo 4 j 5 (by omega)]
    refine zT_eqT (by omega) (b_flightIs hI1 KS.rf hk (by omega) (b_flightIs hI1 KS.rf hk (by omega) ?_))
    rw [uFis2, uFis1, m1, mo 4 k 1 (by omega)]
    refine zT_ltF (by omega) (b_flightIs hI1 KS.rf hjF (by omega) (b_flightIs hI1 KS.rf hjF (by omega) ?_))
    rw [uFis2, uFis1, m2, mo 4 j 1 (by omega)]
    refine zT_ltF (by omega) (b_flightIs hI1 KS.rf hk (by omega) (b_flightIs hI1 KS.rf hjF (by omega) ?_))
    rw [uFis2, uFis2, m1, m2]
    refine zT_eqT (by omega) ?_
    unfold sL_isSwapped_j160
    refine zT_eqF (by omega) (zT_bdm (t_swaps hI1 hjF hk) ?_)
    have er : g1 5 (g1 4 j 5).toNat 0 = g 5 (g 4 k 5).toNat 0 := by rw [mo 5 _ 0 (by omega), mo 4 j 5 (by omega), k6]
    have x1 : uS1 g1 j k = g 4 j 4 := by
      have : uS1 g1 j k = g1 4 k 4 + uB g1 k (g1 5 (g1 4 j 5).toNat 0) - uB g1 j (g1 5 (g1 4 j 5).toNat 0) := rfl
      rw [this, er, mB, mB, m1]
      omega
    have x2 : uS2 g1 j k = g 4 k 4 := by
      have : uS2 g1 j k = g1 4 j 4 + uB g1 j (g1 5 (g1 4 j 5).toNat 0) - uB g1 k (g1 5 (g1 4 j 5).toNat 0) := rfl
      rw [this, er, mB, mB, m2]
      omega
    have hsk := hI.2.2 k hk
    have hsj := hI.2.2 j hjF
    have pk : g 4 k 1 ≤ g 4 k 4 := by
      rcases hsk.1 with z | z
      · omega
      · exact z.1
    have pj : g 4 j 1 ≤ g 4 j 4 := by
      rcases hsj.1 with z | z
      · omega
      · exact z.1
    have hsw1 : uSw g1 j k := by
      refine ⟨hne', ⟨?_, ?_, ?_, ?_, ?_, ?_⟩, ?_, ?_⟩
      · rw [mo 4 j 2 (by omega)]; exact k2
      · rw [mo 4 k 2 (by omega)]; exact k1
      · rw [mo 4 j 0 (by omega), mo 4 k 0 (by omega)]; exact k3.symm
      · omega
      · omega
      · rw [mo 4 j 5 (by omega), mo 4 k 5 (by omega)]; exact k6.symm
      · rw [x1, mo 4 j 1 (by omega)]; exact pj
      · have : uS2 g1 j k = g1 4 j 4 + uB g1 j (g1 5 (g1 4 j 5).toNat 0) - uB g1 k (g1 5 (g1 4 j 5).toNat 0) := rfl
        rw [← this, x2, mo 4 k 1 (by omega)]; exact pk
    rintro z g2 (⟨-, hn2, -⟩ | ⟨rfl, -, hI2, hg2⟩)
    · exact absurd hsw1 hn2
    · rw [x1, x2] at hg2
      have n1 : g2 4 k 4 = g 4 k 4 := by rw [hg2]; simp [zup_rd]
      have n2 : g2 4 j 4 = g 4 j 4 := by rw [hg2]; simp [zup_rd, hne']
      have hD2 : D3 g1 g2 := fun p => by rw [hg2, zup_rd, if_neg (by omega), zup_rd, if_neg (by omega)]
      refine zT_eqF (by omega) (b_flightIs hI2 KS.rf hk (by omega) ?_)
      rw [uFis2, n1]
      refine zT_eqT (by omega) (b_flightIs hI2 KS.rf hjF (by omega) ?_)
      rw [uFis2, n2]
      exact zT_eqT (by omega) (zT_bo (by omega) (zT_some ⟨rfl, hI2, hD1.tr hD2⟩))
/-- a message, and the same once more -/
theorem u_told134 {u kd m : Int} (hn : 3000 < n) (hI : INV g F R) (hk : k < F) (hok : uMok u kd m) : zT (sL_isTold_j134 n (k : Int) (g 4 k 7) (g 4 k 2) (g 4 k 4) (g 4 k 1) kd u m g) (fun z g' => z = 1 ∧ INV g' F R ∧ D3 g g') := by
  have hfk := (hI.1.2.2 k hk).1
  unfold flok at hfk
  obtain ⟨q1, q2, q3⟩ := id hok
  have q4 : 0 ≤ m ∧ m ≤ 1439 := by
    split at q3 <;> omega
  unfold sL_isTold_j134 sL_isTold_j166
  obtain ⟨o, g1, e, h | h⟩ := t_message hI hk hok
  · obtain ⟨rfl, hno, rfl⟩ := h
    refine zT_bne e ?_
    have hend : zT (sL_isTold_j167 n (k : Int) (g1 4 k 7) (g1 4 k 2) (g1 4 k 4) (g1 4 k 1) kd u m 0 0 0 g1) (fun z g' => z = 1 ∧ INV g' F R ∧ D3 g1 g') := by
      unfold sL_isTold_j167
      refine zT_eqT (by omega) (zT_eqT (by omega) (b_flightIs hI KS.rf hk (by omega) ?_))
      rw [uFis6]
      refine zT_eqT (by omega) (b_flightIs hI KS.rf hk (by omega) ?_)
      rw [uFis1]
      refine zT_eqT (by omega) (b_flightIs hI KS.rf hk (by omega) ?_)
      rw [uFis0]
      exact zT_eqT (by omega) (zT_bo (by omega) (zT_some ⟨rfl, hI, D3.rf⟩))
    refine zT_eq (by omega) (fun c => ?_) (fun _ => hend)
    exact zT_leT (by omega) hend
  · obtain ⟨rfl, h2, h7, hI1, hD, m7, m0, mc, mg⟩ := h
    refine zT_bne e (zT_eqT (by omega) (zT_leF (by omega) ?_))
    have hf1 := (hI1.1.2.2 k hk).1
    unfold flok at hf1
    unfold sL_isTold_j167
    refine zT_eqT (by omega) (zT_eqF (by omega) (b_flightIs hI1 KS.rf hk (by omega) ?_))
    rw [uFis6, m7]
    refine zT_eqT (by omega) ?_
    obtain ⟨o2, g2, e2, h | h⟩ := t_message hI1 hk hok
    · obtain ⟨rfl, -, rfl⟩ := h
      refine zT_bne e2 (zT_eqT (by omega) ?_)
      unfold sL_isTold_j247 sL_isTold_j289 sL_isTold_j354
      refine zT_eqF (by omega) ?_
      by_cases k0 : kd = 0
      · obtain ⟨z1, z2⟩ := m0 k0
        refine zT_eqT (by omega) (b_flightIs hI1 KS.rf hk (by omega) ?_)
        rw [uFis1, z1]
        refine zT_eqT (by omega) (b_flightIs hI1 KS.rf hk (by omega) ?_)
        rw [uFis2, z2]
        refine zT_lt (by omega) (fun c => ?_) (fun c => ?_)
        · rw [if_pos c]
          exact zT_eqT (by omega) (zT_bo (by omega) (zT_some ⟨rfl, hI1, hD⟩))
        · rw [if_neg (by omega)]
          exact zT_eqT (by omega) (zT_bo (by omega) (zT_some ⟨rfl, hI1, hD⟩))
      · by_cases k1 : kd = 1
        · have z := mc k1
          refine zT_eqF (by omega) (zT_eqT (by omega) (b_flightIs hI1 KS.rf hk (by omega) ?_))
          rw [uFis0, z]
          refine zT_eqT (by omega) (b_due hn hI1 KS.rf hk (fun g3 h3 => ?_))
          rw [uDue_not hI1 hk (by unfold uLst; rw [if_neg (by omega)])]
          exact zT_eqT (by omega) (zT_bo (by omega) (zT_some ⟨rfl, hI1.ks h3, hD.tr h3.d3⟩))
        · obtain ⟨z1, z2, z3⟩ := mg (by omega)
          refine zT_eqF (by omega) (zT_eqF (by omega) (b_flightIs hI1 KS.rf hk (by omega) ?_))
          rw [uFis0, z1]
          refine zT_eqT (by omega) (b_flightIs hI1 KS.rf hk (by omega) ?_)
          have ed : uDep g2 k = m := by
            unfold uDep
            rw [if_pos z1, z2]
          rw [uFis4, ed]
          refine zT_eqT (by omega) (b_flightIs hI1 KS.rf hk (by omega) ?_)
          rw [uFis2, z3]
          exact zT_eqT (by omega) (zT_bo (by omega) (zT_some ⟨rfl, hI1, hD⟩))
    · obtain ⟨-, -, h8, -⟩ := h
      omega
theorem u_told89 {u kd b : Int} (hn : 3000 < n) (hI : INV g F R) (hk : k < F) (hb : 0 ≤ b ∧ b < 2147483648) (hu : 1 ≤ u ∧ u ≤ 99) (hkd : 0 ≤ kd ∧ kd ≤ 2) : zT (sL_isTold_j89 n (k : Int) b (g 4 k 7) (g 4 k 2) (g 4 k 4) (g 4 k 1) kd u g) (fun z g' => z = 1 ∧ INV g' F R ∧ D3 g g') := by
  unfold sL_isTold_j89
  refine zT_eq (by omega) (fun c => ?_) (fun c => ?_)
  · exact u_told134 hn hI hk ⟨hu, hkd, by rw [if_pos c]; omega⟩
  · rw [u_td hb.1, u_td hb.1, u_tm (show 0 ≤ b / 32 from by omega), u_tm (show 0 ≤ b / 128 from by omega), u_tm (show 0 ≤ b / 128 from by omega)]
    refine zT_dv (by omega) (zT_dv (by omega) (zT_eq (by omega) (fun _ => ?_) (fun _ => ?_)))
    · exact zT_dv (by omega) (zT_dv (by omega) (u_told134 hn hI hk ⟨hu, hkd, by rw [if_neg c]; omega⟩))
    · exact zT_dv (by omega) (zT_dv (by omega) (u_told134 hn hI hk ⟨hu, hkd, by rw [if_neg c]; omega⟩))
theorem u_told57 {kd b : Int} (hn : 3000 < n) (hI : INV g F R) (hk : k < F) (hb : 0 ≤ b ∧ b < 2147483648) (hkd : 0 ≤ kd ∧ kd ≤ 2) : zT (sL_isTold_j57 n (k : Int) b (g 4 k 7) (g 4 k 2) (g 4 k 4) (g 4 k 1) kd g) (fun z g' => z = 1 ∧ INV g' F R ∧ D3 g g') := by
  have hfk := (hI.1.2.2 k hk).1
  unfold flok at hfk
  have h74 : zT (sL_isTold_j74 n (k : Int) b (g 4 k 7) (g 4 k 2) (g 4 k 4) (g 4 k 1) kd g) (fun z g' => z = 1 ∧ INV g' F R ∧ D3 g g') := by
    unfold sL_isTold_j74
    rw [u_td hb.1, u_tm (show 0 ≤ b / 32 from by omega)]
    exact zT_dv (by omega) (zT_dv (by omega) (u_told89 hn hI hk hb (by omega) hkd))
  unfold sL_isTold_j57
  rw [u_td hb.1, u_tm (show 0 ≤ b / 8 from by omega)]
  refine zT_dv (by omega) (zT_dv (by omega) (zT_eq (by omega) (fun _ => h74) (fun _ => zT_eq (by omega) (fun _ => h74) (fun c => ?_))))
  exact u_told89 hn hI hk hb (by omega) hkd
theorem u_isTold {b : Int} (hn : 3000 < n) (hI : INV g F R) (hk : k < F) (hb : 0 ≤ b ∧ b < 2147483648) : zT (sL_isTold n (k : Int) b g) (fun z g' => z = 1 ∧ INV g' F R ∧ D3 g g') := by
  unfold sL_isTold
  refine b_flightIs hI KS.rf hk (by omega) (b_flightIs hI KS.rf hk (by omega) (b_flightIs hI KS.rf hk (by omega) (b_flightIs hI KS.rf hk (by omega) ?_)))
  rw [uFis6, uFis0, uFis2, uFis1, u_tm hb.1]
  refine zT_dv (by omega) (zT_lt (by omega) (fun _ => u_told57 hn hI hk hb (by omega)) (fun _ => zT_dv (by omega) (zT_eq (by omega) (fun _ => u_told57 hn hI hk hb (by omega)) (fun _ => u_told57 hn hI hk hb (by omega)))))
end LAW1

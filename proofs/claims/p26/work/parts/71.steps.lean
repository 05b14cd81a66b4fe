/-! a step of the law, and the loop's body -/
section IU
variable {g g' : zG} {F R : Nat}
theorem INV.u17 (a : INV g F R) (h : ∀ k j p, k ≠ 17 → g' k j p = g k j p) : INV g' F R := by
  obtain ⟨a1, a2, a3⟩ := a
  have c : CF g g' := fun k j p q => h k j p (by omega)
  refine ⟨a1.cf c, ⟨by rw [h 1 1 2 (by omega)]; exact a2.1, a2.2.1, fun r hr => ?_⟩, fun k hk => ?_⟩
  · have z := a2.2.2 r hr
    unfold rgok at z ⊢
    rw [h 5 r 0 (by omega), h 5 r 1 (by omega), h 5 r 2 (by omega), h 5 r 3 (by omega), h 5 r 4 (by omega)]
    exact z
  · have s := a3 k hk
    unfold sok at s ⊢
    rw [c.f (k := k) (p := 1) (by decide), c.f (k := k) (p := 2) (by decide), c.f (k := k) (p := 3) (by decide), c.f (k := k) (p := 4) (by decide), c.f (k := k) (p := 5) (by decide), h 5 _ 0 (by omega), c.b]
    exact s
end IU
def SQ (m : Int) (g : zG) : Prop := ∃ F R : Nat, 0 < F ∧ INV g F R ∧ g 17 0 0 = (F : Int) ∧ g 17 0 1 = (R : Int) ∧ 0 ≤ g 17 0 2 ∧ g 17 0 2 ≤ m
def DD (g : zG) (F R : Nat) (m : Int) : Prop := g 17 0 0 = (F : Int) ∧ g 17 0 1 = (R : Int) ∧ (0 ≤ g 17 0 2 ∧ g 17 0 2 ≤ m) ∧ m ≤ 1000
theorem SQ.of {g g' : zG} {F R : Nat} {m : Int} (hd : DD g F R m) (hF : 0 < F) (hI : INV g' F R) (hD : D3 g g') : SQ (m + 1) g' := ⟨F, R, hF, hI, by rw [hD]; exact hd.1, by rw [hD]; exact hd.2.1, by rw [hD]; exact hd.2.2.1.1, by rw [hD]; have := hd.2.2.1.2; omega⟩
section STEP
variable {g : zG} {F R n k : Nat} {m a b : Int}
/-! flights -/
theorem s_flight178 {p : Int} (hn : 3000 < n) (hI : INV g F R) (hd : DD g F R m) (hb : 0 ≤ b ∧ b < 2147483648) (hp : 0 ≤ p ∧ p ≤ 1439) : zT (sL_step_j178 n b p g) (fun z g' => z = 1 ∧ SQ (m + 1) g') := by
  have h24 := hI.1.2.1
  obtain ⟨d0, d1, d2, d3⟩ := id hd
  unfold sL_step_j178
  rw [u_tm hb.1]
  refine zT_dv (by omega) (zT_bdm (t_actsFlight hI (by omega) hp) ?_)
  rintro z g1 (⟨rfl, rfl, rfl⟩ | ⟨rfl, hF, hI1, hD, m1, m2, m4, m5, mB⟩)
  · refine zT_ix (by omega) (zT_ltT (by omega) ?_)
    have e0 : g1 17 0 (0 : Int).toNat = 24 := d0
    rw [e0]
    unfold sL_step_j209
    refine zT_ix (by omega) (zT_st (zT_eqT (by omega) (zT_ix (by omega) ?_)))
    have e1 : zup g1 17 0 (0 : Int).toNat (24 + 0) 17 0 (0 : Int).toNat = 24 := by simp [zup_rd]
    rw [e1]
    refine zT_eqT (by omega) (zT_bo (by omega) (zT_some ⟨rfl, 24, R, by omega, hI.u17 (fun k j p q => by rw [zup_rd, if_neg (by omega)]), by simp [zup_rd], ?_, ?_, ?_⟩))
    · rw [zup_rd, if_neg (by simp)]; exact d1
    · rw [zup_rd, if_neg (by simp)]; exact d2.1
    · rw [zup_rd, if_neg (by simp)]; omega
  · refine zT_ix (by omega) (zT_ltF (by omega) ?_)
    have e0 : g1 17 0 (0 : Int).toNat = (F : Int) := (hD 0).trans d0
    rw [e0]
    unfold sL_step_j209
    refine zT_ix (by omega) (zT_st (zT_eqF (by omega) (zT_ix (by omega) ?_)))
    generalize hg2 : zup g1 17 0 (0 : Int).toNat ((F : Int) + 1) = g2
    have o2 : ∀ a j p, a ≠ 17 → g2 a j p = g1 a j p := fun a j p q => by rw [← hg2, zup_rd, if_neg (by omega)]
    have hI2 : INV g2 (F + 1) R := hI1.u17 o2
    have e1 : g2 17 0 (0 : Int).toNat = (F : Int) + 1 := by rw [← hg2]; simp [zup_rd]
    rw [e1]
    have hF1 : F < F + 1 := by omega
    have ed : uDep g2 F = p := by
      unfold uDep
      rw [o2 4 F 1 (by omega), o2 4 F 2 (by omega), o2 4 F 4 (by omega), m1, m2, m4, if_neg (by omega), if_pos rfl]
    refine zT_eqT (by omega) (b_flightIs hI2 KS.rf hF1 (by omega) ?_)
    rw [uFis4, ed]
    refine zT_eqT (by omega) (b_flightIs hI2 KS.rf hF1 (by omega) ?_)
    rw [uFis2, o2 4 F 4 (by omega), m4]
    refine zT_eqT (by omega) (b_flightIs hI2 KS.rf hF1 (by omega) ?_)
    rw [uFis3, o2 4 F 5 (by omega), m5]
    refine zT_eqT (by omega) (b_due hn hI2 KS.rf hF1 (fun g3 h3 => ?_))
    rw [uDue_noentry hI2 hF1 (fun s q1 q2 => (o2 14 F s.toNat (by omega)).trans (mB s q1 q2))]
    refine zT_eqT (by omega) (zT_bo (by omega) (zT_some ⟨rfl, F + 1, R, by omega, hI2.ks h3, ?_, ?_, ?_, ?_⟩))
    · rw [h3.d, ← hg2]; simp [zup_rd]
    · rw [h3.d, ← hg2, zup_rd, if_neg (by simp), hD]; exact d1
    · rw [h3.d, ← hg2, zup_rd, if_neg (by simp), hD]; exact d2.1
    · rw [h3.d, ← hg2, zup_rd, if_neg (by simp), hD]; omega
theorem s_flight (hn : 3000 < n) (hI : INV g F R) (hd : DD g F R m) (ha : 0 ≤ a ∧ a < 2147483648) (hb : 0 ≤ b ∧ b < 2147483648) : zT (sL_step_j152 n a b g) (fun z g' => z = 1 ∧ SQ (m + 1) g') := by
  unfold sL_step_j152
  rw [u_tm ha.1, u_td ha.1, u_tm (show 0 ≤ a / 4 from by omega), u_tm (show 0 ≤ a / 4 from by omega)]
  refine zT_dv (by omega) (zT_eq (by omega) (fun _ => ?_) (fun _ => ?_))
  · exact zT_dv (by omega) (zT_dv (by omega) (s_flight178 hn hI hd hb (by omega)))
  · exact zT_dv (by omega) (zT_dv (by omega) (s_flight178 hn hI hd hb (by omega)))
/-! entries -/
theorem s_entry (hn : 3000 < n) (hI : INV g F R) (hd : DD g F R m) (hk : k < F) (hb : 0 ≤ b ∧ b < 2147483648) : zT (sL_step_j294 n b (k : Int) g) (fun z g' => z = 1 ∧ SQ (m + 1) g') := by
  have hF0 : 0 < F := by omega
  have hfk := (hI.1.2.2 k hk).1
  unfold flok at hfk
  unfold sL_step_j294
  rw [u_tm hb.1, u_td hb.1, u_td hb.1, u_tm (show 0 ≤ b / 6 from by omega), u_tm (show 0 ≤ b / 512 from by omega)]
  refine b_flightIs hI KS.rf hk (by omega) ?_
  rw [uFis5]
  refine zT_dv (by omega) (zT_dv (by omega) (zT_dv (by omega) (zT_dv (by omega) (zT_dv (by omega) (zT_bdm (t_actsEntry hI hk (by omega) (by omega) (by omega)) ?_)))))
  rintro z g1 (⟨rfl, rfl⟩ | ⟨rfl, hI1, hD, m2, m4, mB, mS⟩)
  · refine zT_eqT (by omega) (b_flightIs hI KS.rf hk (by omega) ?_)
    rw [uFis5]
    exact zT_eqT (by omega) (zT_bo (by omega) (zT_some ⟨rfl, SQ.of hd hF0 hI D3.rf⟩))
  · have hf1 := (hI1.1.2.2 k hk).1
    unfold flok at hf1
    have hs6 : 0 ≤ b % 6 ∧ b % 6 < 6 := by omega
    have hBne : uB g1 k (b % 6) ≠ -1 := by omega
    have etv : uTov g1 k (b % 6) = g1 4 k 1 + (b / 6) % 50 := by
      unfold uTov uDep
      rw [if_neg hBne, mB, if_neg (by omega), if_pos m4]
    have edp : uDep g1 k = g1 4 k 1 := by
      unfold uDep
      rw [if_neg (by omega), if_pos m4]
    refine zT_eqF (by omega) (zT_eqT (by omega) (zT_dv (by omega) (b_over hI1 KS.rf hk hs6 (b_flightIs hI1 KS.rf hk (by omega) ?_))))
    rw [uFis4, etv, edp]
    refine zT_dv (by omega) (zT_dv (by omega) (zT_eqT (by omega) (b_flightIs hI1 KS.rf hk (by omega) ?_)))
    rw [uFis0]
    refine zT_eqT (by omega) (zT_dv (by omega) (zT_dv (by omega) (b_over hI1 KS.rf hk hs6 ?_)))
    have hpos := uInside_pos (g := g1) (F := F) hk hs6 m2 hBne (by omega)
    have hbd := uInside_bd (s := b % 6) (m := uTov g1 k (b % 6)) hI1
    refine b_inside (by omega) hI1 KS.rf hs6 (by omega) (zT_leF (by omega) (zT_bo (by omega) (zT_some ⟨rfl, SQ.of hd hF0 hI1 hD⟩)))
/-! regulations -/
theorem s_reg502 {x t : Int} (hn : 3000 < n) (hF0 : 0 < F) (hI : INV g F R) (hd : DD g F R m) (ha : 0 ≤ a ∧ a < 2147483648) (hb : 0 ≤ b ∧ b < 2147483648) (hx : (0 ≤ x ∧ x ≤ 1439) ∧ (x + 1 ≤ t ∧ t ≤ 1440)) : zT (sL_step_j502 n a b x t g) (fun z g' => z = 1 ∧ SQ (m + 1) g') := by
  have hR6 := hI.2.1.2.1
  obtain ⟨d0, d1, d2, d3⟩ := id hd
  unfold sL_step_j502
  rw [u_tm hb.1, u_td ha.1, u_tm (show 0 ≤ a / 4096 from by omega)]
  refine zT_dv (by omega) (zT_dv (by omega) (zT_dv (by omega) (zT_bdm (t_actsRegulation hI (by omega) ⟨hx.1, hx.2, by omega⟩) ?_)))
  rintro z g1 (⟨rfl, rfl, rfl⟩ | ⟨rfl, hR, hI1, hD, m1, m2, m3, m4⟩)
  · refine zT_ix (by omega) (zT_ltT (by omega) ?_)
    have e0 : g1 17 0 (1 : Int).toNat = 6 := d1
    rw [e0]
    unfold sL_step_j542
    refine zT_ix (by omega) (zT_st (zT_eqT (by omega) (zT_ix (by omega) ?_)))
    have e1 : zup g1 17 0 (1 : Int).toNat (6 + 0) 17 0 (1 : Int).toNat = 6 := by simp [zup_rd]
    rw [e1]
    refine zT_eqT (by omega) (zT_bo (by omega) (zT_some ⟨rfl, F, 6, hF0, hI.u17 (fun k j p q => by rw [zup_rd, if_neg (by omega)]), ?_, by simp [zup_rd], ?_, ?_⟩))
    · rw [zup_rd, if_neg (by simp)]; exact d0
    · rw [zup_rd, if_neg (by simp)]; exact d2.1
    · rw [zup_rd, if_neg (by simp)]; omega
  · refine zT_ix (by omega) (zT_ltF (by omega) ?_)
    have e0 : g1 17 0 (1 : Int).toNat = (R : Int) := (hD 1).trans d1
    rw [e0]
    unfold sL_step_j542 sL_step_j620
    refine zT_ix (by omega) (zT_st (zT_eqF (by omega) (zT_ix (by omega) ?_)))
    generalize hg2 : zup g1 17 0 (1 : Int).toNat ((R : Int) + 1) = g2
    have o2 : ∀ a j p, a ≠ 17 → g2 a j p = g1 a j p := fun a j p q => by rw [← hg2, zup_rd, if_neg (by omega)]
    have hI2 : INV g2 F (R + 1) := hI1.u17 o2
    have e1 : g2 17 0 (1 : Int).toNat = (R : Int) + 1 := by rw [← hg2]; simp [zup_rd]
    rw [e1]
    have hR1 : R < R + 1 := by omega
    have hrg := hI2.2.1.2.2 R hR1
    have n1 : g2 5 R 1 = x := by rw [o2 5 R 1 (by omega)]; exact m1
    have n3 : g2 5 R 3 = a / 4096 % 16 := by rw [o2 5 R 3 (by omega)]; exact m3
    have n4 : g2 5 R 4 = 0 := by rw [o2 5 R 4 (by omega)]; exact m4
    refine zT_eqT (by omega) (b_regulationIs hn hI2 KS.rf hR1 (by omega) (fun g3 h3 => ?_))
    rw [uRis_free.2.2.2.2.1, n3, u_td ha.1, u_tm (show 0 ≤ a / 4096 from by omega)]
    refine zT_dv (by omega) (zT_dv (by omega) (zT_eqT (by omega) (b_slot hI2 h3 hR1 (by omega) ?_)))
    have efs := uSlo_first hrg n4
    rw [n1, n3] at efs
    have hend : zT (zbd (sL_areSlots n (R : Int) g3) (fun r1 g => zeq r1 0 (zbo 0 (some ((0 : Int), g))) (zbo 1 (some ((1 : Int), g))))) (fun z g' => z = 1 ∧ SQ (m + 1) g') := by
      refine zT_bdm (u_areSlots hn hI2 h3 hR1) ?_
      rintro z g4 ⟨rfl, h4⟩
      refine zT_eqF (by omega) (zT_bo (by omega) (zT_some ⟨rfl, F, R + 1, hF0, hI2.ks h4, ?_, ?_, ?_, ?_⟩))
      · rw [h4.d, ← hg2, zup_rd, if_neg (by simp), hD]; exact d0
      · rw [h4.d, ← hg2]; simp [zup_rd]
      · rw [h4.d, ← hg2, zup_rd, if_neg (by simp), hD]; exact d2.1
      · rw [h4.d, ← hg2, zup_rd, if_neg (by simp), hD]; omega
    rw [efs]
    refine zT_dv (by omega) (zT_dv (by omega) (zT_eq (by omega) (fun c => ?_) (fun c => ?_)))
    · rw [if_pos c]
      exact zT_eqT (by omega) hend
    · rw [if_neg c]
      exact zT_eqT (by omega) hend
theorem s_reg468 {x : Int} (hn : 3000 < n) (hF0 : 0 < F) (hI : INV g F R) (hd : DD g F R m) (ha : 0 ≤ a ∧ a < 2147483648) (hb : 0 ≤ b ∧ b < 2147483648) (hx : 0 ≤ x ∧ x ≤ 1439) : zT (sL_step_j468 n a b x g) (fun z g' => z = 1 ∧ SQ (m + 1) g') := by
  unfold sL_step_j468
  rw [u_tm hb.1]
  refine zT_dv (by omega) (zT_le (by omega) (fun _ => ?_) (fun _ => ?_))
  · exact zT_dv (by omega) (s_reg502 hn hF0 hI hd ha hb (by omega))
  · exact s_reg502 hn hF0 hI hd ha hb (by omega)
theorem s_regulation (hn : 3000 < n) (hF0 : 0 < F) (hI : INV g F R) (hd : DD g F R m) (ha : 0 ≤ a ∧ a < 2147483648) (hb : 0 ≤ b ∧ b < 2147483648) : zT (sL_step_j442 n a b g) (fun z g' => z = 1 ∧ SQ (m + 1) g') := by
  unfold sL_step_j442
  rw [u_tm ha.1, u_td ha.1, u_tm (show 0 ≤ a / 5 from by omega), u_tm (show 0 ≤ a / 5 from by omega)]
  refine zT_dv (by omega) (zT_eq (by omega) (fun _ => ?_) (fun _ => ?_))
  · exact zT_dv (by omega) (zT_dv (by omega) (s_reg468 hn hF0 hI hd ha hb (by omega)))
  · exact zT_dv (by omega) (zT_dv (by omega) (s_reg468 hn hF0 hI hd ha hb (by omega)))
/-! exemptions -/
theorem s_ex653 {c : Int} (hn : 3000 < n) (hI : INV g F R) (hd : DD g F R m) (hk : k < F) (hb : 0 ≤ b ∧ b < 2147483648) (hc : c = if b % 3 = 0 then 1 else 0) : zT (sL_step_j653 n b (k : Int) (k : Int) c g) (fun z g' => z = 1 ∧ SQ (m + 1) g') := by
  have hF0 : 0 < F := by omega
  have hfk := (hI.1.2.2 k hk).1
  unfold flok at hfk
  have hc01 : c = 0 ∨ c = 1 := by
    split at hc <;> omega
  unfold sL_step_j653
  refine zT_bdm (t_exempts hI hk hc01) ?_
  rintro z g1 (⟨rfl, h2, rfl⟩ | ⟨hz, hI1, hD, m3, m4⟩)
  · refine zT_eqT (by omega) (b_flightIs hI KS.rf hk (by omega) ?_)
    rw [uFis0]
    exact zT_leF (by omega) (zT_bo (by omega) (zT_some ⟨rfl, SQ.of hd hF0 hI D3.rf⟩))
  · have hf1 := (hI1.1.2.2 k hk).1
    unfold flok at hf1
    refine zT_eqF (by omega) (b_flightIs hI1 KS.rf hk (by omega) ?_)
    rw [uFis7, m3, u_tm hb.1]
    unfold sL_step_j704 sL_step_j734
    rw [u_tm hb.1]
    refine zT_dv (by omega) (zT_eq (by omega) (fun c3 => ?_) (fun c3 => ?_))
    · rw [if_pos c3] at hc
      subst hc
      rw [if_neg (by decide)]
      refine zT_eqT (by omega) (zT_dv (by omega) (zT_leT (by omega) (b_flightIs hI1 KS.rf hk (by omega) ?_)))
      rw [uFis2, m4 rfl]
      refine zT_eqT (by omega) (b_due hn hI1 KS.rf hk (fun g2 h2 => ?_))
      rw [uDue_not hI1 hk (by unfold uLst; rw [if_neg (by omega)])]
      exact zT_eqT (by omega) (zT_bo (by omega) (zT_some ⟨rfl, SQ.of hd hF0 (hI1.ks h2) (hD.tr h2.d3)⟩))
    · rw [if_neg c3] at hc
      subst hc
      rw [if_pos rfl]
      exact zT_eqT (by omega) (zT_dv (by omega) (zT_leF (by omega) (zT_bo (by omega) (zT_some ⟨rfl, SQ.of hd hF0 hI1 hD⟩))))
theorem s_exempt (hn : 3000 < n) (hI : INV g F R) (hd : DD g F R m) (hk : k < F) (hb : 0 ≤ b ∧ b < 2147483648) : zT (sL_step_j638 n b (k : Int) g) (fun z g' => z = 1 ∧ SQ (m + 1) g') := by
  unfold sL_step_j638
  rw [u_tm hb.1]
  refine zT_dv (by omega) (zT_eq (by omega) (fun c => ?_) (fun c => ?_))
  · exact s_ex653 hn hI hd hk hb (by rw [if_pos c])
  · exact s_ex653 hn hI hd hk hb (by rw [if_neg c])
/-! rates, ends -/
theorem s_rate {q : Int} (hn : 3000 < n) (hF0 : 0 < F) (hI : INV g F R) (hd : DD g F R m) (ha : 0 ≤ a ∧ a < 2147483648) (hq : R ≠ 0 → 0 ≤ q ∧ q < (R : Int)) : zT (sL_step_j740 n a q g) (fun z g' => z = 1 ∧ SQ (m + 1) g') := by
  have hR6 := hI.2.1.2.1
  obtain ⟨d0, d1, d2, d3⟩ := id hd
  have e0 : g 17 0 (1 : Int).toNat = (R : Int) := d1
  have hfin : zT (sL_step_j779 n g) (fun z g' => z = 1 ∧ SQ (m + 1) g') := by
    unfold sL_step_j779
    exact zT_bo (by omega) (zT_some ⟨rfl, SQ.of hd hF0 hI D3.rf⟩)
  unfold sL_step_j740
  refine zT_ix (by omega) ?_
  rw [e0]
  refine zT_eq (by omega) (fun _ => hfin) (fun c => ?_)
  have hq2 := hq (by omega)
  obtain ⟨r, rfl⟩ : ∃ r : Nat, q = (r : Int) := ⟨q.toNat, by omega⟩
  have hrR : r < R := by omega
  rw [u_tm ha.1]
  refine zT_dv (by omega) (zT_bdm (t_actsRate hI hrR (by omega)) ?_)
  rintro z g1 (⟨rfl, rfl⟩ | ⟨hz, hI1, hD, m3⟩)
  · exact zT_eqT (by omega) hfin
  · refine zT_eqF (by omega) (b_regulationIs hn hI1 KS.rf hrR (by omega) (fun g2 h2 => ?_))
    rw [uRis_free.2.2.2.2.1, m3]
    refine zT_dv (by omega) (zT_eqT (by omega) ?_)
    unfold sL_step_j779
    exact zT_bo (by omega) (zT_some ⟨rfl, SQ.of hd hF0 (hI1.ks h2) (hD.tr h2.d3)⟩)
theorem s_end {q : Int} (hn : 3000 < n) (hI : INV g F R) (hd : DD g F R m) (hk : k < F) (ha : 0 ≤ a ∧ a < 2147483648) (hq : R ≠ 0 → 0 ≤ q ∧ q < (R : Int)) : zT (sL_step_j785 n a (k : Int) q g) (fun z g' => z = 1 ∧ SQ (m + 1) g') := by
  have hF0 : 0 < F := by omega
  have hR6 := hI.2.1.2.1
  obtain ⟨d0, d1, d2, d3⟩ := id hd
  have e0 : g 17 0 (1 : Int).toNat = (R : Int) := d1
  have hfin : zT (sL_step_j848 n g) (fun z g' => z = 1 ∧ SQ (m + 1) g') := by
    unfold sL_step_j848
    exact zT_bo (by omega) (zT_some ⟨rfl, SQ.of hd hF0 hI D3.rf⟩)
  unfold sL_step_j785
  refine zT_ix (by omega) ?_
  rw [e0]
  refine zT_eq (by omega) (fun _ => hfin) (fun c => ?_)
  have hq2 := hq (by omega)
  obtain ⟨r, rfl⟩ : ∃ r : Nat, q = (r : Int) := ⟨q.toNat, by omega⟩
  have hrR : r < R := by omega
  rw [u_tm ha.1]
  refine zT_dv (by omega) (zT_le (by omega) (fun _ => ?_) (fun _ => hfin))
  refine zT_bdm (t_ends hI hrR) ?_
  rintro z g1 (⟨rfl, -, rfl⟩ | ⟨rfl, -, hI1, hD, m4⟩)
  · exact zT_eqT (by omega) hfin
  · have hne : g1 5 r 4 ≠ 0 := by omega
    have hs0 := uSc_ended hne
    refine zT_eqF (by omega) (b_regulationIs hn hI1 KS.rf hrR (by omega) (fun g2 h2 => ?_))
    rw [uRis_free.1, hs0]
    have es : uSlo g1 r 0 = -1 := by
      unfold uSlo
      rw [hs0]
      rfl
    refine zT_eqT (by omega) (b_slot hI1 h2 hrR (by omega) ?_)
    rw [es]
    refine zT_eqT (by omega) (b_penalty hn hI1 h2 hk hrR (fun g3 h3 => ?_))
    rw [uPen_ended hne]
    have hI3 := hI1.ks h3
    refine zT_eqT (by omega) (zT_bdm (t_ends hI3 hrR) ?_)
    rintro z g4 (⟨rfl, -, rfl⟩ | ⟨-, h40, -⟩)
    · refine zT_eqT (by omega) ?_
      unfold sL_step_j848
      exact zT_bo (by omega) (zT_some ⟨rfl, SQ.of hd hF0 hI3 (hD.tr h3.d3)⟩)
    · rw [h3.rg hrR] at h40
      exact absurd h40 hne
/-! deals, swaps, loads, what would be, messages -/
theorem s_deal (hn : 3000 < n) (hI : INV g F R) (hd : DD g F R m) (hk : k < F) (ha : 0 ≤ a ∧ a < 2147483648) : zT (sL_step_j854 n a (k : Int) g) (fun z g' => z = 1 ∧ SQ (m + 1) g') := by
  have hF0 : 0 < F := by omega
  unfold sL_step_j854 sL_step_j867
  rw [u_tm ha.1]
  have h : ∀ w, (w = 0 ∨ w = 1) → zT (zbd (sL_isDealt n w (k : Int) g) (fun r1 g => zbo r1 (some (r1, g)))) (fun z g' => z = 1 ∧ SQ (m + 1) g') := by
    intro w hw
    refine zT_bdm (u_isDealt hn hI hk hw hd.1) ?_
    rintro z g1 ⟨rfl, hI1, hD⟩
    exact zT_bo (by omega) (zT_some ⟨rfl, SQ.of hd hF0 hI1 hD⟩)
  exact zT_dv (by omega) (zT_eq (by omega) (fun _ => h 1 (Or.inr rfl)) (fun _ => h 0 (Or.inl rfl)))
theorem s_swap (hI : INV g F R) (hd : DD g F R m) (hk : k < F) (hb : 0 ≤ b ∧ b < 2147483648) : zT (sL_step_j873 n b (k : Int) g) (fun z g' => z = 1 ∧ SQ (m + 1) g') := by
  unfold sL_step_j873
  refine zT_bdm (u_isSwapped hI hk hb hd.1) ?_
  rintro z g1 ⟨rfl, hI1, hD⟩
  exact zT_bo (by omega) (zT_some ⟨rfl, SQ.of hd (by omega) hI1 hD⟩)
theorem s_told (hn : 3000 < n) (hI : INV g F R) (hd : DD g F R m) (hk : k < F) (hb : 0 ≤ b ∧ b < 2147483648) : zT (sL_step_j1035 n b (k : Int) g) (fun z g' => z = 1 ∧ SQ (m + 1) g') := by
  unfold sL_step_j1035
  refine zT_bdm (u_isTold hn hI hk hb) ?_
  rintro z g1 ⟨rfl, hI1, hD⟩
  exact zT_bo (by omega) (zT_some ⟨rfl, SQ.of hd (by omega) hI1 hD⟩)
theorem s_peaks (hn : 3000 < n) (hF0 : 0 < F) (hI : INV g F R) (hd : DD g F R m) (ha : 0 ≤ a ∧ a < 2147483648) (hb : 0 ≤ b ∧ b < 2147483648) : zT (sL_step_j883 n a b g) (fun z g' => z = 1 ∧ SQ (m + 1) g') := by
  have h24 := hI.1.2.1
  obtain ⟨d0, d1, d2, d3⟩ := id hd
  unfold sL_step_j883 sL_step_j959
  refine zT_ix (by omega) (zT_ix (by omega) (zT_st ?_))
  have e0 : g 17 0 (2 : Int).toNat = g 17 0 2 := rfl
  rw [e0]
  generalize hg1 : zup g 17 0 (2 : Int).toNat (g 17 0 2 + 1) = g1
  have o1 : ∀ a j p, a ≠ 17 → g1 a j p = g a j p := fun a j p q => by rw [← hg1, zup_rd, if_neg (by omega)]
  have hI1 : INV g1 F R := hI.u17 o1
  have e1 : g1 17 0 (2 : Int).toNat = g 17 0 2 + 1 := by rw [← hg1]; simp [zup_rd]
  have hfin : ∀ g2, KS R g1 g2 → SQ (m + 1) g2 := by
    intro g2 h2
    refine ⟨F, R, hF0, hI1.ks h2, ?_, ?_, ?_, ?_⟩
    · rw [h2.d, ← hg1, zup_rd, if_neg (by simp)]; exact d0
    · rw [h2.d, ← hg1, zup_rd, if_neg (by simp)]; exact d1
    · rw [h2.d]
      have : g1 17 0 2 = g 17 0 2 + 1 := e1
      omega
    · rw [h2.d]
      have : g1 17 0 2 = g 17 0 2 + 1 := e1
      omega
  rw [u_tm hb.1, u_tm ha.1, u_tm hb.1, e1]
  have hs : 0 ≤ a % 6 ∧ a % 6 < 6 := by omega
  have hw : 1 ≤ 1 + b % 240 ∧ 1 + b % 240 ≤ 240 := by omega
  have hpk := uPeak_bd (g := g1) (F := F) (s := a % 6) (w := 1 + b % 240)
  have hld := uLoad_le (s := a % 6) (b := b % 1500) (w := 1 + b % 240) hI1 hs (by omega) hw.1
  have hlb := uLoad_bd (g := g1) (F := F) (s := a % 6) (b := b % 1500) (w := 1 + b % 240)
  refine zT_dv (by omega) (zT_let (zT_ix (by omega) (zT_le (by omega) (fun _ => ?_) (fun _ => zT_bo (by omega) (zT_some ⟨rfl, hfin g1 KS.rf⟩)))))
  refine zT_dv (by omega) (b_peak hn hI1 KS.rf hs hw (fun g2 h2 => zT_dv (by omega) (b_peakAnew (by omega) hI1 h2 hs hw (zT_eqT (by omega) (zT_dv (by omega) (zT_dv (by omega) (b_load (by omega) hI1 h2 hs (by omega) (zT_dv (by omega) (b_peakAnew (by omega) hI1 h2 hs hw (zT_leT (by omega) (zT_bo (by omega) (zT_some ⟨rfl, hfin g2 h2⟩))))))))))))
theorem s_would (hn : 3000 < n) (hF0 : 0 < F) (hI : INV g F R) (hd : DD g F R m) (ha : 0 ≤ a ∧ a < 2147483648) (hb : 0 ≤ b ∧ b < 2147483648) : zT (sL_step_j965 n a b g) (fun z g' => z = 1 ∧ SQ (m + 1) g') := by
  have hall := uAll_in (g := g) (F := F) (m := R) hI.1 hI.2.1.2.2
  unfold sL_step_j965
  rw [u_tm ha.1, u_tm hb.1, u_td hb.1, u_td hb.1, u_tm (show 0 ≤ b / 64 from by omega), u_tm (show 0 ≤ b / 4096 from by omega)]
  refine b_allDue hn hI KS.rf (fun g1 h1 => ?_)
  refine zT_dv (by omega) (zT_dv (by omega) (zT_dv (by omega) (zT_dv (by omega) (zT_dv (by omega) (zT_dv (by omega) (zT_dv (by omega) ?_))))))
  refine b_would hn hI h1 (by omega) (by omega) (fun x g2 hx hin h2 => ?_)
  refine zT_ltF ⟨hx, hin, hall⟩ (b_allDue hn hI h2 (fun g3 h3 => ?_))
  exact zT_eqT ⟨rfl, hall, hall⟩ (zT_bo (by omega) (zT_some ⟨rfl, SQ.of hd hF0 (hI.ks h3) h3.d3⟩))
/-! the step -/
theorem s_49 {t q : Int} (hn : 3000 < n) (hI : INV g F R) (hd : DD g F R m) (hk : k < F) (ha : 0 ≤ a ∧ a < 2147483648) (hb : 0 ≤ b ∧ b < 2147483648) (hq : R ≠ 0 → 0 ≤ q ∧ q < (R : Int)) (ht : 0 ≤ t ∧ t < 26) : zT (sL_step_j49 n a b (k : Int) q t g) (fun z g' => z = 1 ∧ SQ (m + 1) g') := by
  have hF0 : 0 < F := by omega
  unfold sL_step_j49
  refine zT_eq (by omega) (fun _ => s_flight hn hI hd ha hb) (fun _ => ?_)
  refine zT_eq (by omega) (fun _ => s_flight hn hI hd ha hb) (fun _ => ?_)
  refine zT_eq (by omega) (fun _ => s_flight hn hI hd ha hb) (fun _ => ?_)
  refine zT_eq (by omega) (fun _ => s_entry hn hI hd hk hb) (fun _ => ?_)
  refine zT_eq (by omega) (fun _ => s_entry hn hI hd hk hb) (fun _ => ?_)
  refine zT_eq (by omega) (fun _ => s_entry hn hI hd hk hb) (fun _ => ?_)
  refine zT_eq (by omega) (fun _ => s_entry hn hI hd hk hb) (fun _ => ?_)
  refine zT_eq (by omega) (fun _ => s_entry hn hI hd hk hb) (fun _ => ?_)
  refine zT_eq (by omega) (fun _ => s_regulation hn hF0 hI hd ha hb) (fun _ => ?_)
  refine zT_eq (by omega) (fun _ => s_regulation hn hF0 hI hd ha hb) (fun _ => ?_)
  refine zT_eq (by omega) (fun _ => s_exempt hn hI hd hk hb) (fun _ => ?_)
  refine zT_eq (by omega) (fun _ => s_rate hn hF0 hI hd ha hq) (fun _ => ?_)
  refine zT_eq (by omega) (fun _ => s_end hn hI hd hk ha hq) (fun _ => ?_)
  refine zT_eq (by omega) (fun _ => s_deal hn hI hd hk ha) (fun _ => ?_)
  refine zT_eq (by omega) (fun _ => s_deal hn hI hd hk ha) (fun _ => ?_)
  refine zT_eq (by omega) (fun _ => s_deal hn hI hd hk ha) (fun _ => ?_)
  refine zT_eq (by omega) (fun _ => s_deal hn hI hd hk ha) (fun _ => ?_)
  refine zT_eq (by omega) (fun _ => s_swap hI hd hk hb) (fun _ => ?_)
  refine zT_eq (by omega) (fun _ => s_swap hI hd hk hb) (fun _ => ?_)
  refine zT_eq (by omega) (fun _ => s_swap hI hd hk hb) (fun _ => ?_)
  refine zT_eq (by omega) (fun _ => s_peaks hn hF0 hI hd ha hb) (fun _ => ?_)
  exact zT_eq (by omega) (fun _ => s_would hn hF0 hI hd ha hb) (fun _ => s_told hn hI hd hk hb)
theorem s_step {w : Int} (hn : 3000 < n) (hI : INV g F R) (hd : DD g F R m) (hw : 0 ≤ w ∧ w < 2147483648) (ha : 0 ≤ a ∧ a < 2147483648) (hb : 0 ≤ b ∧ b < 2147483648) : zT (sL_step n w a b g) (fun z g' => z = 1 ∧ SQ (m + 1) g') := by
  have h24 := hI.1.2.1
  have hR6 := hI.2.1.2.1
  have e0 : g 17 0 (0 : Int).toNat = (F : Int) := hd.1
  have e1 : g 17 0 (1 : Int).toNat = (R : Int) := hd.2.1
  unfold sL_step
  refine zT_ix (by omega) ?_
  rw [e0]
  refine zT_eq (by omega) (fun c => ?_) (fun c => ?_)
  · -- no flight yet
    have h33 : ∀ q, zT (sL_step_j33 n w a b 0 q g) (fun z g' => z = 1 ∧ SQ (m + 1) g') := by
      intro q
      unfold sL_step_j33 sL_step_j49
      refine zT_ix (by omega) ?_
      rw [e0]
      exact zT_eqT (by omega) (zT_eqT (by omega) (s_flight hn hI hd ha hb))
    unfold sL_step_j15
    refine zT_ix (by omega) ?_
    rw [e1]
    refine zT_eq (by omega) (fun _ => h33 _) (fun _ => zT_ix (by omega) (zT_dv (by omega) (h33 _)))
  · refine zT_ix (by omega) (zT_dv (by omega) ?_)
    rw [u_tm ha.1]
    obtain ⟨k, hk⟩ : ∃ k : Nat, a % (F : Int) = (k : Int) := ⟨(a % (F : Int)).toNat, by have := Int.emod_nonneg a (b := (F : Int)) (by omega); omega⟩
    have hkF : k < F := by have := Int.emod_lt_of_pos a (b := (F : Int)) (by omega); omega
    rw [hk]
    have h33 : ∀ q, (R ≠ 0 → 0 ≤ q ∧ q < (R : Int)) → zT (sL_step_j33 n w a b (k : Int) q g) (fun z g' => z = 1 ∧ SQ (m + 1) g') := by
      intro q hq
      unfold sL_step_j33
      refine zT_ix (by omega) ?_
      rw [e0, u_tm hw.1]
      exact zT_eqF (by omega) (zT_dv (by omega) (s_49 hn hI hd hkF ha hb hq (by omega)))
    unfold sL_step_j15
    refine zT_ix (by omega) ?_
    rw [e1, u_tm hb.1]
    refine zT_eq (by omega) (fun z => h33 0 (fun z2 => by omega)) (fun z => zT_ix (by omega) (zT_dv (by omega) (h33 _ (fun _ => ?_))))
    exact ⟨Int.emod_nonneg b (by omega), Int.emod_lt_of_pos b (by omega)⟩
end STEP

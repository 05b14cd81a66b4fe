/-! the class, over the machine -/
def sX4_flightAt_j15 (g : zG) : Option ((Nat × Int) × zG) := some ((1, 0), g)
def sX4_flightAt (x1 : Int) (g : zG) : Option ((Nat × Int) × zG) := zlt x1 0 ((sX4_flightAt_j15 g)) (zlt x1 (g 1 0 2) (zli x1 (g 1 0 2) (some ((0, (x1)), g))) ((sX4_flightAt_j15 g)))
def sX4_checkSector_j10 (g : zG) : Option ((Nat × Int) × zG) := some ((1, 0), g)
def sX4_checkSector (x0 : Int) (g : zG) : Option ((Nat × Int) × zG) := zlt x0 0 ((sX4_checkSector_j10 g)) (zlt x0 6 (some ((0, 0), g)) ((sX4_checkSector_j10 g)))
def sX4_checkRange_j10 (g : zG) : Option ((Nat × Int) × zG) := some ((2, 0), g)
def sX4_checkRange (x0 : Int) (x1 : Int) (x2 : Int) (g : zG) : Option ((Nat × Int) × zG) := zlt x0 x1 ((sX4_checkRange_j10 g)) (zle x0 x2 (some ((0, 0), g)) ((sX4_checkRange_j10 g)))
def sX4_entry (x1 : Int) (x2 : Int) (x3 : Int) (x4 : Int) (g : zG) : Option ((Nat × Int) × zG) := zbx (sX4_flightAt x1 g) (fun r1 g => zbx (sX4_checkSector x2 g) (fun _ g => zbx (sX4_checkRange x3 0 600 g) (fun _ g => zbx (sX4_checkRange x4 1 120 g) (fun _ g => zbd (sX1_canEnterNext ((r1).toNat) x2 x3 g) (fun r9 g => zeq r9 0 (some ((3, 0), g)) (zbd (sX1_addEntry ((r1).toNat) x2 x3 x4 g) (fun _ g => some ((0, g 4 ((r1).toNat) 8), g))))))))
def sX4_exempt (x1 : Int) (x2 : Int) (g : zG) : Option ((Nat × Int) × zG) := zbx (sX4_flightAt x1 g) (fun r1 g => zeq (g 4 ((r1).toNat) 2) 0 (zlet (g 4 ((r1).toNat) 3) (fun v3 => zbo x2 (zst g 4 ((r1).toNat) 3 x2 (fun g => zeq x2 0 (zbo v3 (some ((0, v3), g))) (zbd (sX1_loseSlotTime ((r1).toNat) g) (fun _ g => zbo v3 (some ((0, v3), g)))))))) (some ((3, 0), g)))
def sX4_flightIs (x1 : Int) (x2 : Int) (g : zG) : Option ((Nat × Int) × zG) := zbx (sX4_flightAt x1 g) (fun r1 g => zbx (sX4_checkRange x2 0 7 g) (fun _ g => zeq x2 0 (some ((0, g 4 ((r1).toNat) 2), g)) (zeq x2 1 (some ((0, g 4 ((r1).toNat) 1), g)) (zeq x2 2 (some ((0, g 4 ((r1).toNat) 4), g)) (zeq x2 3 (some ((0, g 4 ((r1).toNat) 5), g)) (zeq x2 4 (zbd (sX1_departure ((r1).toNat) g) (fun r5 g => some ((0, r5), g))) (zeq x2 5 (some ((0, g 4 ((r1).toNat) 8), g)) (zeq x2 6 (some ((0, g 4 ((r1).toNat) 7), g)) (zeq (g 4 ((r1).toNat) 3) 0 (some ((0, 0), g)) (some ((0, 1), g)))))))))))
def sX4_over (x1 : Int) (x2 : Int) (g : zG) : Option ((Nat × Int) × zG) := zbx (sX4_flightAt x1 g) (fun r1 g => zbx (sX4_checkSector x2 g) (fun _ g => zbd (sX1_timeOver ((r1).toNat) x2 g) (fun r5 g => some ((0, r5), g))))
def sX4_loadOf_h6 (n : Nat) (K : Nat → Int → Int → Int → Int → Int → zG → Option (Int × zG)) (x1 : Int) (x2 : Int) (x3 : Int) (x4 : Int) (x5 : Int) (g : zG) : Option (Int × zG) := zlt x5 (g 1 0 2) (zli x5 (g 1 0 2) (zbd (sX1_timeOver ((x5).toNat) x1 g) (fun r2 g => zbd (sX1_loads ((x5).toNat) x1 g) (fun r3 g => zeq r3 0 (zlet (x5 + 1) (fun v4 => (K 0 x1 x2 x3 x4 v4 g))) (zlt r2 x2 (zlet (x5 + 1) (fun v5 => (K 0 x1 x2 x3 x4 v5 g))) (zlt r2 (x2 + x3) (zlet (x4 + 1) (fun v7 => zlet (x5 + 1) (fun v8 => (K 0 x1 x2 x3 v7 v8 g)))) (zlet (x5 + 1) (fun v6 => (K 0 x1 x2 x3 x4 v6 g))))))))) (some (x4, g))
def sX4_loadOf_run (n0 : Nat) : Nat → Nat → Int → Int → Int → Int → Int → zG → Option (Int × zG)
  | 0, _, _, _, _, _, _, _ => none
  | n + 1, 0, x1, x2, x3, x4, x5, g => sX4_loadOf_h6 n0 (sX4_loadOf_run n0 n) x1 x2 x3 x4 x5 g
  | _ + 1, _, _, _, _, _, _, _ => none
def sX4_loadOf (n : Nat) (x1 : Int) (x2 : Int) (x3 : Int) (g : zG) : Option (Int × zG) := (sX4_loadOf_run n n 0 x1 x2 x3 0 0 g)
def sX4_load (n : Nat) (x1 : Int) (x2 : Int) (x3 : Int) (g : zG) : Option ((Nat × Int) × zG) := zbx (sX4_checkSector x1 g) (fun _ g => zbx (sX4_checkRange x2 0 2999 g) (fun _ g => zbx (sX4_checkRange x3 1 240 g) (fun _ g => zbd (sX4_loadOf n x1 x2 x3 g) (fun r7 g => some ((0, r7), g)))))
def sX4_inside_h17 (n : Nat) (K : Nat → Int → Int → Int → Int → zG → Option ((Nat × Int) × zG)) (x1 : Int) (x2 : Int) (x3 : Int) (x4 : Int) (g : zG) : Option ((Nat × Int) × zG) := zlt x4 (g 1 0 2) (zli x4 (g 1 0 2) (zbd (sX1_isInside ((x4).toNat) x1 x2 g) (fun r2 g => zeq r2 0 (zlet (x4 + 1) (fun v3 => (K 0 x1 x2 x3 v3 g))) (zlet (x3 + 1) (fun v4 => zlet (x4 + 1) (fun v5 => (K 0 x1 x2 v4 v5 g))))))) (some ((0, x3), g))
def sX4_inside_run (n0 : Nat) : Nat → Nat → Int → Int → Int → Int → zG → Option ((Nat × Int) × zG)
  | 0, _, _, _, _, _, _ => none
  | n + 1, 0, x1, x2, x3, x4, g => sX4_inside_h17 n0 (sX4_inside_run n0 n) x1 x2 x3 x4 g
  | _ + 1, _, _, _, _, _, _ => none
def sX4_inside (n : Nat) (x1 : Int) (x2 : Int) (g : zG) : Option ((Nat × Int) × zG) := zbx (sX4_checkSector x1 g) (fun _ g => zbx (sX4_checkRange x2 0 2999 g) (fun _ g => (sX4_inside_run n n 0 x1 x2 0 0 g)))
def sX4_lineUpEntering_h9 (n : Nat) (K : Nat → Int → Int → zG → Option (Int × zG)) (x1 : Int) (x2 : Int) (g : zG) : Option (Int × zG) := zlt x2 (g 1 0 2) (zli x2 (g 1 0 2) (zbd (sX1_loads ((x2).toNat) x1 g) (fun r2 g => zeq r2 0 (zlet (x2 + 1) (fun v3 => (K 0 x1 v3 g))) (zbd (sX1_timeOver ((x2).toNat) x1 g) (fun r4 g => zbd (sX2_add n 2 x2 r4 g) (fun _ g => zlet (x2 + 1) (fun v6 => (K 0 x1 v6 g)))))))) (some (0, g))
def sX4_lineUpEntering_run (n0 : Nat) : Nat → Nat → Int → Int → zG → Option (Int × zG)
  | 0, _, _, _, _ => none
  | n + 1, 0, x1, x2, g => sX4_lineUpEntering_h9 n0 (sX4_lineUpEntering_run n0 n) x1 x2 g
  | _ + 1, _, _, _, _ => none
def sX4_lineUpEntering (n : Nat) (x1 : Int) (g : zG) : Option (Int × zG) := zbd (sX2_clear 2 g) (fun _ g => (sX4_lineUpEntering_run n n 0 x1 0 g))
def sX4_peak_h28 (n : Nat) (K : Nat → Int → Int → Int → Int → Int → zG → Option ((Nat × Int) × zG)) (x2 : Int) (x3 : Int) (x4 : Int) (x5 : Int) (x6 : Int) (g : zG) : Option ((Nat × Int) × zG) := zle x6 2999 (zbd (sX2_countAheadOf n 2 x6 x3 g) (fun r1 g => zbd (sX2_countAheadOf n 2 (x6 + x2) x4 g) (fun r2 g => zri x5 (zri (r2 - r1) (zlet (max x5 (r2 - r1)) (fun v3 => zlet (x6 + 1) (fun v4 => (K 0 x2 r1 r2 v3 v4 g)))))))) (some ((0, x5), g))
def sX4_peak_run (n0 : Nat) : Nat → Nat → Int → Int → Int → Int → Int → zG → Option ((Nat × Int) × zG)
  | 0, _, _, _, _, _, _, _ => none
  | n + 1, 0, x2, x3, x4, x5, x6, g => sX4_peak_h28 n0 (sX4_peak_run n0 n) x2 x3 x4 x5 x6 g
  | _ + 1, _, _, _, _, _, _, _ => none
def sX4_peak (n : Nat) (x1 : Int) (x2 : Int) (g : zG) : Option ((Nat × Int) × zG) := zbx (sX4_checkSector x1 g) (fun _ g => zbx (sX4_checkRange x2 1 240 g) (fun _ g => zbd (sX4_lineUpEntering n x1 g) (fun _ g => (sX4_peak_run n n 0 x2 0 0 0 0 g))))
def sX4_peakAnew_h17 (n : Nat) (K : Nat → Int → Int → Int → Int → zG → Option ((Nat × Int) × zG)) (x1 : Int) (x2 : Int) (x3 : Int) (x4 : Int) (g : zG) : Option ((Nat × Int) × zG) := zlt x4 (g 1 0 2) (zli x4 (g 1 0 2) (zbd (sX1_loads ((x4).toNat) x1 g) (fun r2 g => zeq r2 0 (zlet (x4 + 1) (fun v3 => (K 0 x1 x2 x3 v3 g))) (zbd (sX1_timeOver ((x4).toNat) x1 g) (fun r4 g => zbd (sX4_loadOf n x1 r4 x2 g) (fun r5 g => zri x3 (zri r5 (zlet (max x3 r5) (fun v6 => zlet (x4 + 1) (fun v7 => (K 0 x1 x2 v6 v7 g))))))))))) (some ((0, x3), g))
def sX4_peakAnew_run (n0 : Nat) : Nat → Nat → Int → Int → Int → Int → zG → Option ((Nat × Int) × zG)
  | 0, _, _, _, _, _, _ => none
  | n + 1, 0, x1, x2, x3, x4, g => sX4_peakAnew_h17 n0 (sX4_peakAnew_run n0 n) x1 x2 x3 x4 g
  | _ + 1, _, _, _, _, _, _ => none
def sX4_peakAnew (n : Nat) (x1 : Int) (x2 : Int) (g : zG) : Option ((Nat × Int) × zG) := zbx (sX4_checkSector x1 g) (fun _ g => zbx (sX4_checkRange x2 1 240 g) (fun _ g => (sX4_peakAnew_run n n 0 x1 x2 0 0 g)))
def sX4_regulationAt_j15 (g : zG) : Option ((Nat × Int) × zG) := some ((1, 0), g)
def sX4_regulationAt (x1 : Int) (g : zG) : Option ((Nat × Int) × zG) := zlt x1 0 ((sX4_regulationAt_j15 g)) (zlt x1 (g 1 1 2) (zli x1 (g 1 1 2) (some ((0, (x1)), g))) ((sX4_regulationAt_j15 g)))
def sX4_checkNotEnded (i0 : Nat) (g : zG) : Option ((Nat × Int) × zG) := zeq (g 5 i0 4) 0 (some ((0, 0), g)) (some ((3, 0), g))
def sX4_rate (x1 : Int) (x2 : Int) (g : zG) : Option ((Nat × Int) × zG) := zbx (sX4_regulationAt x1 g) (fun r1 g => zbx (sX4_checkRange x2 0 60 g) (fun _ g => zbx (sX4_checkNotEnded ((r1).toNat) g) (fun _ g => zlet (g 5 ((r1).toNat) 3) (fun v7 => zst g 5 ((r1).toNat) 3 x2 (fun g => some ((0, v7), g))))))
def sX4_end (x1 : Int) (g : zG) : Option ((Nat × Int) × zG) := zbx (sX4_regulationAt x1 g) (fun r1 g => zbx (sX4_checkNotEnded ((r1).toNat) g) (fun _ g => zbo 1 (zst g 5 ((r1).toNat) 4 1 (fun g => some ((0, 0), g)))))
def sX4_chargedToRegulation_h4 (n : Nat) (K : Nat → Int → Int → Int → zG → Option (Int × zG)) (x1 : Int) (x2 : Int) (x3 : Int) (g : zG) : Option (Int × zG) := zlt x3 (g 1 0 2) (zli x3 (g 1 0 2) (zeq (g 4 ((x3).toNat) 5) x1 (zbd (sX1_charge ((x3).toNat) g) (fun r3 g => zlet (x2 + r3) (fun v4 => zlet (x3 + 1) (fun v5 => (K 0 x1 v4 v5 g))))) (zlet (x3 + 1) (fun v2 => (K 0 x1 x2 v2 g))))) (some (x2, g))
def sX4_chargedToRegulation_run (n0 : Nat) : Nat → Nat → Int → Int → Int → zG → Option (Int × zG)
  | 0, _, _, _, _, _ => none
  | n + 1, 0, x1, x2, x3, g => sX4_chargedToRegulation_h4 n0 (sX4_chargedToRegulation_run n0 n) x1 x2 x3 g
  | _ + 1, _, _, _, _, _ => none
def sX4_chargedToRegulation (n : Nat) (x1 : Int) (g : zG) : Option (Int × zG) := (sX4_chargedToRegulation_run n n 0 x1 0 0 g)
def sX4_regulationIs (n : Nat) (x1 : Int) (x2 : Int) (g : zG) : Option ((Nat × Int) × zG) := zbx (sX4_regulationAt x1 g) (fun r1 g => zbx (sX4_checkRange x2 0 6 g) (fun _ g => zbd (sX0_dealOut n ((r1).toNat) g) (fun _ g => zeq x2 0 (some ((0, g 2 0 2), g)) (zeq x2 1 (some ((0, g 2 0 3), g)) (zeq x2 2 (some ((0, g 3 0 4), g)) (zeq x2 3 (some ((0, g 3 1 4), g)) (zeq x2 4 (some ((0, g 2 0 4), g)) (zeq x2 5 (some ((0, g 5 ((r1).toNat) 3), g)) (zbd (sX4_chargedToRegulation n x1 g) (fun r6 g => some ((0, r6), g)))))))))))
def sX4_slot (x1 : Int) (x2 : Int) (g : zG) : Option ((Nat × Int) × zG) := zbx (sX4_regulationAt x1 g) (fun r1 g => zlt x2 0 (some ((1, 0), g)) (zbd (sX3_slotCount ((r1).toNat) g) (fun r3 g => zlt x2 r3 (zbd (sX3_slotBegin ((r1).toNat) x2 g) (fun r4 g => some ((0, r4), g))) (some ((0, (-1)), g)))))
def sX4_penalty (n : Nat) (x1 : Int) (x2 : Int) (g : zG) : Option ((Nat × Int) × zG) := zbx (sX4_flightAt x1 g) (fun r1 g => zbx (sX4_regulationAt x2 g) (fun r3 g => zbd (sX0_dealOut n ((r3).toNat) g) (fun _ g => zbd (sX2_penaltyOf n 1 x1 g) (fun r6 g => some ((0, r6), g)))))
def sX4_reckonPenalties_h14 (n : Nat) (K : Nat → Int → Int → zG → Option (Int × zG)) (x2 : Int) (x3 : Int) (g : zG) : Option (Int × zG) := zlt x3 (g 1 0 2) (zli x3 (g 1 0 2) (zbd (sX2_penaltyOf n 1 x3 g) (fun r2 g => zbd (sX1_reckon ((x3).toNat) r2 x2 g) (fun _ g => zlet (x3 + 1) (fun v4 => (K 0 x2 v4 g)))))) (some (0, g))
def sX4_reckonPenalties_run (n0 : Nat) : Nat → Nat → Int → Int → zG → Option (Int × zG)
  | 0, _, _, _, _ => none
  | n + 1, 0, x2, x3, g => sX4_reckonPenalties_h14 n0 (sX4_reckonPenalties_run n0 n) x2 x3 g
  | _ + 1, _, _, _, _ => none
def sX4_reckonPenalties (n : Nat) (i1 : Nat) (x2 : Int) (g : zG) : Option (Int × zG) := zbd (sX0_dealOut n i1 g) (fun _ g => (sX4_reckonPenalties_run n n 0 x2 0 g))
def sX4_reckonDues_h2 (n : Nat) (K : Nat → Int → zG → Option (Int × zG)) (x1 : Int) (g : zG) : Option (Int × zG) := zlt x1 (g 1 0 2) (zli x1 (g 1 0 2) (zbd (sX1_forgetReckoned ((x1).toNat) g) (fun _ g => zlet (x1 + 1) (fun v3 => (K 0 v3 g))))) ((K 1 0 g))
def sX4_reckonDues_h35 (n : Nat) (K : Nat → Int → zG → Option (Int × zG)) (x1 : Int) (g : zG) : Option (Int × zG) := zlt x1 (g 1 1 2) (zli x1 (g 1 1 2) (zbd (sX4_reckonPenalties n ((x1).toNat) x1 g) (fun _ g => zlet (x1 + 1) (fun v3 => (K 1 v3 g))))) (some (0, g))
def sX4_reckonDues_run (n0 : Nat) : Nat → Nat → Int → zG → Option (Int × zG)
  | 0, _, _, _ => none
  | n + 1, 0, x1, g => sX4_reckonDues_h2 n0 (sX4_reckonDues_run n0 n) x1 g
  | n + 1, 1, x1, g => sX4_reckonDues_h35 n0 (sX4_reckonDues_run n0 n) x1 g
  | _ + 1, _, _, _ => none
def sX4_reckonDues (n : Nat) (g : zG) : Option (Int × zG) := (sX4_reckonDues_run n n 0 0 g)
def sX4_due (n : Nat) (x1 : Int) (g : zG) : Option ((Nat × Int) × zG) := zbx (sX4_flightAt x1 g) (fun r1 g => zbd (sX4_reckonDues n g) (fun _ g => some ((0, g 4 ((r1).toNat) 12), g)))
def sX4_dueAnew_h10 (n : Nat) (K : Nat → Int → Int → Int → zG → Option ((Nat × Int) × zG)) (x1 : Int) (x2 : Int) (x3 : Int) (g : zG) : Option ((Nat × Int) × zG) := zlt x3 (g 1 1 2) (zli x3 (g 1 1 2) (zbd (sX0_penaltyBySlots n ((x3).toNat) x1 g) (fun r2 g => zri x2 (zri r2 (zlet (max x2 r2) (fun v3 => zlet (x3 + 1) (fun v4 => (K 0 x1 v3 v4 g)))))))) (some ((0, x2), g))
def sX4_dueAnew_run (n0 : Nat) : Nat → Nat → Int → Int → Int → zG → Option ((Nat × Int) × zG)
  | 0, _, _, _, _, _ => none
  | n + 1, 0, x1, x2, x3, g => sX4_dueAnew_h10 n0 (sX4_dueAnew_run n0 n) x1 x2 x3 g
  | _ + 1, _, _, _, _, _ => none
def sX4_dueAnew (n : Nat) (x1 : Int) (g : zG) : Option ((Nat × Int) × zG) := zbx (sX4_flightAt x1 g) (fun r1 g => (sX4_dueAnew_run n n 0 x1 0 0 g))
def sX4_sumOfDues_h4 (n : Nat) (K : Nat → Int → Int → zG → Option (Int × zG)) (x1 : Int) (x2 : Int) (g : zG) : Option (Int × zG) := zlt x2 (g 1 0 2) (zli x2 (g 1 0 2) (zlet (x1 + (g 4 ((x2).toNat) 12)) (fun v2 => zlet (x2 + 1) (fun v3 => (K 0 v2 v3 g))))) (some (x1, g))
def sX4_sumOfDues_run (n0 : Nat) : Nat → Nat → Int → Int → zG → Option (Int × zG)
  | 0, _, _, _, _ => none
  | n + 1, 0, x1, x2, g => sX4_sumOfDues_h4 n0 (sX4_sumOfDues_run n0 n) x1 x2 g
  | _ + 1, _, _, _, _ => none
def sX4_sumOfDues (n : Nat) (g : zG) : Option (Int × zG) := (sX4_sumOfDues_run n n 0 0 0 g)
def sX4_allDue (n : Nat) (g : zG) : Option (Int × zG) := zbd (sX4_reckonDues n g) (fun _ g => zbd (sX4_sumOfDues n g) (fun r2 g => some (r2, g)))
def sX4_deal_h8 (n : Nat) (K : Nat → Int → Int → Int → zG → Option (Int × zG)) (x1 : Int) (x2 : Int) (x3 : Int) (g : zG) : Option (Int × zG) := zlt x3 (g 1 0 2) (zli x3 (g 1 0 2) (zeq (g 4 ((x3).toNat) 2) 0 (zbd (sX1_takeReckoned ((x3).toNat) x1 g) (fun _ g => zbd (sX1_delay ((x3).toNat) g) (fun r4 g => zlet (x2 + r4) (fun v5 => zlet (x3 + 1) (fun v6 => (K 0 x1 v5 v6 g)))))) (zlet (x3 + 1) (fun v2 => (K 0 x1 x2 v2 g))))) (some (x2, g))
def sX4_deal_run (n0 : Nat) : Nat → Nat → Int → Int → Int → zG → Option (Int × zG)
  | 0, _, _, _, _, _ => none
  | n + 1, 0, x1, x2, x3, g => sX4_deal_h8 n0 (sX4_deal_run n0 n) x1 x2 x3 g
  | _ + 1, _, _, _, _, _ => none
def sX4_deal (n : Nat) (x1 : Int) (g : zG) : Option (Int × zG) := zbd (sX4_reckonDues n g) (fun _ g => (sX4_deal_run n n 0 x1 0 0 g))
def sX4_swap_j111 (g : zG) : Option ((Nat × Int) × zG) := some ((3, 0), g)
def sX4_swap (x1 : Int) (x2 : Int) (g : zG) : Option ((Nat × Int) × zG) := zbx (sX4_flightAt x1 g) (fun r1 g => zbx (sX4_flightAt x2 g) (fun r3 g => zeq x1 x2 (some ((2, 0), g)) (zbd (sX1_sharesRuling ((r1).toNat) ((r3).toNat) g) (fun r5 g => zeq r5 0 (some ((3, 0), g)) (zbx (sX4_regulationAt (g 4 ((r1).toNat) 5) g) (fun r6 g => zlet (g 5 ((r6).toNat) 0) (fun v8 => zbd (sX1_timeOver ((r3).toNat) v8 g) (fun r9 g => zbd (sX1_behindAt ((r1).toNat) v8 g) (fun r10 g => zlet (r9 - r10) (fun v11 => zbd (sX1_timeOver ((r1).toNat) v8 g) (fun r12 g => zbd (sX1_behindAt ((r3).toNat) v8 g) (fun r13 g => zlet (r12 - r13) (fun v14 => zlt v11 (g 4 ((r1).toNat) 1) ((sX4_swap_j111 g)) (zlt v14 (g 4 ((r3).toNat) 1) ((sX4_swap_j111 g)) (zst g 4 ((r1).toNat) 4 v11 (fun g => zst g 4 ((r3).toNat) 4 v14 (fun g => some ((0, 0), g))))))))))))))))))
def sX4_message_j35 (x2 : Int) (x3 : Int) (x4 : Int) (i5 : Nat) (t0 : Int) (t1 : Int) (t2 : Int) (g : zG) : Option ((Nat × Int) × zG) := zbx (sX4_checkRange t0 t1 t2 g) (fun _ g => zeq (g 4 i5 2) 0 (zle x2 (g 4 i5 7) (zbo 0 (some ((0, 0), g))) (zst g 4 i5 7 x2 (fun g => zbd (sX1_follow i5 x3 x4 g) (fun _ g => zbo 1 (some ((0, 1), g)))))) (zbo 0 (some ((0, 0), g))))
def sX4_message (x1 : Int) (x2 : Int) (x3 : Int) (x4 : Int) (g : zG) : Option ((Nat × Int) × zG) := zbx (sX4_flightAt x1 g) (fun r1 g => zbx (sX4_checkRange x2 1 99 g) (fun _ g => zbx (sX4_checkRange x3 0 2 g) (fun _ g => zeq x3 1 ((sX4_message_j35 x2 x3 x4 ((r1).toNat) x4 0 0 g)) ((sX4_message_j35 x2 x3 x4 ((r1).toNat) x4 0 1439 g)))))
def sX4_checkCompany_j9 (g : zG) : Option ((Nat × Int) × zG) := some ((1, 0), g)
def sX4_checkCompany (x0 : Int) (g : zG) : Option ((Nat × Int) × zG) := zlt x0 0 ((sX4_checkCompany_j9 g)) (zlt x0 4 (some ((0, 0), g)) ((sX4_checkCompany_j9 g)))
def sX4_companyIs_h15 (n : Nat) (K : Nat → Int → Int → Int → Int → zG → Option ((Nat × Int) × zG)) (x1 : Int) (x2 : Int) (x3 : Int) (x4 : Int) (g : zG) : Option ((Nat × Int) × zG) := zlt x4 (g 1 0 2) (zli x4 (g 1 0 2) (zeq (g 4 ((x4).toNat) 0) x1 (zbd (sX1_ledgerLine ((x4).toNat) x2 g) (fun r3 g => zlet (x3 + r3) (fun v4 => zlet (x4 + 1) (fun v5 => (K 0 x1 x2 v4 v5 g))))) (zlet (x4 + 1) (fun v2 => (K 0 x1 x2 x3 v2 g))))) (some ((0, x3), g))
def sX4_companyIs_run (n0 : Nat) : Nat → Nat → Int → Int → Int → Int → zG → Option ((Nat × Int) × zG)
  | 0, _, _, _, _, _, _ => none
  | n + 1, 0, x1, x2, x3, x4, g => sX4_companyIs_h15 n0 (sX4_companyIs_run n0 n) x1 x2 x3 x4 g
  | _ + 1, _, _, _, _, _, _ => none
def sX4_companyIs (n : Nat) (x1 : Int) (x2 : Int) (g : zG) : Option ((Nat × Int) × zG) := zbx (sX4_checkCompany x1 g) (fun _ g => zbx (sX4_checkRange x2 0 2 g) (fun _ g => (sX4_companyIs_run n n 0 x1 x2 0 0 g)))
def sX4_checkTerm (x0 : Int) (x1 : Int) (x2 : Int) (g : zG) : Option ((Nat × Int) × zG) := zbx (sX4_checkRange x0 0 1439 g) (fun _ g => zbx (sX4_checkRange x1 (x0 + 1) 1440 g) (fun _ g => zbx (sX4_checkRange x2 0 60 g) (fun _ g => some ((0, 0), g))))
set_option maxHeartbeats 4000000 in
set_option maxRecDepth 100000 in
theorem wX4_flightAt_j15 {p : Program} {l : Launch} {e : Env} {s : State} {m : MethodId} {args : Array Value} {below : List Frame} {meth : Method} {c : Code} {X : zC} {N : zN} {o : Nat × Int} {g' : zG} {H : Heap} {locs : List Loc} {ls : Array Slot} (hF : zF p s m args meth c X cX4_flightAt 2 RX4) (hT : l.stackTraces = false) (hnt : ∀ x ∈ c.exceptionTable.toList, False) (hr : meth.sig.returnType = (some (.object "SkyloadBureau$Flight"))) {g : zG} (hw : zH X N g s H locs) (hl : lv_has ls 2 []) (h : sX4_flightAt_j15 g = some (o, g')) : W p l e { frames := 6, cells := 1, slots := 6, locals := 90 } s m args below meth c H locs 0 0 (vx_MQ below (zYr X N 4 o g') (zXC X N o g') args s 1 6 (zA X)) (F0 m 15 ls []) := by
  have hx := hF.1.1
  have hb := hF.1.2.1
  unfold sX4_flightAt_j15 at h
  exact zx_throw hF hT hnt hw hl.1 1 (by decide) rfl (List.mem_of_getElem? (i := 0) rfl) qw_143 qw_27 (by decide +kernel) zT_1 zTb_1 zTg_1 (text := "no such flight") (by decide +kernel) h dX4_flightAt_15 dX4_flightAt_18 dX4_flightAt_19 dX4_flightAt_21 dX4_flightAt_24 (Nat.le_of_ble_eq_true rfl) (Nat.le_of_ble_eq_true rfl) (Nat.le_of_ble_eq_true rfl) (Nat.le_of_ble_eq_true rfl) (Nat.le_of_ble_eq_true rfl) (Nat.le_of_ble_eq_true rfl)
set_option maxHeartbeats 4000000 in
set_option maxRecDepth 100000 in
theorem czX4_flightAt (l : Launch) (hT : l.stackTraces = false) (X : zC) (N : zN) {x1 : Int} {g g' : zG} {o : Nat × Int} (h : sX4_flightAt x1 g = some (o, g')) : zXM l yX4_flightAt cX4_flightAt 2 (some (.object "SkyloadBureau$Flight")) { frames := 6, cells := 1, slots := 6, locals := 90 } X N g [z_r N 0 0, z_v x1] (zYr X N 4 o g') o g' := by
  refine z_xofW (own := RX4) (by decide +kernel) rfl (Nat.le_of_ble_eq_true rfl) ?_
  intro p e s m args below meth c ls hF hr hnt hw hl
  have hl : lv_has ls 2 [(0, z_r N 0 0), (1, z_v x1)] := hl
  have hx := hF.1.1
  have hb := hF.1.2.1
  unfold sX4_flightAt at h
  generalize s.heap = H at hw ⊢
  generalize ([] : List Loc) = locs at hw ⊢
  refine lv_iload_n hx hb dX4_flightAt_0 rfl (lv_at hl 1 rfl) ?_
  refine zr_if_lt (tgt := 15) hF h dX4_flightAt_1 (by decide) (fun h => ?_) (fun h => ?_)
  · exact wX4_flightAt_j15 hF hT hnt hr  hw (lv_sub hl [] rfl) h
  · refine lv_iload_n hx hb dX4_flightAt_4 rfl (lv_at hl 1 rfl) ?_
    refine lv_aload_n hx hb dX4_flightAt_5 rfl (lv_at hl 0 rfl) ?_
    refine zr_get hF hw zEf_0_0 (by decide) zC_0 0 (by decide) qw_123 rfl dX4_flightAt_6 ?_
    refine zr_size hF hw hl.1 (i := 0) zEf_1_0 qw_234 (Nat.le_of_ble_eq_true rfl) dX4_flightAt_9 ⟨Nat.le_of_ble_eq_true rfl, Nat.le_of_ble_eq_true rfl⟩ ⟨Nat.le_of_ble_eq_true rfl, Nat.le_of_ble_eq_true rfl⟩ (fun H locs hw => ?_)
    refine zr_icmp_lt (tgt := 25) hF h dX4_flightAt_12 (by decide) (fun h => ?_) (fun h => ?_)
    · refine lv_aload_n hx hb dX4_flightAt_25 rfl (lv_at hl 0 rfl) ?_
      refine zr_get hF hw zEf_0_0 (by decide) zC_0 0 (by decide) qw_123 rfl dX4_flightAt_26 ?_
      refine lv_iload_n hx hb dX4_flightAt_29 rfl (lv_at hl 1 rfl) ?_
      refine zr_lget0 hF hw hl.1 qw_238 h (Nat.le_of_ble_eq_true rfl) dX4_flightAt_30 ⟨Nat.le_of_ble_eq_true rfl, Nat.le_of_ble_eq_true rfl⟩ ⟨Nat.le_of_ble_eq_true rfl, Nat.le_of_ble_eq_true rfl⟩ (fun H locs hw hf1 h => ?_)
      refine zr_cast hF hw hf1 (by decide) zC_4 qw_252 dX4_flightAt_33 ?_
      exact zx_aret hF hr hw hf1 h (Or.inl ⟨_, rfl⟩) dX4_flightAt_36 ⟨Nat.le_of_ble_eq_true rfl, Nat.le_of_ble_eq_true rfl⟩
    · exact wX4_flightAt_j15 hF hT hnt hr  hw (lv_sub hl [] rfl) h
set_option maxHeartbeats 4000000 in
set_option maxRecDepth 100000 in
theorem wX4_checkSector_j10 {p : Program} {l : Launch} {e : Env} {s : State} {m : MethodId} {args : Array Value} {below : List Frame} {meth : Method} {c : Code} {X : zC} {N : zN} {o : Nat × Int} {g' : zG} {H : Heap} {locs : List Loc} {ls : Array Slot} (hF : zF p s m args meth c X cX4_checkSector 1 RX4) (hT : l.stackTraces = false) (hnt : ∀ x ∈ c.exceptionTable.toList, False) (hr : meth.sig.returnType = none) {g : zG} (hw : zH X N g s H locs) (hl : lv_has ls 1 []) (h : sX4_checkSector_j10 g = some (o, g')) : W p l e { frames := 6, cells := 1, slots := 6, locals := 90 } s m args below meth c H locs 0 0 (vx_MQ below (zYv X N o g') (zXC X N o g') args s 1 6 (zA X)) (F0 m 10 ls []) := by
  have hx := hF.1.1
  have hb := hF.1.2.1
  unfold sX4_checkSector_j10 at h
  exact zx_throwW hF hT hnt hw hl.1 1 (by decide) rfl (List.mem_of_getElem? (i := 0) rfl) qw_143 qw_27 (by decide +kernel) zT_1 zTb_1 zTg_1 (text := "no such sector") (by decide +kernel) h dX4_checkSector_10 dX4_checkSector_13 dX4_checkSector_14 dX4_checkSector_17 dX4_checkSector_20 (Nat.le_of_ble_eq_true rfl) (Nat.le_of_ble_eq_true rfl) (Nat.le_of_ble_eq_true rfl) (Nat.le_of_ble_eq_true rfl) (Nat.le_of_ble_eq_true rfl) (Nat.le_of_ble_eq_true rfl)
set_option maxHeartbeats 4000000 in
set_option maxRecDepth 100000 in
theorem czX4_checkSector (l : Launch) (hT : l.stackTraces = false) (X : zC) (N : zN) {x0 : Int} {g g' : zG} {o : Nat × Int} (h : sX4_checkSector x0 g = some (o, g')) : zXM l yX4_checkSector cX4_checkSector 1 none { frames := 6, cells := 1, slots := 6, locals := 90 } X N g [z_v x0] (zYv X N o g') o g' := by
  refine z_xofW (own := RX4) (by decide +kernel) rfl (Nat.le_of_ble_eq_true rfl) ?_
  intro p e s m args below meth c ls hF hr hnt hw hl
  have hl : lv_has ls 1 [(0, z_v x0)] := hl
  have hx := hF.1.1
  have hb := hF.1.2.1
  unfold sX4_checkSector at h
  generalize s.heap = H at hw ⊢
  generalize ([] : List Loc) = locs at hw ⊢
  refine lv_iload_n hx hb dX4_checkSector_0 rfl (lv_at hl 0 rfl) ?_
  refine zr_if_lt (tgt := 10) hF h dX4_checkSector_1 (by decide) (fun h => ?_) (fun h => ?_)
  · exact wX4_checkSector_j10 hF hT hnt hr  hw (lv_sub hl [] rfl) h
  · refine lv_iload_n hx hb dX4_checkSector_4 rfl (lv_at hl 0 rfl) ?_
    refine lv_bipush (v := Int32.ofInt (6)) hx hb dX4_checkSector_5 (by decide) ?_
    refine zr_icmp_lt (tgt := 21) hF h dX4_checkSector_7 (by decide) (fun h => ?_) (fun h => ?_)
    · exact zx_vret hF hr hw h dX4_checkSector_21 ⟨Nat.le_of_ble_eq_true rfl, Nat.le_of_ble_eq_true rfl⟩
    · exact wX4_checkSector_j10 hF hT hnt hr  hw (lv_sub hl [] rfl) h
set_option maxHeartbeats 4000000 in
set_option maxRecDepth 100000 in
theorem wX4_checkRange_j10 {p : Program} {l : Launch} {e : Env} {s : State} {m : MethodId} {args : Array Value} {below : List Frame} {meth : Method} {c : Code} {X : zC} {N : zN} {o : Nat × Int} {g' : zG} {H : Heap} {locs : List Loc} {ls : Array Slot} (hF : zF p s m args meth c X cX4_checkRange 3 RX4) (hT : l.stackTraces = false) (hnt : ∀ x ∈ c.exceptionTable.toList, False) (hr : meth.sig.returnType = none) {g : zG} (hw : zH X N g s H locs) (hl : lv_has ls 3 []) (h : sX4_checkRange_j10 g = some (o, g')) : W p l e { frames := 6, cells := 1, slots := 6, locals := 90 } s m args below meth c H locs 0 0 (vx_MQ below (zYv X N o g') (zXC X N o g') args s 1 6 (zA X)) (F0 m 10 ls []) := by
  have hx := hF.1.1
  have hb := hF.1.2.1
  unfold sX4_checkRange_j10 at h
  exact zx_throwW hF hT hnt hw hl.1 2 (by decide) rfl (List.mem_of_getElem? (i := 1) rfl) qw_214 qw_28 (by decide +kernel) zT_2 zTb_2 zTg_2 (text := "an argument is out of range") (by decide +kernel) h dX4_checkRange_10 dX4_checkRange_13 dX4_checkRange_14 dX4_checkRange_17 dX4_checkRange_20 (Nat.le_of_ble_eq_true rfl) (Nat.le_of_ble_eq_true rfl) (Nat.le_of_ble_eq_true rfl) (Nat.le_of_ble_eq_true rfl) (Nat.le_of_ble_eq_true rfl) (Nat.le_of_ble_eq_true rfl)
set_option maxHeartbeats 4000000 in
set_option maxRecDepth 100000 in
theorem czX4_checkRange (l : Launch) (hT : l.stackTraces = false) (X : zC) (N : zN) {x0 : Int} {x1 : Int} {x2 : Int} {g g' : zG} {o : Nat × Int} (h : sX4_checkRange x0 x1 x2 g = some (o, g')) : zXM l yX4_checkRange cX4_checkRange 3 none { frames := 6, cells := 1, slots := 6, locals := 90 } X N g [z_v x0, z_v x1, z_v x2] (zYv X N o g') o g' := by
  refine z_xofW (own := RX4) (by decide +kernel) rfl (Nat.le_of_ble_eq_true rfl) ?_
  intro p e s m args below meth c ls hF hr hnt hw hl
  have hl : lv_has ls 3 [(0, z_v x0), (1, z_v x1), (2, z_v x2)] := hl
  have hx := hF.1.1
  have hb := hF.1.2.1
  unfold sX4_checkRange at h
  generalize s.heap = H at hw ⊢
  generalize ([] : List Loc) = locs at hw ⊢
  refine lv_iload_n hx hb dX4_checkRange_0 rfl (lv_at hl 0 rfl) ?_
  refine lv_iload_n hx hb dX4_checkRange_1 rfl (lv_at hl 1 rfl) ?_
  refine zr_icmp_lt (tgt := 10) hF h dX4_checkRange_2 (by decide) (fun h => ?_) (fun h => ?_)
  · exact wX4_checkRange_j10 hF hT hnt hr  hw (lv_sub hl [] rfl) h
  · refine lv_iload_n hx hb dX4_checkRange_5 rfl (lv_at hl 0 rfl) ?_
    refine lv_iload_n hx hb dX4_checkRange_6 rfl (lv_at hl 2 rfl) ?_
    refine zr_icmp_le (tgt := 21) hF h dX4_checkRange_7 (by decide) (fun h => ?_) (fun h => ?_)
    · exact zx_vret hF hr hw h dX4_checkRange_21 ⟨Nat.le_of_ble_eq_true rfl, Nat.le_of_ble_eq_true rfl⟩
    · exact wX4_checkRange_j10 hF hT hnt hr  hw (lv_sub hl [] rfl) h
set_option maxHeartbeats 4000000 in
set_option maxRecDepth 100000 in
theorem czX4_entry (l : Launch) (hT : l.stackTraces = false) (X : zC) (N : zN) {x1 : Int} {x2 : Int} {x3 : Int} {x4 : Int} {g g' : zG} {o : Nat × Int} (h : sX4_entry x1 x2 x3 x4 g = some (o, g')) : zXM l yX4_entry cX4_entry 6 (some .int) { frames := 7, cells := 5, slots := 30, locals := 112 } X N g [z_r N 0 0, z_v x1, z_v x2, z_v x3, z_v x4] (zYi X N o g') o g' := by
  refine z_xofW (own := RX4) (by decide +kernel) rfl (Nat.le_of_ble_eq_true rfl) ?_
  intro p e s m args below meth c ls hF hr hnt hw hl
  have hl : lv_has ls 6 [(0, z_r N 0 0), (1, z_v x1), (2, z_v x2), (3, z_v x3), (4, z_v x4)] := hl
  have hx := hF.1.1
  have hb := hF.1.2.1
  unfold sX4_entry at h
  generalize s.heap = H at hw ⊢
  generalize ([] : List Loc) = locs at hw ⊢
  refine lv_aload_n hx hb dX4_entry_0 rfl (lv_at hl 0 rfl) ?_
  refine lv_iload_n hx hb dX4_entry_1 rfl (lv_at hl 1 rfl) ?_
  obtain ⟨o1, g1, h1, h⟩ := zbx_some h
  refine zx_callVr (n := 1) (As := [z_v x1]) (rest := []) hF hnt hw (czX4_flightAt l hT X N h1) h zEf_0_0 (by decide) zC_0 (z_goodV qw_569 qw_571 qw_10 qw_15 qw_572) (by decide +kernel) ⟨Nat.le_of_ble_eq_true rfl, Nat.le_of_ble_eq_true rfl⟩ rfl hl.1 rfl (Nat.le_of_ble_eq_true rfl) dX4_entry_2 ⟨Nat.le_of_ble_eq_true rfl, Nat.le_of_ble_eq_true rfl⟩ ⟨Nat.le_of_ble_eq_true rfl, Nat.le_of_ble_eq_true rfl⟩ (fun H locs hw hf2 h => ?_)
  clear h1
  generalize g1 = g at *
  generalize o1.2 = r1 at *
  refine lv_astore (lv' := [(5, z_r N 4 ((r1).toNat)), (0, z_r N 0 0), (1, z_v x1), (2, z_v x2), (3, z_v x3), (4, z_v x4)]) hx hb dX4_entry_5 hl (by decide) rfl (fun ls hl => ?_)
  refine lv_iload_n hx hb dX4_entry_7 rfl (lv_at hl 3 rfl) ?_
  obtain ⟨o1, g1, h1, h⟩ := zbx_some h
  refine zx_callSv (n := 1) (As := [z_v x2]) (rest := []) hF hnt hw (czX4_checkSector l hT X N h1) h (z_goodS qw_140 qw_141 qw_15 qw_142) (by decide +kernel) ⟨Nat.le_of_ble_eq_true rfl, Nat.le_of_ble_eq_true rfl⟩ rfl hl.1 rfl (Nat.le_of_ble_eq_true rfl) dX4_entry_8 ⟨Nat.le_of_ble_eq_true rfl, Nat.le_of_ble_eq_true rfl⟩ ⟨Nat.le_of_ble_eq_true rfl, Nat.le_of_ble_eq_true rfl⟩ (fun H locs hw h => ?_)
  clear h1
  generalize g1 = g at *
  generalize o1.2 = r3 at *
  refine lv_iload_n hx hb dX4_entry_11 rfl (lv_at hl 4 rfl) ?_
  refine lv_iconst hx hb dX4_entry_12 rfl ?_
  refine lv_sipush (v := Int32.ofInt (600)) hx hb dX4_entry_13 (by decide) ?_
  obtain ⟨o1, g1, h1, h⟩ := zbx_some h
  refine zx_callSv (n := 3) (As := [z_v x3, z_v 0, z_v 600]) (rest := []) hF hnt hw (czX4_checkRange l hT X N h1) h (z_goodS qw_211 qw_212 qw_15 qw_213) (by decide +kernel) ⟨Nat.le_of_ble_eq_true rfl, Nat.le_of_ble_eq_true rfl⟩ rfl hl.1 rfl (Nat.le_of_ble_eq_true rfl) dX4_entry_16 ⟨Nat.le_of_ble_eq_true rfl, Nat.le_of_ble_eq_true rfl⟩ ⟨Nat.le_of_ble_eq_true rfl, Nat.le_of_ble_eq_true rfl⟩ (fun H locs hw h => ?_)
  clear h1
  generalize g1 = g at *
  generalize o1.2 = r5 at *
  refine lv_iload hx hb dX4_entry_19 (lv_at hl 5 rfl) ?_
  refine lv_iconst hx hb dX4_entry_21 rfl ?_
  refine lv_bipush (v := Int32.ofInt (120)) hx hb dX4_entry_22 (by decide) ?_
  obtain ⟨o1, g1, h1, h⟩ := zbx_some h
  refine zx_callSv (n := 3) (As := [z_v x4, z_v 1, z_v 120]) (rest := []) hF hnt hw (czX4_checkRange l hT X N h1) h (z_goodS qw_211 qw_212 qw_15 qw_213) (by decide +kernel) ⟨Nat.le_of_ble_eq_true rfl, Nat.le_of_ble_eq_true rfl⟩ rfl hl.1 rfl (Nat.le_of_ble_eq_true rfl) dX4_entry_24 ⟨Nat.le_of_ble_eq_true rfl, Nat.le_of_ble_eq_true rfl⟩ ⟨Nat.le_of_ble_eq_true rfl, Nat.le_of_ble_eq_true rfl⟩ (fun H locs hw h => ?_)
  clear h1
  generalize g1 = g at *
  generalize o1.2 = r7 at *
  refine lv_aload hx hb dX4_entry_27 (lv_at hl 0 rfl) ?_
  refine lv_iload_n hx hb dX4_entry_29 rfl (lv_at hl 3 rfl) ?_
  refine lv_iload_n hx hb dX4_entry_30 rfl (lv_at hl 4 rfl) ?_
  obtain ⟨r9, g1, h1, h⟩ := zbd_some h
  refine zr_callVi (n := 2) (As := [z_v x2, z_v x3]) (rest := []) hF hw (czX1_canEnterNext l X N hf2 h1) hf2 (by decide) zC_4 (z_goodV qw_574 qw_575 qw_576 qw_30 qw_577) (by decide +kernel) ⟨Nat.le_of_ble_eq_true rfl, Nat.le_of_ble_eq_true rfl⟩ ⟨rfl, rfl⟩ rfl hl.1 rfl (Nat.le_of_ble_eq_true rfl) dX4_entry_31 ⟨Nat.le_of_ble_eq_true rfl, Nat.le_of_ble_eq_true rfl⟩ (fun H locs hw => ?_)
  clear h1
  generalize g1 = g at *
  refine zr_if_ne (tgt := 47) hF h dX4_entry_34 (by decide) (fun h => ?_) (fun h => ?_)
  · refine lv_aload hx hb dX4_entry_47 (lv_at hl 0 rfl) ?_
    refine lv_iload_n hx hb dX4_entry_49 rfl (lv_at hl 3 rfl) ?_
    refine lv_iload_n hx hb dX4_entry_50 rfl (lv_at hl 4 rfl) ?_
    refine lv_iload hx hb dX4_entry_51 (lv_at hl 5 rfl) ?_
    obtain ⟨r10, g1, h1, h⟩ := zbd_some h
    refine zr_callVv (n := 3) (As := [z_v x2, z_v x3, z_v x4]) (rest := []) hF hw (czX1_addEntry l X N hf2 h1) hf2 (by decide) zC_4 (z_goodV qw_579 qw_580 qw_581 qw_30 qw_582) (by decide +kernel) ⟨Nat.le_of_ble_eq_true rfl, Nat.le_of_ble_eq_true rfl⟩ ⟨rfl, rfl⟩ rfl hl.1 rfl (Nat.le_of_ble_eq_true rfl) dX4_entry_53 ⟨Nat.le_of_ble_eq_true rfl, Nat.le_of_ble_eq_true rfl⟩ (fun H locs hw => ?_)
    clear h1
    generalize g1 = g at *
    refine lv_aload hx hb dX4_entry_56 (lv_at hl 0 rfl) ?_
    refine zr_get hF hw hf2 (by decide) zC_4 8 (by decide) qw_477 rfl dX4_entry_58 ?_
    exact zx_iret hF hr hw h dX4_entry_61 ⟨Nat.le_of_ble_eq_true rfl, Nat.le_of_ble_eq_true rfl⟩
  · exact zx_throw hF hT hnt hw hl.1 3 (by decide) rfl (List.mem_of_getElem? (i := 2) rfl) qw_440 qw_29 (by decide +kernel) zT_3 zTb_3 zTg_3 (text := "the flight cannot have this entry") (by decide +kernel) h dX4_entry_37 dX4_entry_40 dX4_entry_41 dX4_entry_43 dX4_entry_46 (Nat.le_of_ble_eq_true rfl) (Nat.le_of_ble_eq_true rfl) (Nat.le_of_ble_eq_true rfl) (Nat.le_of_ble_eq_true rfl) (Nat.le_of_ble_eq_true rfl) (Nat.le_of_ble_eq_true rfl)
set_option maxHeartbeats 4000000 in
set_option maxRecDepth 100000 in
theorem czX4_exempt (l : Launch) (hT : l.stackTraces = false) (X : zC) (N : zN) {x1 : Int} {x2 : Int} {g g' : zG} {o : Nat × Int} (h : sX4_exempt x1 x2 g = some (o, g')) : zXM l yX4_exempt cX4_exempt 5 (some .boolean) { frames := 7, cells := 2, slots := 12, locals := 111 } X N g [z_r N 0 0, z_v x1, z_v x2] (zYi X N o g') o g' := by
  refine z_xofW (own := RX4) (by decide +kernel) rfl (Nat.le_of_ble_eq_true rfl) ?_
  intro p e s m args below meth c ls hF hr hnt hw hl
  have hl : lv_has ls 5 [(0, z_r N 0 0), (1, z_v x1), (2, z_v x2)] := hl
  have hx := hF.1.1
  have hb := hF.1.2.1
  unfold sX4_exempt at h
  generalize s.heap = H at hw ⊢
  generalize ([] : List Loc) = locs at hw ⊢
  refine lv_aload_n hx hb dX4_exempt_0 rfl (lv_at hl 0 rfl) ?_
  refine lv_iload_n hx hb dX4_exempt_1 rfl (lv_at hl 1 rfl) ?_
  obtain ⟨o1, g1, h1, h⟩ := zbx_some h
  refine zx_callVr (n := 1) (As := [z_v x1]) (rest := []) hF hnt hw (czX4_flightAt l hT X N h1) h zEf_0_0 (by decide) zC_0 (z_goodV qw_569 qw_571 qw_10 qw_15 qw_572) (by decide +kernel) ⟨Nat.le_of_ble_eq_true rfl, Nat.le_of_ble_eq_true rfl⟩ rfl hl.1 rfl (Nat.le_of_ble_eq_true rfl) dX4_exempt_2 ⟨Nat.le_of_ble_eq_true rfl, Nat.le_of_ble_eq_true rfl⟩ ⟨Nat.le_of_ble_eq_true rfl, Nat.le_of_ble_eq_true rfl⟩ (fun H locs hw hf2 h => ?_)
  clear h1
  generalize g1 = g at *
  generalize o1.2 = r1 at *
  refine lv_astore_n (lv' := [(3, z_r N 4 ((r1).toNat)), (0, z_r N 0 0), (1, z_v x1), (2, z_v x2)]) hx hb dX4_exempt_5 rfl hl (by decide) rfl (fun ls hl => ?_)
  refine lv_aload_n hx hb dX4_exempt_6 rfl (lv_at hl 0 rfl) ?_
  refine zr_get hF hw hf2 (by decide) zC_4 2 (by decide) qw_466 rfl dX4_exempt_7 ?_
  refine zr_if_eq (tgt := 23) hF h dX4_exempt_10 (by decide) (fun h => ?_) (fun h => ?_)
  · refine lv_aload_n hx hb dX4_exempt_23 rfl (lv_at hl 0 rfl) ?_
    refine zr_get hF hw hf2 (by decide) zC_4 3 (by decide) qw_468 rfl dX4_exempt_24 ?_
    refine zr_let h (fun v3 h => ?_)
    refine lv_istore (lv' := [(4, z_v v3), (3, z_r N 4 ((r1).toNat)), (0, z_r N 0 0), (1, z_v x1), (2, z_v x2)]) hx hb dX4_exempt_27 hl (by decide) rfl (fun ls hl => ?_)
    refine lv_aload_n hx hb dX4_exempt_29 rfl (lv_at hl 1 rfl) ?_
    refine lv_iload_n hx hb dX4_exempt_30 rfl (lv_at hl 4 rfl) ?_
    refine zr_putZ hF hw hf2 (by decide) zC_4 3 (by decide) (by decide) qw_468 rfl (by decide +kernel) h dX4_exempt_31 (fun g H locs hw h => ?_)
    refine lv_iload_n hx hb dX4_exempt_34 rfl (lv_at hl 4 rfl) ?_
    refine zr_if_eq (tgt := 42) hF h dX4_exempt_35 (by decide) (fun h => ?_) (fun h => ?_)
    · refine lv_iload hx hb dX4_exempt_42 (lv_at hl 0 rfl) ?_
      exact zx_zret hF hr hw h dX4_exempt_44 ⟨Nat.le_of_ble_eq_true rfl, Nat.le_of_ble_eq_true rfl⟩
    · refine lv_aload_n hx hb dX4_exempt_38 rfl (lv_at hl 1 rfl) ?_
      obtain ⟨r4, g1, h1, h⟩ := zbd_some h
      refine zr_callVv (n := 0) (As := []) (rest := []) hF hw (czX1_loseSlotTime l X N hf2 h1) hf2 (by decide) zC_4 (z_goodV qw_685 qw_395 qw_396 qw_30 qw_397) (by decide +kernel) ⟨Nat.le_of_ble_eq_true rfl, Nat.le_of_ble_eq_true rfl⟩ ⟨rfl, rfl⟩ rfl hl.1 rfl (Nat.le_of_ble_eq_true rfl) dX4_exempt_39 ⟨Nat.le_of_ble_eq_true rfl, Nat.le_of_ble_eq_true rfl⟩ (fun H locs hw => ?_)
      clear h1
      generalize g1 = g at *
      refine lv_iload hx hb dX4_exempt_42 (lv_at hl 0 rfl) ?_
      exact zx_zret hF hr hw h dX4_exempt_44 ⟨Nat.le_of_ble_eq_true rfl, Nat.le_of_ble_eq_true rfl⟩
  · exact zx_throw hF hT hnt hw hl.1 3 (by decide) rfl (List.mem_of_getElem? (i := 2) rfl) qw_440 qw_29 (by decide +kernel) zT_3 zTb_3 zTg_3 (text := "the flight is not waiting") (by decide +kernel) h dX4_exempt_13 dX4_exempt_16 dX4_exempt_17 dX4_exempt_19 dX4_exempt_22 (Nat.le_of_ble_eq_true rfl) (Nat.le_of_ble_eq_true rfl) (Nat.le_of_ble_eq_true rfl) (Nat.le_of_ble_eq_true rfl) (Nat.le_of_ble_eq_true rfl) (Nat.le_of_ble_eq_true rfl)
set_option maxHeartbeats 4000000 in
set_option maxRecDepth 100000 in
theorem czX4_flightIs (l : Launch) (hT : l.stackTraces = false) (X : zC) (N : zN) {x1 : Int} {x2 : Int} {g g' : zG} {o : Nat × Int} (h : sX4_flightIs x1 x2 g = some (o, g')) : zXM l yX4_flightIs cX4_flightIs 4 (some .int) { frames := 7, cells := 2, slots := 12, locals := 112 } X N g [z_r N 0 0, z_v x1, z_v x2] (zYi X N o g') o g' := by
  refine z_xofW (own := RX4) (by decide +kernel) rfl (Nat.le_of_ble_eq_true rfl) ?_
  intro p e s m args below meth c ls hF hr hnt hw hl
  have hl : lv_has ls 4 [(0, z_r N 0 0), (1, z_v x1), (2, z_v x2)] := hl
  have hx := hF.1.1
  have hb := hF.1.2.1
  unfold sX4_flightIs at h
  generalize s.heap = H at hw ⊢
  generalize ([] : List Loc) = locs at hw ⊢
  refine lv_aload_n hx hb dX4_flightIs_0 rfl (lv_at hl 0 rfl) ?_
  refine lv_iload_n hx hb dX4_flightIs_1 rfl (lv_at hl 1 rfl) ?_
  obtain ⟨o1, g1, h1, h⟩ := zbx_some h
  refine zx_callVr (n := 1) (As := [z_v x1]) (rest := []) hF hnt hw (czX4_flightAt l hT X N h1) h zEf_0_0 (by decide) zC_0 (z_goodV qw_569 qw_571 qw_10 qw_15 qw_572) (by decide +kernel) ⟨Nat.le_of_ble_eq_true rfl, Nat.le_of_ble_eq_true rfl⟩ rfl hl.1 rfl (Nat.le_of_ble_eq_true rfl) dX4_flightIs_2 ⟨Nat.le_of_ble_eq_true rfl, Nat.le_of_ble_eq_true rfl⟩ ⟨Nat.le_of_ble_eq_true rfl, Nat.le_of_ble_eq_true rfl⟩ (fun H locs hw hf2 h => ?_)
  clear h1
  generalize g1 = g at *
  generalize o1.2 = r1 at *
  refine lv_astore_n (lv' := [(3, z_r N 4 ((r1).toNat)), (0, z_r N 0 0), (1, z_v x1), (2, z_v x2)]) hx hb dX4_flightIs_5 rfl hl (by decide) rfl (fun ls hl => ?_)
  refine lv_iload_n hx hb dX4_flightIs_6 rfl (lv_at hl 3 rfl) ?_
  refine lv_iconst hx hb dX4_flightIs_7 rfl ?_
  refine lv_bipush (v := Int32.ofInt (7)) hx hb dX4_flightIs_8 (by decide) ?_
  obtain ⟨o1, g1, h1, h⟩ := zbx_some h
  refine zx_callSv (n := 3) (As := [z_v x2, z_v 0, z_v 7]) (rest := []) hF hnt hw (czX4_checkRange l hT X N h1) h (z_goodS qw_211 qw_212 qw_15 qw_213) (by decide +kernel) ⟨Nat.le_of_ble_eq_true rfl, Nat.le_of_ble_eq_true rfl⟩ rfl hl.1 rfl (Nat.le_of_ble_eq_true rfl) dX4_flightIs_10 ⟨Nat.le_of_ble_eq_true rfl, Nat.le_of_ble_eq_true rfl⟩ ⟨Nat.le_of_ble_eq_true rfl, Nat.le_of_ble_eq_true rfl⟩ (fun H locs hw h => ?_)
  clear h1
  generalize g1 = g at *
  generalize o1.2 = r3 at *
  refine lv_iload_n hx hb dX4_flightIs_13 rfl (lv_at hl 3 rfl) ?_
  refine zr_case h (fun c14_0 h => ?_) (fun c14_0 hz h => ?_)
  · rw [c14_0]
    refine lv_tableIn (tgt := 56) hx hb dX4_flightIs_14 (by decide) (by decide) rfl (by decide) ?_
    refine lv_aload_n hx hb dX4_flightIs_56 rfl (lv_at hl 0 rfl) ?_
    refine zr_get hF hw hf2 (by decide) zC_4 2 (by decide) qw_466 rfl dX4_flightIs_57 ?_
    exact zx_iret hF hr hw h dX4_flightIs_60 ⟨Nat.le_of_ble_eq_true rfl, Nat.le_of_ble_eq_true rfl⟩
  refine zr_case h (fun c14_1 h => ?_) (fun c14_1 hz h => ?_)
  · rw [c14_1]
    refine lv_tableIn (tgt := 61) hx hb dX4_flightIs_14 (by decide) (by decide) rfl (by decide) ?_
    refine lv_aload_n hx hb dX4_flightIs_61 rfl (lv_at hl 0 rfl) ?_
    refine zr_get hF hw hf2 (by decide) zC_4 1 (by decide) qw_464 rfl dX4_flightIs_62 ?_
    exact zx_iret hF hr hw h dX4_flightIs_65 ⟨Nat.le_of_ble_eq_true rfl, Nat.le_of_ble_eq_true rfl⟩
  refine zr_case h (fun c14_2 h => ?_) (fun c14_2 hz h => ?_)
  · rw [c14_2]
    refine lv_tableIn (tgt := 66) hx hb dX4_flightIs_14 (by decide) (by decide) rfl (by decide) ?_
    refine lv_aload_n hx hb dX4_flightIs_66 rfl (lv_at hl 0 rfl) ?_
    refine zr_get hF hw hf2 (by decide) zC_4 4 (by decide) qw_470 rfl dX4_flightIs_67 ?_
    exact zx_iret hF hr hw h dX4_flightIs_70 ⟨Nat.le_of_ble_eq_true rfl, Nat.le_of_ble_eq_true rfl⟩
  refine zr_case h (fun c14_3 h => ?_) (fun c14_3 hz h => ?_)
  · rw [c14_3]
    refine lv_tableIn (tgt := 71) hx hb dX4_flightIs_14 (by decide) (by decide) rfl (by decide) ?_
    refine lv_aload_n hx hb dX4_flightIs_71 rfl (lv_at hl 0 rfl) ?_
    refine zr_get hF hw hf2 (by decide) zC_4 5 (by decide) qw_472 rfl dX4_flightIs_72 ?_
    exact zx_iret hF hr hw h dX4_flightIs_75 ⟨Nat.le_of_ble_eq_true rfl, Nat.le_of_ble_eq_true rfl⟩
  refine zr_case h (fun c14_4 h => ?_) (fun c14_4 hz h => ?_)
  · rw [c14_4]
    refine lv_tableIn (tgt := 76) hx hb dX4_flightIs_14 (by decide) (by decide) rfl (by decide) ?_
    refine lv_aload_n hx hb dX4_flightIs_76 rfl (lv_at hl 0 rfl) ?_
    obtain ⟨r5, g1, h1, h⟩ := zbd_some h
    refine zr_callVi (n := 0) (As := []) (rest := []) hF hw (czX1_departure l X N hf2 h1) hf2 (by decide) zC_4 (z_goodV qw_635 qw_262 qw_263 qw_30 qw_264) (by decide +kernel) ⟨Nat.le_of_ble_eq_true rfl, Nat.le_of_ble_eq_true rfl⟩ ⟨rfl, rfl⟩ rfl hl.1 rfl (Nat.le_of_ble_eq_true rfl) dX4_flightIs_77 ⟨Nat.le_of_ble_eq_true rfl, Nat.le_of_ble_eq_true rfl⟩ (fun H locs hw => ?_)
    clear h1
    generalize g1 = g at *
    exact zx_iret hF hr hw h dX4_flightIs_80 ⟨Nat.le_of_ble_eq_true rfl, Nat.le_of_ble_eq_true rfl⟩
  refine zr_case h (fun c14_5 h => ?_) (fun c14_5 hz h => ?_)
  · rw [c14_5]
    refine lv_tableIn (tgt := 81) hx hb dX4_flightIs_14 (by decide) (by decide) rfl (by decide) ?_
    refine lv_aload_n hx hb dX4_flightIs_81 rfl (lv_at hl 0 rfl) ?_
    refine zr_get hF hw hf2 (by decide) zC_4 8 (by decide) qw_477 rfl dX4_flightIs_82 ?_
    exact zx_iret hF hr hw h dX4_flightIs_85 ⟨Nat.le_of_ble_eq_true rfl, Nat.le_of_ble_eq_true rfl⟩
  refine zr_case h (fun c14_6 h => ?_) (fun c14_6 hz h => ?_)
  · rw [c14_6]
    refine lv_tableIn (tgt := 86) hx hb dX4_flightIs_14 (by decide) (by decide) rfl (by decide) ?_
    refine lv_aload_n hx hb dX4_flightIs_86 rfl (lv_at hl 0 rfl) ?_
    refine zr_get hF hw hf2 (by decide) zC_4 7 (by decide) qw_475 rfl dX4_flightIs_87 ?_
    exact zx_iret hF hr hw h dX4_flightIs_90 ⟨Nat.le_of_ble_eq_true rfl, Nat.le_of_ble_eq_true rfl⟩
  refine lv_tableOut (tgt := 91) hx hb dX4_flightIs_14 (by rw [Int32.toInt_ofInt_of_le (by omega) (by omega)]; omega) (by decide) ?_
  refine lv_aload_n hx hb dX4_flightIs_91 rfl (lv_at hl 0 rfl) ?_
  refine zr_get hF hw hf2 (by decide) zC_4 3 (by decide) qw_468 rfl dX4_flightIs_92 ?_
  refine zr_if_eq (tgt := 102) hF h dX4_flightIs_95 (by decide) (fun h => ?_) (fun h => ?_)
  · refine lv_iconst hx hb dX4_flightIs_102 rfl ?_
    exact zx_iret hF hr hw h dX4_flightIs_103 ⟨Nat.le_of_ble_eq_true rfl, Nat.le_of_ble_eq_true rfl⟩
  · refine lv_iconst hx hb dX4_flightIs_98 rfl ?_
    refine lv_goto (tgt := 103) hx hb dX4_flightIs_99 (by decide) ?_
    exact zx_iret hF hr hw h dX4_flightIs_103 ⟨Nat.le_of_ble_eq_true rfl, Nat.le_of_ble_eq_true rfl⟩
set_option maxHeartbeats 4000000 in
set_option maxRecDepth 100000 in
theorem czX4_over (l : Launch) (hT : l.stackTraces = false) (X : zC) (N : zN) {x1 : Int} {x2 : Int} {g g' : zG} {o : Nat × Int} (h : sX4_over x1 x2 g = some (o, g')) : zXM l yX4_over cX4_over 4 (some .int) { frames := 7, cells := 2, slots := 12, locals := 111 } X N g [z_r N 0 0, z_v x1, z_v x2] (zYi X N o g') o g' := by
  refine z_xofW (own := RX4) (by decide +kernel) rfl (Nat.le_of_ble_eq_true rfl) ?_
  intro p e s m args below meth c ls hF hr hnt hw hl
  have hl : lv_has ls 4 [(0, z_r N 0 0), (1, z_v x1), (2, z_v x2)] := hl
  have hx := hF.1.1
  have hb := hF.1.2.1
  unfold sX4_over at h
  generalize s.heap = H at hw ⊢
  generalize ([] : List Loc) = locs at hw ⊢
  refine lv_aload_n hx hb dX4_over_0 rfl (lv_at hl 0 rfl) ?_
  refine lv_iload_n hx hb dX4_over_1 rfl (lv_at hl 1 rfl) ?_
  obtain ⟨o1, g1, h1, h⟩ := zbx_some h
  refine zx_callVr (n := 1) (As := [z_v x1]) (rest := []) hF hnt hw (czX4_flightAt l hT X N h1) h zEf_0_0 (by decide) zC_0 (z_goodV qw_569 qw_571 qw_10 qw_15 qw_572) (by decide +kernel) ⟨Nat.le_of_ble_eq_true rfl, Nat.le_of_ble_eq_true rfl⟩ rfl hl.1 rfl (Nat.le_of_ble_eq_true rfl) dX4_over_2 ⟨Nat.le_of_ble_eq_true rfl, Nat.le_of_ble_eq_true rfl⟩ ⟨Nat.le_of_ble_eq_true rfl, Nat.le_of_ble_eq_true rfl⟩ (fun H locs hw hf2 h => ?_)
  clear h1
  generalize g1 = g at *
  generalize o1.2 = r1 at *
  refine lv_astore_n (lv' := [(3, z_r N 4 ((r1).toNat)), (0, z_r N 0 0), (1, z_v x1), (2, z_v x2)]) hx hb dX4_over_5 rfl hl (by decide) rfl (fun ls hl => ?_)
  refine lv_iload_n hx hb dX4_over_6 rfl (lv_at hl 3 rfl) ?_
  obtain ⟨o1, g1, h1, h⟩ := zbx_some h
  refine zx_callSv (n := 1) (As := [z_v x2]) (rest := []) hF hnt hw (czX4_checkSector l hT X N h1) h (z_goodS qw_140 qw_141 qw_15 qw_142) (by decide +kernel) ⟨Nat.le_of_ble_eq_true rfl, Nat.le_of_ble_eq_true rfl⟩ rfl hl.1 rfl (Nat.le_of_ble_eq_true rfl) dX4_over_7 ⟨Nat.le_of_ble_eq_true rfl, Nat.le_of_ble_eq_true rfl⟩ ⟨Nat.le_of_ble_eq_true rfl, Nat.le_of_ble_eq_true rfl⟩ (fun H locs hw h => ?_)
  clear h1
  generalize g1 = g at *
  generalize o1.2 = r3 at *
  refine lv_aload_n hx hb dX4_over_10 rfl (lv_at hl 0 rfl) ?_
  refine lv_iload_n hx hb dX4_over_11 rfl (lv_at hl 3 rfl) ?_
  obtain ⟨r5, g1, h1, h⟩ := zbd_some h
  refine zr_callVi (n := 1) (As := [z_v x2]) (rest := []) hF hw (czX1_timeOver l X N hf2 h1) hf2 (by decide) zC_4 (z_goodV qw_253 qw_254 qw_255 qw_30 qw_256) (by decide +kernel) ⟨Nat.le_of_ble_eq_true rfl, Nat.le_of_ble_eq_true rfl⟩ ⟨rfl, rfl⟩ rfl hl.1 rfl (Nat.le_of_ble_eq_true rfl) dX4_over_12 ⟨Nat.le_of_ble_eq_true rfl, Nat.le_of_ble_eq_true rfl⟩ (fun H locs hw => ?_)
  clear h1
  generalize g1 = g at *
  exact zx_iret hF hr hw h dX4_over_15 ⟨Nat.le_of_ble_eq_true rfl, Nat.le_of_ble_eq_true rfl⟩
set_option maxHeartbeats 4000000 in
set_option maxRecDepth 100000 in
theorem wX4_loadOf_h6 {p : Program} {l : Launch} {e : Env} {s : State} {m : MethodId} {args : Array Value} {below : List Frame} {meth : Method} {c : Code} {X : zC} {N : zN} {r : Int} {g' : zG} {H : Heap} {locs : List Loc} {ls : Array Slot} (hF : zF p s m args meth c X cX4_loadOf 8 RX4) (hr : meth.sig.returnType = (some .int)) {n : Nat} {K : Nat → Int → Int → Int → Int → Int → zG → Option (Int × zG)} (hK0 : ∀ (x1 : Int) (x2 : Int) (x3 : Int) (x4 : Int) (x5 : Int) (g : zG) (H : Heap) (locs : List Loc) (ls : Array Slot), zH X N g s H locs → lv_has ls 8 [(0, z_r N 0 0), (1, z_v x1), (2, z_v x2), (3, z_v x3), (4, z_v x4), (5, z_v x5)] → K 0 x1 x2 x3 x4 x5 g = some (r, g') → W p l e { frames := 3, cells := 0, slots := 0, locals := 81 } s m args below meth c H locs 0 0 (MQ below (zQi X N r g') args s 0 0 (zA X)) (F0 m 6 ls [])) {x1 : Int} {x2 : Int} {x3 : Int} {x4 : Int} {x5 : Int} {g : zG} (hw : zH X N g s H locs) (hl : lv_has ls 8 [(0, z_r N 0 0), (1, z_v x1), (2, z_v x2), (3, z_v x3), (4, z_v x4), (5, z_v x5)]) (h : sX4_loadOf_h6 n K x1 x2 x3 x4 x5 g = some (r, g')) : W p l e { frames := 3, cells := 0, slots := 0, locals := 81 } s m args below meth c H locs 0 0 (MQ below (zQi X N r g') args s 0 0 (zA X)) (F0 m 6 ls []) := by
  have hx := hF.1.1
  have hb := hF.1.2.1
  unfold sX4_loadOf_h6 at h
  refine lv_iload hx hb dX4_loadOf_6 (lv_at hl 5 rfl) ?_
  refine lv_aload_n hx hb dX4_loadOf_8 rfl (lv_at hl 0 rfl) ?_
  refine zr_get hF hw zEf_0_0 (by decide) zC_0 0 (by decide) qw_123 rfl dX4_loadOf_9 ?_
  refine zr_size hF hw hl.1 (i := 0) zEf_1_0 qw_234 (Nat.le_of_ble_eq_true rfl) dX4_loadOf_12 ⟨Nat.le_of_ble_eq_true rfl, Nat.le_of_ble_eq_true rfl⟩ ⟨Nat.le_of_ble_eq_true rfl, Nat.le_of_ble_eq_true rfl⟩ (fun H locs hw => ?_)
  refine zr_icmp_ge (tgt := 72) hF h dX4_loadOf_15 (by decide) (fun h => ?_) (fun h => ?_)
  · refine lv_iload hx hb dX4_loadOf_72 (lv_at hl 4 rfl) ?_
    exact zr_iret hF hr hw h dX4_loadOf_74
  · refine lv_aload_n hx hb dX4_loadOf_18 rfl (lv_at hl 0 rfl) ?_
    refine zr_get hF hw zEf_0_0 (by decide) zC_0 0 (by decide) qw_123 rfl dX4_loadOf_19 ?_
    refine lv_iload hx hb dX4_loadOf_22 (lv_at hl 5 rfl) ?_
    refine zr_lget0 hF hw hl.1 qw_238 h (Nat.le_of_ble_eq_true rfl) dX4_loadOf_24 ⟨Nat.le_of_ble_eq_true rfl, Nat.le_of_ble_eq_true rfl⟩ ⟨Nat.le_of_ble_eq_true rfl, Nat.le_of_ble_eq_true rfl⟩ (fun H locs hw hf1 h => ?_)
    refine zr_cast hF hw hf1 (by decide) zC_4 qw_252 dX4_loadOf_27 ?_
    refine lv_astore (lv' := [(6, z_r N 4 ((x5).toNat)), (0, z_r N 0 0), (1, z_v x1), (2, z_v x2), (3, z_v x3), (4, z_v x4), (5, z_v x5)]) hx hb dX4_loadOf_30 hl (by decide) rfl (fun ls hl => ?_)
    refine lv_aload hx hb dX4_loadOf_32 (lv_at hl 0 rfl) ?_
    refine lv_iload_n hx hb dX4_loadOf_34 rfl (lv_at hl 2 rfl) ?_
    obtain ⟨r2, g1, h1, h⟩ := zbd_some h
    refine zr_callVi (n := 1) (As := [z_v x1]) (rest := []) hF hw (czX1_timeOver l X N hf1 h1) hf1 (by decide) zC_4 (z_goodV qw_253 qw_254 qw_255 qw_30 qw_256) (by decide +kernel) ⟨Nat.le_of_ble_eq_true rfl, Nat.le_of_ble_eq_true rfl⟩ ⟨rfl, rfl⟩ rfl hl.1 rfl (Nat.le_of_ble_eq_true rfl) dX4_loadOf_35 ⟨Nat.le_of_ble_eq_true rfl, Nat.le_of_ble_eq_true rfl⟩ (fun H locs hw => ?_)
    clear h1
    generalize g1 = g at *
    refine lv_istore (lv' := [(7, z_v r2), (6, z_r N 4 ((x5).toNat)), (0, z_r N 0 0), (1, z_v x1), (2, z_v x2), (3, z_v x3), (4, z_v x4), (5, z_v x5)]) hx hb dX4_loadOf_38 hl (by decide) rfl (fun ls hl => ?_)
    refine lv_aload hx hb dX4_loadOf_40 (lv_at hl 1 rfl) ?_
    refine lv_iload_n hx hb dX4_loadOf_42 rfl (lv_at hl 3 rfl) ?_
    obtain ⟨r3, g1, h1, h⟩ := zbd_some h
    refine zr_callVi (n := 1) (As := [z_v x1]) (rest := []) hF hw (czX1_loads l X N hf1 h1) hf1 (by decide) zC_4 (z_goodV qw_265 qw_266 qw_267 qw_30 qw_268) (by decide +kernel) ⟨Nat.le_of_ble_eq_true rfl, Nat.le_of_ble_eq_true rfl⟩ ⟨rfl, rfl⟩ rfl hl.1 rfl (Nat.le_of_ble_eq_true rfl) dX4_loadOf_43 ⟨Nat.le_of_ble_eq_true rfl, Nat.le_of_ble_eq_true rfl⟩ (fun H locs hw => ?_)
    clear h1
    generalize g1 = g at *
    refine zr_if_eq (tgt := 66) hF h dX4_loadOf_46 (by decide) (fun h => ?_) (fun h => ?_)
    · refine zr_iinc hF (lv' := fun v4 => [(5, z_v v4), (7, z_v r2), (6, z_r N 4 ((x5).toNat)), (0, z_r N 0 0), (1, z_v x1), (2, z_v x2), (3, z_v x3), (4, z_v x4)]) h dX4_loadOf_66 hl (k := 7) rfl (by decide) (fun _ => rfl) (fun v4 ls hl h => ?_)
      refine lv_goto (tgt := 6) hx hb dX4_loadOf_69 (by decide) ?_
      exact hK0 x1 x2 x3 x4 v4 _ _ _ _  hw (lv_sub hl [3, 4, 5, 6, 7, 0] rfl) h
    · refine lv_iload hx hb dX4_loadOf_49 (lv_at hl 0 rfl) ?_
      refine lv_iload_n hx hb dX4_loadOf_51 rfl (lv_at hl 4 rfl) ?_
      refine zr_icmp_lt (tgt := 66) hF h dX4_loadOf_52 (by decide) (fun h => ?_) (fun h => ?_)
      · refine zr_iinc hF (lv' := fun v5 => [(5, z_v v5), (7, z_v r2), (6, z_r N 4 ((x5).toNat)), (0, z_r N 0 0), (1, z_v x1), (2, z_v x2), (3, z_v x3), (4, z_v x4)]) h dX4_loadOf_66 hl (k := 7) rfl (by decide) (fun _ => rfl) (fun v5 ls hl h => ?_)
        refine lv_goto (tgt := 6) hx hb dX4_loadOf_69 (by decide) ?_
        exact hK0 x1 x2 x3 x4 v5 _ _ _ _  hw (lv_sub hl [3, 4, 5, 6, 7, 0] rfl) h
      · refine lv_iload hx hb dX4_loadOf_55 (lv_at hl 0 rfl) ?_
        refine lv_iload_n hx hb dX4_loadOf_57 rfl (lv_at hl 4 rfl) ?_
        refine lv_iload_n hx hb dX4_loadOf_58 rfl (lv_at hl 5 rfl) ?_
        refine zr_iadd hF dX4_loadOf_59 ?_
        refine zr_icmp_ge (tgt := 66) hF h dX4_loadOf_60 (by decide) (fun h => ?_) (fun h => ?_)
        · refine zr_iinc hF (lv' := fun v6 => [(5, z_v v6), (7, z_v r2), (6, z_r N 4 ((x5).toNat)), (0, z_r N 0 0), (1, z_v x1), (2, z_v x2), (3, z_v x3), (4, z_v x4)]) h dX4_loadOf_66 hl (k := 7) rfl (by decide) (fun _ => rfl) (fun v6 ls hl h => ?_)
          refine lv_goto (tgt := 6) hx hb dX4_loadOf_69 (by decide) ?_
          exact hK0 x1 x2 x3 x4 v6 _ _ _ _  hw (lv_sub hl [3, 4, 5, 6, 7, 0] rfl) h
        · refine zr_iinc hF (lv' := fun v7 => [(4, z_v v7), (7, z_v r2), (6, z_r N 4 ((x5).toNat)), (0, z_r N 0 0), (1, z_v x1), (2, z_v x2), (3, z_v x3), (5, z_v x5)]) h dX4_loadOf_63 hl (k := 6) rfl (by decide) (fun _ => rfl) (fun v7 ls hl h => ?_)
          refine zr_iinc hF (lv' := fun v8 => [(5, z_v v8), (4, z_v v7), (7, z_v r2), (6, z_r N 4 ((x5).toNat)), (0, z_r N 0 0), (1, z_v x1), (2, z_v x2), (3, z_v x3)]) h dX4_loadOf_66 hl (k := 7) rfl (by decide) (fun _ => rfl) (fun v8 ls hl h => ?_)
          refine lv_goto (tgt := 6) hx hb dX4_loadOf_69 (by decide) ?_
          exact hK0 x1 x2 x3 v7 v8 _ _ _ _  hw (lv_sub hl [4, 5, 6, 7, 1, 0] rfl) h
set_option maxHeartbeats 4000000 in
set_option maxRecDepth 100000 in
theorem wX4_loadOf_run {p : Program} {l : Launch} {e : Env} {s : State} {m : MethodId} {args : Array Value} {below : List Frame} {meth : Method} {c : Code} {X : zC} {N : zN} {r : Int} {g' : zG} (hF : zF p s m args meth c X cX4_loadOf 8 RX4) (hr : meth.sig.returnType = (some .int)) {n0 : Nat} : ∀ n : Nat, (∀ (x1 : Int) (x2 : Int) (x3 : Int) (x4 : Int) (x5 : Int) (g : zG) (H : Heap) (locs : List Loc) (ls : Array Slot), zH X N g s H locs → lv_has ls 8 [(0, z_r N 0 0), (1, z_v x1), (2, z_v x2), (3, z_v x3), (4, z_v x4), (5, z_v x5)] → sX4_loadOf_run n0 n 0 x1 x2 x3 x4 x5 g = some (r, g') → W p l e { frames := 3, cells := 0, slots := 0, locals := 81 } s m args below meth c H locs 0 0 (MQ below (zQi X N r g') args s 0 0 (zA X)) (F0 m 6 ls [])) := by
  intro n
  induction n with
  | zero => exact fun _ _ _ _ _ _ _ _ _ _ _  h => (by cases h)
  | succ n ih => exact fun x1 x2 x3 x4 x5 g H locs ls  hw hl h => wX4_loadOf_h6 hF hr ih  hw hl h
set_option maxHeartbeats 4000000 in
set_option maxRecDepth 100000 in
theorem czX4_loadOf (l : Launch) (X : zC) (N : zN) {n : Nat} {x1 : Int} {x2 : Int} {x3 : Int} {g g' : zG} {r : Int} (h : sX4_loadOf n x1 x2 x3 g = some (r, g')) : zM l yX4_loadOf cX4_loadOf 8 (some .int) { frames := 3, cells := 0, slots := 0, locals := 81 } X N g [z_r N 0 0, z_v x1, z_v x2, z_v x3] (zQi X N r g') := by
  refine z_ofW (own := RX4) (by decide +kernel) rfl (Nat.le_of_ble_eq_true rfl) ?_
  intro p e s m args below meth c ls hF hr hw hl
  have hl : lv_has ls 8 [(0, z_r N 0 0), (1, z_v x1), (2, z_v x2), (3, z_v x3)] := hl
  have hx := hF.1.1
  have hb := hF.1.2.1
  have hKK := wX4_loadOf_run hF hr (r := r) (g' := g') (X := X) (N := N) (n0 := n) (l := l) (e := e) (below := below) n
  have hK0 := hKK
  unfold sX4_loadOf at h
  generalize s.heap = H at hw ⊢
  generalize ([] : List Loc) = locs at hw ⊢
  refine lv_iconst hx hb dX4_loadOf_0 rfl ?_
  refine lv_istore (lv' := [(4, z_v 0), (0, z_r N 0 0), (1, z_v x1), (2, z_v x2), (3, z_v x3)]) hx hb dX4_loadOf_1 hl (by decide) rfl (fun ls hl => ?_)
  refine lv_iconst hx hb dX4_loadOf_3 rfl ?_
  refine lv_istore (lv' := [(5, z_v 0), (4, z_v 0), (0, z_r N 0 0), (1, z_v x1), (2, z_v x2), (3, z_v x3)]) hx hb dX4_loadOf_4 hl (by decide) rfl (fun ls hl => ?_)
  exact hK0 x1 x2 x3 0 0 _ _ _ _  hw (lv_sub hl [2, 3, 4, 5, 1, 0] rfl) h
set_option maxHeartbeats 4000000 in
set_option maxRecDepth 100000 in
theorem czX4_load (l : Launch) (hT : l.stackTraces = false) (X : zC) (N : zN) {n : Nat} {x1 : Int} {x2 : Int} {x3 : Int} {g g' : zG} {o : Nat × Int} (h : sX4_load n x1 x2 x3 g = some (o, g')) : zXM l yX4_load cX4_load 4 (some .int) { frames := 7, cells := 3, slots := 18, locals := 112 } X N g [z_r N 0 0, z_v x1, z_v x2, z_v x3] (zYi X N o g') o g' := by
  refine z_xofW (own := RX4) (by decide +kernel) rfl (Nat.le_of_ble_eq_true rfl) ?_
  intro p e s m args below meth c ls hF hr hnt hw hl
  have hl : lv_has ls 4 [(0, z_r N 0 0), (1, z_v x1), (2, z_v x2), (3, z_v x3)] := hl
  have hx := hF.1.1
  have hb := hF.1.2.1
  unfold sX4_load at h
  generalize s.heap = H at hw ⊢
  generalize ([] : List Loc) = locs at hw ⊢
  refine lv_iload_n hx hb dX4_load_0 rfl (lv_at hl 1 rfl) ?_
  obtain ⟨o1, g1, h1, h⟩ := zbx_some h
  refine zx_callSv (n := 1) (As := [z_v x1]) (rest := []) hF hnt hw (czX4_checkSector l hT X N h1) h (z_goodS qw_140 qw_141 qw_15 qw_142) (by decide +kernel) ⟨Nat.le_of_ble_eq_true rfl, Nat.le_of_ble_eq_true rfl⟩ rfl hl.1 rfl (Nat.le_of_ble_eq_true rfl) dX4_load_1 ⟨Nat.le_of_ble_eq_true rfl, Nat.le_of_ble_eq_true rfl⟩ ⟨Nat.le_of_ble_eq_true rfl, Nat.le_of_ble_eq_true rfl⟩ (fun H locs hw h => ?_)
  clear h1
  generalize g1 = g at *
  generalize o1.2 = r1 at *
  refine lv_iload_n hx hb dX4_load_4 rfl (lv_at hl 2 rfl) ?_
  refine lv_iconst hx hb dX4_load_5 rfl ?_
  refine lv_sipush (v := Int32.ofInt (2999)) hx hb dX4_load_6 (by decide) ?_
  obtain ⟨o1, g1, h1, h⟩ := zbx_some h
  refine zx_callSv (n := 3) (As := [z_v x2, z_v 0, z_v 2999]) (rest := []) hF hnt hw (czX4_checkRange l hT X N h1) h (z_goodS qw_211 qw_212 qw_15 qw_213) (by decide +kernel) ⟨Nat.le_of_ble_eq_true rfl, Nat.le_of_ble_eq_true rfl⟩ rfl hl.1 rfl (Nat.le_of_ble_eq_true rfl) dX4_load_9 ⟨Nat.le_of_ble_eq_true rfl, Nat.le_of_ble_eq_true rfl⟩ ⟨Nat.le_of_ble_eq_true rfl, Nat.le_of_ble_eq_true rfl⟩ (fun H locs hw h => ?_)
  clear h1
  generalize g1 = g at *
  generalize o1.2 = r3 at *
  refine lv_iload_n hx hb dX4_load_12 rfl (lv_at hl 3 rfl) ?_
  refine lv_iconst hx hb dX4_load_13 rfl ?_
  refine lv_sipush (v := Int32.ofInt (240)) hx hb dX4_load_14 (by decide) ?_
  obtain ⟨o1, g1, h1, h⟩ := zbx_some h
  refine zx_callSv (n := 3) (As := [z_v x3, z_v 1, z_v 240]) (rest := []) hF hnt hw (czX4_checkRange l hT X N h1) h (z_goodS qw_211 qw_212 qw_15 qw_213) (by decide +kernel) ⟨Nat.le_of_ble_eq_true rfl, Nat.le_of_ble_eq_true rfl⟩ rfl hl.1 rfl (Nat.le_of_ble_eq_true rfl) dX4_load_17 ⟨Nat.le_of_ble_eq_true rfl, Nat.le_of_ble_eq_true rfl⟩ ⟨Nat.le_of_ble_eq_true rfl, Nat.le_of_ble_eq_true rfl⟩ (fun H locs hw h => ?_)
  clear h1
  generalize g1 = g at *
  generalize o1.2 = r5 at *
  refine lv_aload_n hx hb dX4_load_20 rfl (lv_at hl 0 rfl) ?_
  refine lv_iload_n hx hb dX4_load_21 rfl (lv_at hl 1 rfl) ?_
  refine lv_iload_n hx hb dX4_load_22 rfl (lv_at hl 2 rfl) ?_
  refine lv_iload_n hx hb dX4_load_23 rfl (lv_at hl 3 rfl) ?_
  obtain ⟨r7, g1, h1, h⟩ := zbd_some h
  refine zr_callVi (n := 3) (As := [z_v x1, z_v x2, z_v x3]) (rest := []) hF hw (czX4_loadOf l X N h1) zEf_0_0 (by decide) zC_0 (z_goodV qw_230 qw_232 qw_1 qw_15 qw_233) (by decide +kernel) ⟨Nat.le_of_ble_eq_true rfl, Nat.le_of_ble_eq_true rfl⟩ ⟨rfl, rfl⟩ rfl hl.1 rfl (Nat.le_of_ble_eq_true rfl) dX4_load_24 ⟨Nat.le_of_ble_eq_true rfl, Nat.le_of_ble_eq_true rfl⟩ (fun H locs hw => ?_)
  clear h1
  generalize g1 = g at *
  exact zx_iret hF hr hw h dX4_load_27 ⟨Nat.le_of_ble_eq_true rfl, Nat.le_of_ble_eq_true rfl⟩
set_option maxHeartbeats 4000000 in
set_option maxRecDepth 100000 in
theorem wX4_inside_h17 {p : Program} {l : Launch} {e : Env} {s : State} {m : MethodId} {args : Array Value} {below : List Frame} {meth : Method} {c : Code} {X : zC} {N : zN} {o : Nat × Int} {g' : zG} {H : Heap} {locs : List Loc} {ls : Array Slot} (hF : zF p s m args meth c X cX4_inside 5 RX4) (hT : l.stackTraces = false) (hnt : ∀ x ∈ c.exceptionTable.toList, False) (hr : meth.sig.returnType = (some .int)) {n : Nat} {K : Nat → Int → Int → Int → Int → zG → Option ((Nat × Int) × zG)} (hK0 : ∀ (x1 : Int) (x2 : Int) (x3 : Int) (x4 : Int) (g : zG) (H : Heap) (locs : List Loc) (ls : Array Slot), zH X N g s H locs → lv_has ls 5 [(0, z_r N 0 0), (1, z_v x1), (2, z_v x2), (3, z_v x3), (4, z_v x4)] → K 0 x1 x2 x3 x4 g = some (o, g') → W p l e { frames := 7, cells := 2, slots := 12, locals := 112 } s m args below meth c H locs 2 12 (vx_MQ below (zYi X N o g') (zXC X N o g') args s 2 12 (zA X)) (F0 m 17 ls [])) {x1 : Int} {x2 : Int} {x3 : Int} {x4 : Int} {g : zG} (hw : zH X N g s H locs) (hl : lv_has ls 5 [(0, z_r N 0 0), (1, z_v x1), (2, z_v x2), (3, z_v x3), (4, z_v x4)]) (h : sX4_inside_h17 n K x1 x2 x3 x4 g = some (o, g')) : W p l e { frames := 7, cells := 2, slots := 12, locals := 112 } s m args below meth c H locs 2 12 (vx_MQ below (zYi X N o g') (zXC X N o g') args s 2 12 (zA X)) (F0 m 17 ls []) := by
  have hx := hF.1.1
  have hb := hF.1.2.1
  unfold sX4_inside_h17 at h
  refine lv_iload hx hb dX4_inside_17 (lv_at hl 4 rfl) ?_
  refine lv_aload_n hx hb dX4_inside_19 rfl (lv_at hl 0 rfl) ?_
  refine zr_get hF hw zEf_0_0 (by decide) zC_0 0 (by decide) qw_123 rfl dX4_inside_20 ?_
  refine zr_size hF hw hl.1 (i := 0) zEf_1_0 qw_234 (Nat.le_of_ble_eq_true rfl) dX4_inside_23 ⟨Nat.le_of_ble_eq_true rfl, Nat.le_of_ble_eq_true rfl⟩ ⟨Nat.le_of_ble_eq_true rfl, Nat.le_of_ble_eq_true rfl⟩ (fun H locs hw => ?_)
  refine zr_icmp_ge (tgt := 58) hF h dX4_inside_26 (by decide) (fun h => ?_) (fun h => ?_)
  · refine lv_iload_n hx hb dX4_inside_58 rfl (lv_at hl 3 rfl) ?_
    exact zx_iret hF hr hw h dX4_inside_59 ⟨Nat.le_of_ble_eq_true rfl, Nat.le_of_ble_eq_true rfl⟩
  · refine lv_aload_n hx hb dX4_inside_29 rfl (lv_at hl 0 rfl) ?_
    refine zr_get hF hw zEf_0_0 (by decide) zC_0 0 (by decide) qw_123 rfl dX4_inside_30 ?_
    refine lv_iload hx hb dX4_inside_33 (lv_at hl 4 rfl) ?_
    refine zr_lget0 hF hw hl.1 qw_238 h (Nat.le_of_ble_eq_true rfl) dX4_inside_35 ⟨Nat.le_of_ble_eq_true rfl, Nat.le_of_ble_eq_true rfl⟩ ⟨Nat.le_of_ble_eq_true rfl, Nat.le_of_ble_eq_true rfl⟩ (fun H locs hw hf1 h => ?_)
    refine zr_cast hF hw hf1 (by decide) zC_4 qw_252 dX4_inside_38 ?_
    refine lv_iload_n hx hb dX4_inside_41 rfl (lv_at hl 1 rfl) ?_
    refine lv_iload_n hx hb dX4_inside_42 rfl (lv_at hl 2 rfl) ?_
    obtain ⟨r2, g1, h1, h⟩ := zbd_some h
    refine zr_callVi (n := 2) (As := [z_v x1, z_v x2]) (rest := []) hF hw (czX1_isInside l X N hf1 h1) hf1 (by decide) zC_4 (z_goodV qw_648 qw_649 qw_650 qw_30 qw_651) (by decide +kernel) ⟨Nat.le_of_ble_eq_true rfl, Nat.le_of_ble_eq_true rfl⟩ ⟨rfl, rfl⟩ rfl hl.1 rfl (Nat.le_of_ble_eq_true rfl) dX4_inside_43 ⟨Nat.le_of_ble_eq_true rfl, Nat.le_of_ble_eq_true rfl⟩ (fun H locs hw => ?_)
    clear h1
    generalize g1 = g at *
    refine zr_if_eq (tgt := 52) hF h dX4_inside_46 (by decide) (fun h => ?_) (fun h => ?_)
    · refine zr_iinc hF (lv' := fun v3 => [(4, z_v v3), (0, z_r N 0 0), (1, z_v x1), (2, z_v x2), (3, z_v x3)]) h dX4_inside_52 hl (k := 4) rfl (by decide) (fun _ => rfl) (fun v3 ls hl h => ?_)
      refine lv_goto (tgt := 17) hx hb dX4_inside_55 (by decide) ?_
      exact hK0 x1 x2 x3 v3 _ _ _ _  hw (lv_sub hl [1, 2, 3, 4, 0] rfl) h
    · refine zr_iinc hF (lv' := fun v4 => [(3, z_v v4), (0, z_r N 0 0), (1, z_v x1), (2, z_v x2), (4, z_v x4)]) h dX4_inside_49 hl (k := 3) rfl (by decide) (fun _ => rfl) (fun v4 ls hl h => ?_)
      refine zr_iinc hF (lv' := fun v5 => [(4, z_v v5), (3, z_v v4), (0, z_r N 0 0), (1, z_v x1), (2, z_v x2)]) h dX4_inside_52 hl (k := 4) rfl (by decide) (fun _ => rfl) (fun v5 ls hl h => ?_)
      refine lv_goto (tgt := 17) hx hb dX4_inside_55 (by decide) ?_
      exact hK0 x1 x2 v4 v5 _ _ _ _  hw (lv_sub hl [2, 3, 4, 1, 0] rfl) h
set_option maxHeartbeats 4000000 in
set_option maxRecDepth 100000 in
theorem wX4_inside_run {p : Program} {l : Launch} {e : Env} {s : State} {m : MethodId} {args : Array Value} {below : List Frame} {meth : Method} {c : Code} {X : zC} {N : zN} {o : Nat × Int} {g' : zG} (hF : zF p s m args meth c X cX4_inside 5 RX4) (hT : l.stackTraces = false) (hnt : ∀ x ∈ c.exceptionTable.toList, False) (hr : meth.sig.returnType = (some .int)) {n0 : Nat} : ∀ n : Nat, (∀ (x1 : Int) (x2 : Int) (x3 : Int) (x4 : Int) (g : zG) (H : Heap) (locs : List Loc) (ls : Array Slot), zH X N g s H locs → lv_has ls 5 [(0, z_r N 0 0), (1, z_v x1), (2, z_v x2), (3, z_v x3), (4, z_v x4)] → sX4_inside_run n0 n 0 x1 x2 x3 x4 g = some (o, g') → W p l e { frames := 7, cells := 2, slots := 12, locals := 112 } s m args below meth c H locs 2 12 (vx_MQ below (zYi X N o g') (zXC X N o g') args s 2 12 (zA X)) (F0 m 17 ls [])) := by
  intro n
  induction n with
  | zero => exact fun _ _ _ _ _ _ _ _ _ _  h => (by cases h)
  | succ n ih => exact fun x1 x2 x3 x4 g H locs ls  hw hl h => wX4_inside_h17 hF hT hnt hr ih  hw hl h
set_option maxHeartbeats 4000000 in
set_option maxRecDepth 100000 in
theorem czX4_inside (l : Launch) (hT : l.stackTraces = false) (X : zC) (N : zN) {n : Nat} {x1 : Int} {x2 : Int} {g g' : zG} {o : Nat × Int} (h : sX4_inside n x1 x2 g = some (o, g')) : zXM l yX4_inside cX4_inside 5 (some .int) { frames := 7, cells := 2, slots := 12, locals := 112 } X N g [z_r N 0 0, z_v x1, z_v x2] (zYi X N o g') o g' := by
  refine z_xofW (own := RX4) (by decide +kernel) rfl (Nat.le_of_ble_eq_true rfl) ?_
  intro p e s m args below meth c ls hF hr hnt hw hl
  have hl : lv_has ls 5 [(0, z_r N 0 0), (1, z_v x1), (2, z_v x2)] := hl
  have hx := hF.1.1
  have hb := hF.1.2.1
  have hKK := wX4_inside_run hF hT hnt hr (o := o) (g' := g') (X := X) (N := N) (n0 := n) (l := l) (e := e) (below := below) n
  have hK0 := hKK
  unfold sX4_inside at h
  generalize s.heap = H at hw ⊢
  generalize ([] : List Loc) = locs at hw ⊢
  refine lv_iload_n hx hb dX4_inside_0 rfl (lv_at hl 1 rfl) ?_
  obtain ⟨o1, g1, h1, h⟩ := zbx_some h
  refine zx_callSv (n := 1) (As := [z_v x1]) (rest := []) hF hnt hw (czX4_checkSector l hT X N h1) h (z_goodS qw_140 qw_141 qw_15 qw_142) (by decide +kernel) ⟨Nat.le_of_ble_eq_true rfl, Nat.le_of_ble_eq_true rfl⟩ rfl hl.1 rfl (Nat.le_of_ble_eq_true rfl) dX4_inside_1 ⟨Nat.le_of_ble_eq_true rfl, Nat.le_of_ble_eq_true rfl⟩ ⟨Nat.le_of_ble_eq_true rfl, Nat.le_of_ble_eq_true rfl⟩ (fun H locs hw h => ?_)
  clear h1
  generalize g1 = g at *
  generalize o1.2 = r1 at *
  refine lv_iload_n hx hb dX4_inside_4 rfl (lv_at hl 2 rfl) ?_
  refine lv_iconst hx hb dX4_inside_5 rfl ?_
  refine lv_sipush (v := Int32.ofInt (2999)) hx hb dX4_inside_6 (by decide) ?_
  obtain ⟨o1, g1, h1, h⟩ := zbx_some h
  refine zx_callSv (n := 3) (As := [z_v x2, z_v 0, z_v 2999]) (rest := []) hF hnt hw (czX4_checkRange l hT X N h1) h (z_goodS qw_211 qw_212 qw_15 qw_213) (by decide +kernel) ⟨Nat.le_of_ble_eq_true rfl, Nat.le_of_ble_eq_true rfl⟩ rfl hl.1 rfl (Nat.le_of_ble_eq_true rfl) dX4_inside_9 ⟨Nat.le_of_ble_eq_true rfl, Nat.le_of_ble_eq_true rfl⟩ ⟨Nat.le_of_ble_eq_true rfl, Nat.le_of_ble_eq_true rfl⟩ (fun H locs hw h => ?_)
  clear h1
  generalize g1 = g at *
  generalize o1.2 = r3 at *
  refine lv_iconst hx hb dX4_inside_12 rfl ?_
  refine lv_istore_n (lv' := [(3, z_v 0), (0, z_r N 0 0), (1, z_v x1), (2, z_v x2)]) hx hb dX4_inside_13 rfl hl (by decide) rfl (fun ls hl => ?_)
  refine lv_iconst hx hb dX4_inside_14 rfl ?_
  refine lv_istore (lv' := [(4, z_v 0), (3, z_v 0), (0, z_r N 0 0), (1, z_v x1), (2, z_v x2)]) hx hb dX4_inside_15 hl (by decide) rfl (fun ls hl => ?_)
  exact hK0 x1 x2 0 0 _ _ _ _  hw (lv_sub hl [2, 3, 4, 1, 0] rfl) h
set_option maxHeartbeats 4000000 in
set_option maxRecDepth 100000 in
theorem wX4_lineUpEntering_h9 {p : Program} {l : Launch} {e : Env} {s : State} {m : MethodId} {args : Array Value} {below : List Frame} {meth : Method} {c : Code} {X : zC} {N : zN} {r : Int} {g' : zG} {H : Heap} {locs : List Loc} {ls : Array Slot} (hF : zF p s m args meth c X cX4_lineUpEntering 4 RX4) (hr : meth.sig.returnType = none) {n : Nat} {K : Nat → Int → Int → zG → Option (Int × zG)} (hK0 : ∀ (x1 : Int) (x2 : Int) (g : zG) (H : Heap) (locs : List Loc) (ls : Array Slot), zH X N g s H locs → lv_has ls 4 [(0, z_r N 0 0), (1, z_v x1), (2, z_v x2)] → K 0 x1 x2 g = some (r, g') → W p l e { frames := 3, cells := 0, slots := 0, locals := 81 } s m args below meth c H locs 0 0 (MQ below (zQv X N g') args s 0 0 (zA X)) (F0 m 9 ls [])) {x1 : Int} {x2 : Int} {g : zG} (hw : zH X N g s H locs) (hl : lv_has ls 4 [(0, z_r N 0 0), (1, z_v x1), (2, z_v x2)]) (h : sX4_lineUpEntering_h9 n K x1 x2 g = some (r, g')) : W p l e { frames := 3, cells := 0, slots := 0, locals := 81 } s m args below meth c H locs 0 0 (MQ below (zQv X N g') args s 0 0 (zA X)) (F0 m 9 ls []) := by
  have hx := hF.1.1
  have hb := hF.1.2.1
  unfold sX4_lineUpEntering_h9 at h
  refine lv_iload_n hx hb dX4_lineUpEntering_9 rfl (lv_at hl 2 rfl) ?_
  refine lv_aload_n hx hb dX4_lineUpEntering_10 rfl (lv_at hl 0 rfl) ?_
  refine zr_get hF hw zEf_0_0 (by decide) zC_0 0 (by decide) qw_123 rfl dX4_lineUpEntering_11 ?_
  refine zr_size hF hw hl.1 (i := 0) zEf_1_0 qw_234 (Nat.le_of_ble_eq_true rfl) dX4_lineUpEntering_14 ⟨Nat.le_of_ble_eq_true rfl, Nat.le_of_ble_eq_true rfl⟩ ⟨Nat.le_of_ble_eq_true rfl, Nat.le_of_ble_eq_true rfl⟩ (fun H locs hw => ?_)
  refine zr_icmp_ge (tgt := 59) hF h dX4_lineUpEntering_17 (by decide) (fun h => ?_) (fun h => ?_)
  · exact zr_vret hF hr hw h dX4_lineUpEntering_59
  · refine lv_aload_n hx hb dX4_lineUpEntering_20 rfl (lv_at hl 0 rfl) ?_
    refine zr_get hF hw zEf_0_0 (by decide) zC_0 0 (by decide) qw_123 rfl dX4_lineUpEntering_21 ?_
    refine lv_iload_n hx hb dX4_lineUpEntering_24 rfl (lv_at hl 2 rfl) ?_
    refine zr_lget0 hF hw hl.1 qw_238 h (Nat.le_of_ble_eq_true rfl) dX4_lineUpEntering_25 ⟨Nat.le_of_ble_eq_true rfl, Nat.le_of_ble_eq_true rfl⟩ ⟨Nat.le_of_ble_eq_true rfl, Nat.le_of_ble_eq_true rfl⟩ (fun H locs hw hf1 h => ?_)
    refine zr_cast hF hw hf1 (by decide) zC_4 qw_252 dX4_lineUpEntering_28 ?_
    refine lv_astore_n (lv' := [(3, z_r N 4 ((x2).toNat)), (0, z_r N 0 0), (1, z_v x1), (2, z_v x2)]) hx hb dX4_lineUpEntering_31 rfl hl (by decide) rfl (fun ls hl => ?_)
    refine lv_aload_n hx hb dX4_lineUpEntering_32 rfl (lv_at hl 0 rfl) ?_
    refine lv_iload_n hx hb dX4_lineUpEntering_33 rfl (lv_at hl 2 rfl) ?_
    obtain ⟨r2, g1, h1, h⟩ := zbd_some h
    refine zr_callVi (n := 1) (As := [z_v x1]) (rest := []) hF hw (czX1_loads l X N hf1 h1) hf1 (by decide) zC_4 (z_goodV qw_265 qw_266 qw_267 qw_30 qw_268) (by decide +kernel) ⟨Nat.le_of_ble_eq_true rfl, Nat.le_of_ble_eq_true rfl⟩ ⟨rfl, rfl⟩ rfl hl.1 rfl (Nat.le_of_ble_eq_true rfl) dX4_lineUpEntering_34 ⟨Nat.le_of_ble_eq_true rfl, Nat.le_of_ble_eq_true rfl⟩ (fun H locs hw => ?_)
    clear h1
    generalize g1 = g at *
    refine zr_if_eq (tgt := 53) hF h dX4_lineUpEntering_37 (by decide) (fun h => ?_) (fun h => ?_)
    · refine zr_iinc hF (lv' := fun v3 => [(2, z_v v3), (3, z_r N 4 ((x2).toNat)), (0, z_r N 0 0), (1, z_v x1)]) h dX4_lineUpEntering_53 hl (k := 3) rfl (by decide) (fun _ => rfl) (fun v3 ls hl h => ?_)
      refine lv_goto (tgt := 9) hx hb dX4_lineUpEntering_56 (by decide) ?_
      exact hK0 x1 v3 _ _ _ _  hw (lv_sub hl [2, 3, 0] rfl) h
    · refine lv_aload_n hx hb dX4_lineUpEntering_40 rfl (lv_at hl 1 rfl) ?_
      refine zr_get hF hw zEf_0_0 (by decide) zC_0 3 (by decide) qw_126 rfl dX4_lineUpEntering_41 ?_
      refine lv_iload_n hx hb dX4_lineUpEntering_44 rfl (lv_at hl 3 rfl) ?_
      refine lv_aload_n hx hb dX4_lineUpEntering_45 rfl (lv_at hl 0 rfl) ?_
      refine lv_iload_n hx hb dX4_lineUpEntering_46 rfl (lv_at hl 2 rfl) ?_
      obtain ⟨r4, g1, h1, h⟩ := zbd_some h
      refine zr_callVi (n := 1) (As := [z_v x1]) (rest := [z_v x2, z_r N 3 2]) hF hw (czX1_timeOver l X N hf1 h1) hf1 (by decide) zC_4 (z_goodV qw_253 qw_254 qw_255 qw_30 qw_256) (by decide +kernel) ⟨Nat.le_of_ble_eq_true rfl, Nat.le_of_ble_eq_true rfl⟩ ⟨rfl, rfl⟩ rfl hl.1 rfl (Nat.le_of_ble_eq_true rfl) dX4_lineUpEntering_47 ⟨Nat.le_of_ble_eq_true rfl, Nat.le_of_ble_eq_true rfl⟩ (fun H locs hw => ?_)
      clear h1
      generalize g1 = g at *
      obtain ⟨r5, g1, h1, h⟩ := zbd_some h
      refine zr_callVv (n := 2) (As := [z_v x2, z_v r4]) (rest := []) hF hw (czX2_add l X N zEf_3_2 h1) zEf_3_2 (by decide) zC_3 (z_goodV qw_741 qw_329 qw_330 qw_20 qw_331) (by decide +kernel) ⟨Nat.le_of_ble_eq_true rfl, Nat.le_of_ble_eq_true rfl⟩ ⟨rfl, rfl⟩ rfl hl.1 rfl (Nat.le_of_ble_eq_true rfl) dX4_lineUpEntering_50 ⟨Nat.le_of_ble_eq_true rfl, Nat.le_of_ble_eq_true rfl⟩ (fun H locs hw => ?_)
      clear h1
      generalize g1 = g at *
      refine zr_iinc hF (lv' := fun v6 => [(2, z_v v6), (3, z_r N 4 ((x2).toNat)), (0, z_r N 0 0), (1, z_v x1)]) h dX4_lineUpEntering_53 hl (k := 3) rfl (by decide) (fun _ => rfl) (fun v6 ls hl h => ?_)
      refine lv_goto (tgt := 9) hx hb dX4_lineUpEntering_56 (by decide) ?_
      exact hK0 x1 v6 _ _ _ _  hw (lv_sub hl [2, 3, 0] rfl) h
set_option maxHeartbeats 4000000 in
set_option maxRecDepth 100000 in
theorem wX4_lineUpEntering_run {p : Program} {l : Launch} {e : Env} {s : State} {m : MethodId} {args : Array Value} {below : List Frame} {meth : Method} {c : Code} {X : zC} {N : zN} {r : Int} {g' : zG} (hF : zF p s m args meth c X cX4_lineUpEntering 4 RX4) (hr : meth.sig.returnType = none) {n0 : Nat} : ∀ n : Nat, (∀ (x1 : Int) (x2 : Int) (g : zG) (H : Heap) (locs : List Loc) (ls : Array Slot), zH X N g s H locs → lv_has ls 4 [(0, z_r N 0 0), (1, z_v x1), (2, z_v x2)] → sX4_lineUpEntering_run n0 n 0 x1 x2 g = some (r, g') → W p l e { frames := 3, cells := 0, slots := 0, locals := 81 } s m args below meth c H locs 0 0 (MQ below (zQv X N g') args s 0 0 (zA X)) (F0 m 9 ls [])) := by
  intro n
  induction n with
  | zero => exact fun _ _ _ _ _ _ _ _  h => (by cases h)
  | succ n ih => exact fun x1 x2 g H locs ls  hw hl h => wX4_lineUpEntering_h9 hF hr ih  hw hl h
set_option maxHeartbeats 4000000 in
set_option maxRecDepth 100000 in
theorem czX4_lineUpEntering (l : Launch) (X : zC) (N : zN) {n : Nat} {x1 : Int} {g g' : zG} {r : Int} (h : sX4_lineUpEntering n x1 g = some (r, g')) : zM l yX4_lineUpEntering cX4_lineUpEntering 4 none { frames := 3, cells := 0, slots := 0, locals := 81 } X N g [z_r N 0 0, z_v x1] (zQv X N g') := by
  refine z_ofW (own := RX4) (by decide +kernel) rfl (Nat.le_of_ble_eq_true rfl) ?_
  intro p e s m args below meth c ls hF hr hw hl
  have hl : lv_has ls 4 [(0, z_r N 0 0), (1, z_v x1)] := hl
  have hx := hF.1.1
  have hb := hF.1.2.1
  have hKK := wX4_lineUpEntering_run hF hr (r := r) (g' := g') (X := X) (N := N) (n0 := n) (l := l) (e := e) (below := below) n
  have hK0 := hKK
  unfold sX4_lineUpEntering at h
  generalize s.heap = H at hw ⊢
  generalize ([] : List Loc) = locs at hw ⊢
  refine lv_aload_n hx hb dX4_lineUpEntering_0 rfl (lv_at hl 0 rfl) ?_
  refine zr_get hF hw zEf_0_0 (by decide) zC_0 3 (by decide) qw_126 rfl dX4_lineUpEntering_1 ?_
  obtain ⟨r1, g1, h1, h⟩ := zbd_some h
  refine zr_callVv (n := 0) (As := []) (rest := []) hF hw (czX2_clear l X N zEf_3_2 h1) zEf_3_2 (by decide) zC_3 (z_goodV qw_740 qw_306 qw_307 qw_20 qw_308) (by decide +kernel) ⟨Nat.le_of_ble_eq_true rfl, Nat.le_of_ble_eq_true rfl⟩ ⟨rfl, rfl⟩ rfl hl.1 rfl (Nat.le_of_ble_eq_true rfl) dX4_lineUpEntering_4 ⟨Nat.le_of_ble_eq_true rfl, Nat.le_of_ble_eq_true rfl⟩ (fun H locs hw => ?_)
  clear h1
  generalize g1 = g at *
  refine lv_iconst hx hb dX4_lineUpEntering_7 rfl ?_
  refine lv_istore_n (lv' := [(2, z_v 0), (0, z_r N 0 0), (1, z_v x1)]) hx hb dX4_lineUpEntering_8 rfl hl (by decide) rfl (fun ls hl => ?_)
  exact hK0 x1 0 _ _ _ _  hw (lv_sub hl [1, 2, 0] rfl) h
set_option maxHeartbeats 4000000 in
set_option maxRecDepth 100000 in
theorem wX4_peak_h28 {p : Program} {l : Launch} {e : Env} {s : State} {m : MethodId} {args : Array Value} {below : List Frame} {meth : Method} {c : Code} {X : zC} {N : zN} {o : Nat × Int} {g' : zG} {H : Heap} {locs : List Loc} {ls : Array Slot} (hF : zF p s m args meth c X cX4_peak 7 RX4) (hT : l.stackTraces = false) (hnt : ∀ x ∈ c.exceptionTable.toList, False) (hr : meth.sig.returnType = (some .int)) {n : Nat} {K : Nat → Int → Int → Int → Int → Int → zG → Option ((Nat × Int) × zG)} (hK0 : ∀ (x2 : Int) (x3 : Int) (x4 : Int) (x5 : Int) (x6 : Int) (g : zG) (H : Heap) (locs : List Loc) (ls : Array Slot), zH X N g s H locs → lv_has ls 7 [(0, z_r N 0 0), (2, z_v x2), (3, z_v x3), (4, z_v x4), (5, z_v x5), (6, z_v x6)] → K 0 x2 x3 x4 x5 x6 g = some (o, g') → W p l e { frames := 7, cells := 2, slots := 12, locals := 112 } s m args below meth c H locs 2 12 (vx_MQ below (zYi X N o g') (zXC X N o g') args s 2 12 (zA X)) (F0 m 28 ls [])) {x2 : Int} {x3 : Int} {x4 : Int} {x5 : Int} {x6 : Int} {g : zG} (hw : zH X N g s H locs) (hl : lv_has ls 7 [(0, z_r N 0 0), (2, z_v x2), (3, z_v x3), (4, z_v x4), (5, z_v x5), (6, z_v x6)]) (h : sX4_peak_h28 n K x2 x3 x4 x5 x6 g = some (o, g')) : W p l e { frames := 7, cells := 2, slots := 12, locals := 112 } s m args below meth c H locs 2 12 (vx_MQ below (zYi X N o g') (zXC X N o g') args s 2 12 (zA X)) (F0 m 28 ls []) := by
  have hx := hF.1.1
  have hb := hF.1.2.1
  unfold sX4_peak_h28 at h
  refine lv_iload hx hb dX4_peak_28 (lv_at hl 5 rfl) ?_
  refine lv_sipush (v := Int32.ofInt (2999)) hx hb dX4_peak_30 (by decide) ?_
  refine zr_icmp_gt (tgt := 79) hF h dX4_peak_33 (by decide) (fun h => ?_) (fun h => ?_)
  · refine lv_iload hx hb dX4_peak_79 (lv_at hl 4 rfl) ?_
    exact zx_iret hF hr hw h dX4_peak_81 ⟨Nat.le_of_ble_eq_true rfl, Nat.le_of_ble_eq_true rfl⟩
  · refine lv_aload_n hx hb dX4_peak_36 rfl (lv_at hl 0 rfl) ?_
    refine zr_get hF hw zEf_0_0 (by decide) zC_0 3 (by decide) qw_126 rfl dX4_peak_37 ?_
    refine lv_iload hx hb dX4_peak_40 (lv_at hl 5 rfl) ?_
    refine lv_iload_n hx hb dX4_peak_42 rfl (lv_at hl 2 rfl) ?_
    obtain ⟨r1, g1, h1, h⟩ := zbd_some h
    refine zr_callVi (n := 2) (As := [z_v x6, z_v x3]) (rest := []) hF hw (czX2_countAheadOf l X N zEf_3_2 h1) zEf_3_2 (by decide) zC_3 (z_goodV qw_742 qw_743 qw_744 qw_20 qw_745) (by decide +kernel) ⟨Nat.le_of_ble_eq_true rfl, Nat.le_of_ble_eq_true rfl⟩ ⟨rfl, rfl⟩ rfl hl.1 rfl (Nat.le_of_ble_eq_true rfl) dX4_peak_43 ⟨Nat.le_of_ble_eq_true rfl, Nat.le_of_ble_eq_true rfl⟩ (fun H locs hw => ?_)
    clear h1
    generalize g1 = g at *
    refine lv_istore_n (lv' := [(3, z_v r1), (0, z_r N 0 0), (2, z_v x2), (4, z_v x4), (5, z_v x5), (6, z_v x6)]) hx hb dX4_peak_46 rfl hl (by decide) rfl (fun ls hl => ?_)
    refine lv_aload_n hx hb dX4_peak_47 rfl (lv_at hl 1 rfl) ?_
    refine zr_get hF hw zEf_0_0 (by decide) zC_0 3 (by decide) qw_126 rfl dX4_peak_48 ?_
    refine lv_iload hx hb dX4_peak_51 (lv_at hl 5 rfl) ?_
    refine lv_iload_n hx hb dX4_peak_53 rfl (lv_at hl 2 rfl) ?_
    refine zr_iadd hF dX4_peak_54 ?_
    refine lv_iload hx hb dX4_peak_55 (lv_at hl 3 rfl) ?_
    obtain ⟨r2, g1, h1, h⟩ := zbd_some h
    refine zr_callVi (n := 2) (As := [z_v (x6 + x2), z_v x4]) (rest := []) hF hw (czX2_countAheadOf l X N zEf_3_2 h1) zEf_3_2 (by decide) zC_3 (z_goodV qw_742 qw_743 qw_744 qw_20 qw_745) (by decide +kernel) ⟨Nat.le_of_ble_eq_true rfl, Nat.le_of_ble_eq_true rfl⟩ ⟨rfl, rfl⟩ rfl hl.1 rfl (Nat.le_of_ble_eq_true rfl) dX4_peak_57 ⟨Nat.le_of_ble_eq_true rfl, Nat.le_of_ble_eq_true rfl⟩ (fun H locs hw => ?_)
    clear h1
    generalize g1 = g at *
    refine lv_istore (lv' := [(4, z_v r2), (3, z_v r1), (0, z_r N 0 0), (2, z_v x2), (5, z_v x5), (6, z_v x6)]) hx hb dX4_peak_60 hl (by decide) rfl (fun ls hl => ?_)
    refine lv_iload hx hb dX4_peak_62 (lv_at hl 4 rfl) ?_
    refine lv_iload hx hb dX4_peak_64 (lv_at hl 0 rfl) ?_
    refine lv_iload_n hx hb dX4_peak_66 rfl (lv_at hl 1 rfl) ?_
    refine zr_isub hF dX4_peak_67 ?_
    refine zr_max hF hl.1 qw_277 h dX4_peak_68 ⟨Nat.le_of_ble_eq_true rfl, Nat.le_of_ble_eq_true rfl⟩ (Nat.le_of_ble_eq_true rfl) ⟨Nat.le_of_ble_eq_true rfl, Nat.le_of_ble_eq_true rfl⟩ (fun h => ?_)
    refine zr_let h (fun v3 h => ?_)
    refine lv_istore (lv' := [(5, z_v v3), (4, z_v r2), (3, z_v r1), (0, z_r N 0 0), (2, z_v x2), (6, z_v x6)]) hx hb dX4_peak_71 hl (by decide) rfl (fun ls hl => ?_)
    refine zr_iinc hF (lv' := fun v4 => [(6, z_v v4), (5, z_v v3), (4, z_v r2), (3, z_v r1), (0, z_r N 0 0), (2, z_v x2)]) h dX4_peak_73 hl (k := 5) rfl (by decide) (fun _ => rfl) (fun v4 ls hl h => ?_)
    refine lv_goto (tgt := 28) hx hb dX4_peak_76 (by decide) ?_
    exact hK0 x2 r1 r2 v3 v4 _ _ _ _  hw (lv_sub hl [4, 5, 3, 2, 1, 0] rfl) h
set_option maxHeartbeats 4000000 in
set_option maxRecDepth 100000 in
theorem wX4_peak_run {p : Program} {l : Launch} {e : Env} {s : State} {m : MethodId} {args : Array Value} {below : List Frame} {meth : Method} {c : Code} {X : zC} {N : zN} {o : Nat × Int} {g' : zG} (hF : zF p s m args meth c X cX4_peak 7 RX4) (hT : l.stackTraces = false) (hnt : ∀ x ∈ c.exceptionTable.toList, False) (hr : meth.sig.returnType = (some .int)) {n0 : Nat} : ∀ n : Nat, (∀ (x2 : Int) (x3 : Int) (x4 : Int) (x5 : Int) (x6 : Int) (g : zG) (H : Heap) (locs : List Loc) (ls : Array Slot), zH X N g s H locs → lv_has ls 7 [(0, z_r N 0 0), (2, z_v x2), (3, z_v x3), (4, z_v x4), (5, z_v x5), (6, z_v x6)] → sX4_peak_run n0 n 0 x2 x3 x4 x5 x6 g = some (o, g') → W p l e { frames := 7, cells := 2, slots := 12, locals := 112 } s m args below meth c H locs 2 12 (vx_MQ below (zYi X N o g') (zXC X N o g') args s 2 12 (zA X)) (F0 m 28 ls [])) := by
  intro n
  induction n with
  | zero => exact fun _ _ _ _ _ _ _ _ _ _ _  h => (by cases h)
  | succ n ih => exact fun x2 x3 x4 x5 x6 g H locs ls  hw hl h => wX4_peak_h28 hF hT hnt hr ih  hw hl h
set_option maxHeartbeats 4000000 in
set_option maxRecDepth 100000 in
theorem czX4_peak (l : Launch) (hT : l.stackTraces = false) (X : zC) (N : zN) {n : Nat} {x1 : Int} {x2 : Int} {g g' : zG} {o : Nat × Int} (h : sX4_peak n x1 x2 g = some (o, g')) : zXM l yX4_peak cX4_peak 7 (some .int) { frames := 7, cells := 2, slots := 12, locals := 112 } X N g [z_r N 0 0, z_v x1, z_v x2] (zYi X N o g') o g' := by
  refine z_xofW (own := RX4) (by decide +kernel) rfl (Nat.le_of_ble_eq_true rfl) ?_
  intro p e s m args below meth c ls hF hr hnt hw hl
  have hl : lv_has ls 7 [(0, z_r N 0 0), (1, z_v x1), (2, z_v x2)] := hl
  have hx := hF.1.1
  have hb := hF.1.2.1
  have hKK := wX4_peak_run hF hT hnt hr (o := o) (g' := g') (X := X) (N := N) (n0 := n) (l := l) (e := e) (below := below) n
  have hK0 := hKK
  unfold sX4_peak at h
  generalize s.heap = H at hw ⊢
  generalize ([] : List Loc) = locs at hw ⊢
  refine lv_iload_n hx hb dX4_peak_0 rfl (lv_at hl 1 rfl) ?_
  obtain ⟨o1, g1, h1, h⟩ := zbx_some h
  refine zx_callSv (n := 1) (As := [z_v x1]) (rest := []) hF hnt hw (czX4_checkSector l hT X N h1) h (z_goodS qw_140 qw_141 qw_15 qw_142) (by decide +kernel) ⟨Nat.le_of_ble_eq_true rfl, Nat.le_of_ble_eq_true rfl⟩ rfl hl.1 rfl (Nat.le_of_ble_eq_true rfl) dX4_peak_1 ⟨Nat.le_of_ble_eq_true rfl, Nat.le_of_ble_eq_true rfl⟩ ⟨Nat.le_of_ble_eq_true rfl, Nat.le_of_ble_eq_true rfl⟩ (fun H locs hw h => ?_)
  clear h1
  generalize g1 = g at *
  generalize o1.2 = r1 at *
  refine lv_iload_n hx hb dX4_peak_4 rfl (lv_at hl 2 rfl) ?_
  refine lv_iconst hx hb dX4_peak_5 rfl ?_
  refine lv_sipush (v := Int32.ofInt (240)) hx hb dX4_peak_6 (by decide) ?_
  obtain ⟨o1, g1, h1, h⟩ := zbx_some h
  refine zx_callSv (n := 3) (As := [z_v x2, z_v 1, z_v 240]) (rest := []) hF hnt hw (czX4_checkRange l hT X N h1) h (z_goodS qw_211 qw_212 qw_15 qw_213) (by decide +kernel) ⟨Nat.le_of_ble_eq_true rfl, Nat.le_of_ble_eq_true rfl⟩ rfl hl.1 rfl (Nat.le_of_ble_eq_true rfl) dX4_peak_9 ⟨Nat.le_of_ble_eq_true rfl, Nat.le_of_ble_eq_true rfl⟩ ⟨Nat.le_of_ble_eq_true rfl, Nat.le_of_ble_eq_true rfl⟩ (fun H locs hw h => ?_)
  clear h1
  generalize g1 = g at *
  generalize o1.2 = r3 at *
  refine lv_aload_n hx hb dX4_peak_12 rfl (lv_at hl 0 rfl) ?_
  refine lv_iload_n hx hb dX4_peak_13 rfl (lv_at hl 1 rfl) ?_
  obtain ⟨r5, g1, h1, h⟩ := zbd_some h
  refine zr_callVv (n := 1) (As := [z_v x1]) (rest := []) hF hw (czX4_lineUpEntering l X N h1) zEf_0_0 (by decide) zC_0 (z_goodV qw_736 qw_738 qw_13 qw_15 qw_739) (by decide +kernel) ⟨Nat.le_of_ble_eq_true rfl, Nat.le_of_ble_eq_true rfl⟩ ⟨rfl, rfl⟩ rfl hl.1 rfl (Nat.le_of_ble_eq_true rfl) dX4_peak_14 ⟨Nat.le_of_ble_eq_true rfl, Nat.le_of_ble_eq_true rfl⟩ (fun H locs hw => ?_)
  clear h1
  generalize g1 = g at *
  refine lv_iconst hx hb dX4_peak_17 rfl ?_
  refine lv_istore_n (lv' := [(3, z_v 0), (0, z_r N 0 0), (1, z_v x1), (2, z_v x2)]) hx hb dX4_peak_18 rfl hl (by decide) rfl (fun ls hl => ?_)
  refine lv_iconst hx hb dX4_peak_19 rfl ?_
  refine lv_istore (lv' := [(4, z_v 0), (3, z_v 0), (0, z_r N 0 0), (1, z_v x1), (2, z_v x2)]) hx hb dX4_peak_20 hl (by decide) rfl (fun ls hl => ?_)
  refine lv_iconst hx hb dX4_peak_22 rfl ?_
  refine lv_istore (lv' := [(5, z_v 0), (4, z_v 0), (3, z_v 0), (0, z_r N 0 0), (1, z_v x1), (2, z_v x2)]) hx hb dX4_peak_23 hl (by decide) rfl (fun ls hl => ?_)
  refine lv_iconst hx hb dX4_peak_25 rfl ?_
  refine lv_istore (lv' := [(6, z_v 0), (5, z_v 0), (4, z_v 0), (3, z_v 0), (0, z_r N 0 0), (1, z_v x1), (2, z_v x2)]) hx hb dX4_peak_26 hl (by decide) rfl (fun ls hl => ?_)
  exact hK0 x2 0 0 0 0 _ _ _ _  hw (lv_sub hl [4, 6, 3, 2, 1, 0] rfl) h
set_option maxHeartbeats 4000000 in
set_option maxRecDepth 100000 in
theorem wX4_peakAnew_h17 {p : Program} {l : Launch} {e : Env} {s : State} {m : MethodId} {args : Array Value} {below : List Frame} {meth : Method} {c : Code} {X : zC} {N : zN} {o : Nat × Int} {g' : zG} {H : Heap} {locs : List Loc} {ls : Array Slot} (hF : zF p s m args meth c X cX4_peakAnew 6 RX4) (hT : l.stackTraces = false) (hnt : ∀ x ∈ c.exceptionTable.toList, False) (hr : meth.sig.returnType = (some .int)) {n : Nat} {K : Nat → Int → Int → Int → Int → zG → Option ((Nat × Int) × zG)} (hK0 : ∀ (x1 : Int) (x2 : Int) (x3 : Int) (x4 : Int) (g : zG) (H : Heap) (locs : List Loc) (ls : Array Slot), zH X N g s H locs → lv_has ls 6 [(0, z_r N 0 0), (1, z_v x1), (2, z_v x2), (3, z_v x3), (4, z_v x4)] → K 0 x1 x2 x3 x4 g = some (o, g') → W p l e { frames := 7, cells := 2, slots := 12, locals := 112 } s m args below meth c H locs 2 12 (vx_MQ below (zYi X N o g') (zXC X N o g') args s 2 12 (zA X)) (F0 m 17 ls [])) {x1 : Int} {x2 : Int} {x3 : Int} {x4 : Int} {g : zG} (hw : zH X N g s H locs) (hl : lv_has ls 6 [(0, z_r N 0 0), (1, z_v x1), (2, z_v x2), (3, z_v x3), (4, z_v x4)]) (h : sX4_peakAnew_h17 n K x1 x2 x3 x4 g = some (o, g')) : W p l e { frames := 7, cells := 2, slots := 12, locals := 112 } s m args below meth c H locs 2 12 (vx_MQ below (zYi X N o g') (zXC X N o g') args s 2 12 (zA X)) (F0 m 17 ls []) := by
  have hx := hF.1.1
  have hb := hF.1.2.1
  unfold sX4_peakAnew_h17 at h
  refine lv_iload hx hb dX4_peakAnew_17 (lv_at hl 4 rfl) ?_
  refine lv_aload_n hx hb dX4_peakAnew_19 rfl (lv_at hl 0 rfl) ?_
  refine zr_get hF hw zEf_0_0 (by decide) zC_0 0 (by decide) qw_123 rfl dX4_peakAnew_20 ?_
  refine zr_size hF hw hl.1 (i := 0) zEf_1_0 qw_234 (Nat.le_of_ble_eq_true rfl) dX4_peakAnew_23 ⟨Nat.le_of_ble_eq_true rfl, Nat.le_of_ble_eq_true rfl⟩ ⟨Nat.le_of_ble_eq_true rfl, Nat.le_of_ble_eq_true rfl⟩ (fun H locs hw => ?_)
  refine zr_icmp_ge (tgt := 75) hF h dX4_peakAnew_26 (by decide) (fun h => ?_) (fun h => ?_)
  · refine lv_iload_n hx hb dX4_peakAnew_75 rfl (lv_at hl 3 rfl) ?_
    exact zx_iret hF hr hw h dX4_peakAnew_76 ⟨Nat.le_of_ble_eq_true rfl, Nat.le_of_ble_eq_true rfl⟩
  · refine lv_aload_n hx hb dX4_peakAnew_29 rfl (lv_at hl 0 rfl) ?_
    refine zr_get hF hw zEf_0_0 (by decide) zC_0 0 (by decide) qw_123 rfl dX4_peakAnew_30 ?_
    refine lv_iload hx hb dX4_peakAnew_33 (lv_at hl 4 rfl) ?_
    refine zr_lget0 hF hw hl.1 qw_238 h (Nat.le_of_ble_eq_true rfl) dX4_peakAnew_35 ⟨Nat.le_of_ble_eq_true rfl, Nat.le_of_ble_eq_true rfl⟩ ⟨Nat.le_of_ble_eq_true rfl, Nat.le_of_ble_eq_true rfl⟩ (fun H locs hw hf1 h => ?_)
    refine zr_cast hF hw hf1 (by decide) zC_4 qw_252 dX4_peakAnew_38 ?_
    refine lv_astore (lv' := [(5, z_r N 4 ((x4).toNat)), (0, z_r N 0 0), (1, z_v x1), (2, z_v x2), (3, z_v x3), (4, z_v x4)]) hx hb dX4_peakAnew_41 hl (by decide) rfl (fun ls hl => ?_)
    refine lv_aload hx hb dX4_peakAnew_43 (lv_at hl 0 rfl) ?_
    refine lv_iload_n hx hb dX4_peakAnew_45 rfl (lv_at hl 2 rfl) ?_
    obtain ⟨r2, g1, h1, h⟩ := zbd_some h
    refine zr_callVi (n := 1) (As := [z_v x1]) (rest := []) hF hw (czX1_loads l X N hf1 h1) hf1 (by decide) zC_4 (z_goodV qw_265 qw_266 qw_267 qw_30 qw_268) (by decide +kernel) ⟨Nat.le_of_ble_eq_true rfl, Nat.le_of_ble_eq_true rfl⟩ ⟨rfl, rfl⟩ rfl hl.1 rfl (Nat.le_of_ble_eq_true rfl) dX4_peakAnew_46 ⟨Nat.le_of_ble_eq_true rfl, Nat.le_of_ble_eq_true rfl⟩ (fun H locs hw => ?_)
    clear h1
    generalize g1 = g at *
    refine zr_if_eq (tgt := 69) hF h dX4_peakAnew_49 (by decide) (fun h => ?_) (fun h => ?_)
    · refine zr_iinc hF (lv' := fun v3 => [(4, z_v v3), (5, z_r N 4 ((x4).toNat)), (0, z_r N 0 0), (1, z_v x1), (2, z_v x2), (3, z_v x3)]) h dX4_peakAnew_69 hl (k := 5) rfl (by decide) (fun _ => rfl) (fun v3 ls hl h => ?_)
      refine lv_goto (tgt := 17) hx hb dX4_peakAnew_72 (by decide) ?_
      exact hK0 x1 x2 x3 v3 _ _ _ _  hw (lv_sub hl [2, 3, 4, 5, 0] rfl) h
    · refine lv_iload_n hx hb dX4_peakAnew_52 rfl (lv_at hl 4 rfl) ?_
      refine lv_aload_n hx hb dX4_peakAnew_53 rfl (lv_at hl 1 rfl) ?_
      refine lv_iload_n hx hb dX4_peakAnew_54 rfl (lv_at hl 2 rfl) ?_
      refine lv_aload hx hb dX4_peakAnew_55 (lv_at hl 0 rfl) ?_
      refine lv_iload_n hx hb dX4_peakAnew_57 rfl (lv_at hl 2 rfl) ?_
      obtain ⟨r4, g1, h1, h⟩ := zbd_some h
      refine zr_callVi (n := 1) (As := [z_v x1]) (rest := [z_v x1, z_r N 0 0, z_v x3]) hF hw (czX1_timeOver l X N hf1 h1) hf1 (by decide) zC_4 (z_goodV qw_253 qw_254 qw_255 qw_30 qw_256) (by decide +kernel) ⟨Nat.le_of_ble_eq_true rfl, Nat.le_of_ble_eq_true rfl⟩ ⟨rfl, rfl⟩ rfl hl.1 rfl (Nat.le_of_ble_eq_true rfl) dX4_peakAnew_58 ⟨Nat.le_of_ble_eq_true rfl, Nat.le_of_ble_eq_true rfl⟩ (fun H locs hw => ?_)
      clear h1
      generalize g1 = g at *
      refine lv_iload_n hx hb dX4_peakAnew_61 rfl (lv_at hl 3 rfl) ?_
      obtain ⟨r5, g1, h1, h⟩ := zbd_some h
      refine zr_callVi (n := 3) (As := [z_v x1, z_v r4, z_v x2]) (rest := [z_v x3]) hF hw (czX4_loadOf l X N h1) zEf_0_0 (by decide) zC_0 (z_goodV qw_230 qw_232 qw_1 qw_15 qw_233) (by decide +kernel) ⟨Nat.le_of_ble_eq_true rfl, Nat.le_of_ble_eq_true rfl⟩ ⟨rfl, rfl⟩ rfl hl.1 rfl (Nat.le_of_ble_eq_true rfl) dX4_peakAnew_62 ⟨Nat.le_of_ble_eq_true rfl, Nat.le_of_ble_eq_true rfl⟩ (fun H locs hw => ?_)
      clear h1
      generalize g1 = g at *
      refine zr_max hF hl.1 qw_277 h dX4_peakAnew_65 ⟨Nat.le_of_ble_eq_true rfl, Nat.le_of_ble_eq_true rfl⟩ (Nat.le_of_ble_eq_true rfl) ⟨Nat.le_of_ble_eq_true rfl, Nat.le_of_ble_eq_true rfl⟩ (fun h => ?_)
      refine zr_let h (fun v6 h => ?_)
      refine lv_istore_n (lv' := [(3, z_v v6), (5, z_r N 4 ((x4).toNat)), (0, z_r N 0 0), (1, z_v x1), (2, z_v x2), (4, z_v x4)]) hx hb dX4_peakAnew_68 rfl hl (by decide) rfl (fun ls hl => ?_)
      refine zr_iinc hF (lv' := fun v7 => [(4, z_v v7), (3, z_v v6), (5, z_r N 4 ((x4).toNat)), (0, z_r N 0 0), (1, z_v x1), (2, z_v x2)]) h dX4_peakAnew_69 hl (k := 5) rfl (by decide) (fun _ => rfl) (fun v7 ls hl h => ?_)
      refine lv_goto (tgt := 17) hx hb dX4_peakAnew_72 (by decide) ?_
      exact hK0 x1 x2 v6 v7 _ _ _ _  hw (lv_sub hl [3, 4, 5, 1, 0] rfl) h
set_option maxHeartbeats 4000000 in
set_option maxRecDepth 100000 in
theorem wX4_peakAnew_run {p : Program} {l : Launch} {e : Env} {s : State} {m : MethodId} {args : Array Value} {below : List Frame} {meth : Method} {c : Code} {X : zC} {N : zN} {o : Nat × Int} {g' : zG} (hF : zF p s m args meth c X cX4_peakAnew 6 RX4) (hT : l.stackTraces = false) (hnt : ∀ x ∈ c.exceptionTable.toList, False) (hr : meth.sig.returnType = (some .int)) {n0 : Nat} : ∀ n : Nat, (∀ (x1 : Int) (x2 : Int) (x3 : Int) (x4 : Int) (g : zG) (H : Heap) (locs : List Loc) (ls : Array Slot), zH X N g s H locs → lv_has ls 6 [(0, z_r N 0 0), (1, z_v x1), (2, z_v x2), (3, z_v x3), (4, z_v x4)] → sX4_peakAnew_run n0 n 0 x1 x2 x3 x4 g = some (o, g') → W p l e { frames := 7, cells := 2, slots := 12, locals := 112 } s m args below meth c H locs 2 12 (vx_MQ below (zYi X N o g') (zXC X N o g') args s 2 12 (zA X)) (F0 m 17 ls [])) := by
  intro n
  induction n with
  | zero => exact fun _ _ _ _ _ _ _ _ _ _  h => (by cases h)
  | succ n ih => exact fun x1 x2 x3 x4 g H locs ls  hw hl h => wX4_peakAnew_h17 hF hT hnt hr ih  hw hl h
set_option maxHeartbeats 4000000 in
set_option maxRecDepth 100000 in
theorem czX4_peakAnew (l : Launch) (hT : l.stackTraces = false) (X : zC) (N : zN) {n : Nat} {x1 : Int} {x2 : Int} {g g' : zG} {o : Nat × Int} (h : sX4_peakAnew n x1 x2 g = some (o, g')) : zXM l yX4_peakAnew cX4_peakAnew 6 (some .int) { frames := 7, cells := 2, slots := 12, locals := 112 } X N g [z_r N 0 0, z_v x1, z_v x2] (zYi X N o g') o g' := by
  refine z_xofW (own := RX4) (by decide +kernel) rfl (Nat.le_of_ble_eq_true rfl) ?_
  intro p e s m args below meth c ls hF hr hnt hw hl
  have hl : lv_has ls 6 [(0, z_r N 0 0), (1, z_v x1), (2, z_v x2)] := hl
  have hx := hF.1.1
  have hb := hF.1.2.1
  have hKK := wX4_peakAnew_run hF hT hnt hr (o := o) (g' := g') (X := X) (N := N) (n0 := n) (l := l) (e := e) (below := below) n
  have hK0 := hKK
  unfold sX4_peakAnew at h
  generalize s.heap = H at hw ⊢
  generalize ([] : List Loc) = locs at hw ⊢
  refine lv_iload_n hx hb dX4_peakAnew_0 rfl (lv_at hl 1 rfl) ?_
  obtain ⟨o1, g1, h1, h⟩ := zbx_some h
  refine zx_callSv (n := 1) (As := [z_v x1]) (rest := []) hF hnt hw (czX4_checkSector l hT X N h1) h (z_goodS qw_140 qw_141 qw_15 qw_142) (by decide +kernel) ⟨Nat.le_of_ble_eq_true rfl, Nat.le_of_ble_eq_true rfl⟩ rfl hl.1 rfl (Nat.le_of_ble_eq_true rfl) dX4_peakAnew_1 ⟨Nat.le_of_ble_eq_true rfl, Nat.le_of_ble_eq_true rfl⟩ ⟨Nat.le_of_ble_eq_true rfl, Nat.le_of_ble_eq_true rfl⟩ (fun H locs hw h => ?_)
  clear h1
  generalize g1 = g at *
  generalize o1.2 = r1 at *
  refine lv_iload_n hx hb dX4_peakAnew_4 rfl (lv_at hl 2 rfl) ?_
  refine lv_iconst hx hb dX4_peakAnew_5 rfl ?_
  refine lv_sipush (v := Int32.ofInt (240)) hx hb dX4_peakAnew_6 (by decide) ?_
  obtain ⟨o1, g1, h1, h⟩ := zbx_some h
  refine zx_callSv (n := 3) (As := [z_v x2, z_v 1, z_v 240]) (rest := []) hF hnt hw (czX4_checkRange l hT X N h1) h (z_goodS qw_211 qw_212 qw_15 qw_213) (by decide +kernel) ⟨Nat.le_of_ble_eq_true rfl, Nat.le_of_ble_eq_true rfl⟩ rfl hl.1 rfl (Nat.le_of_ble_eq_true rfl) dX4_peakAnew_9 ⟨Nat.le_of_ble_eq_true rfl, Nat.le_of_ble_eq_true rfl⟩ ⟨Nat.le_of_ble_eq_true rfl, Nat.le_of_ble_eq_true rfl⟩ (fun H locs hw h => ?_)
  clear h1
  generalize g1 = g at *
  generalize o1.2 = r3 at *
  refine lv_iconst hx hb dX4_peakAnew_12 rfl ?_
  refine lv_istore_n (lv' := [(3, z_v 0), (0, z_r N 0 0), (1, z_v x1), (2, z_v x2)]) hx hb dX4_peakAnew_13 rfl hl (by decide) rfl (fun ls hl => ?_)
  refine lv_iconst hx hb dX4_peakAnew_14 rfl ?_
  refine lv_istore (lv' := [(4, z_v 0), (3, z_v 0), (0, z_r N 0 0), (1, z_v x1), (2, z_v x2)]) hx hb dX4_peakAnew_15 hl (by decide) rfl (fun ls hl => ?_)
  exact hK0 x1 x2 0 0 _ _ _ _  hw (lv_sub hl [2, 3, 4, 1, 0] rfl) h
set_option maxHeartbeats 4000000 in
set_option maxRecDepth 100000 in
theorem wX4_regulationAt_j15 {p : Program} {l : Launch} {e : Env} {s : State} {m : MethodId} {args : Array Value} {below : List Frame} {meth : Method} {c : Code} {X : zC} {N : zN} {o : Nat × Int} {g' : zG} {H : Heap} {locs : List Loc} {ls : Array Slot} (hF : zF p s m args meth c X cX4_regulationAt 2 RX4) (hT : l.stackTraces = false) (hnt : ∀ x ∈ c.exceptionTable.toList, False) (hr : meth.sig.returnType = (some (.object "SkyloadBureau$Regulation"))) {g : zG} (hw : zH X N g s H locs) (hl : lv_has ls 2 []) (h : sX4_regulationAt_j15 g = some (o, g')) : W p l e { frames := 6, cells := 1, slots := 6, locals := 90 } s m args below meth c H locs 0 0 (vx_MQ below (zYr X N 5 o g') (zXC X N o g') args s 1 6 (zA X)) (F0 m 15 ls []) := by
  have hx := hF.1.1
  have hb := hF.1.2.1
  unfold sX4_regulationAt_j15 at h
  exact zx_throw hF hT hnt hw hl.1 1 (by decide) rfl (List.mem_of_getElem? (i := 0) rfl) qw_143 qw_27 (by decide +kernel) zT_1 zTb_1 zTg_1 (text := "no such regulation") (by decide +kernel) h dX4_regulationAt_15 dX4_regulationAt_18 dX4_regulationAt_19 dX4_regulationAt_21 dX4_regulationAt_24 (Nat.le_of_ble_eq_true rfl) (Nat.le_of_ble_eq_true rfl) (Nat.le_of_ble_eq_true rfl) (Nat.le_of_ble_eq_true rfl) (Nat.le_of_ble_eq_true rfl) (Nat.le_of_ble_eq_true rfl)
set_option maxHeartbeats 4000000 in
set_option maxRecDepth 100000 in
theorem czX4_regulationAt (l : Launch) (hT : l.stackTraces = false) (X : zC) (N : zN) {x1 : Int} {g g' : zG} {o : Nat × Int} (h : sX4_regulationAt x1 g = some (o, g')) : zXM l yX4_regulationAt cX4_regulationAt 2 (some (.object "SkyloadBureau$Regulation")) { frames := 6, cells := 1, slots := 6, locals := 90 } X N g [z_r N 0 0, z_v x1] (zYr X N 5 o g') o g' := by
  refine z_xofW (own := RX4) (by decide +kernel) rfl (Nat.le_of_ble_eq_true rfl) ?_
  intro p e s m args below meth c ls hF hr hnt hw hl
  have hl : lv_has ls 2 [(0, z_r N 0 0), (1, z_v x1)] := hl
  have hx := hF.1.1
  have hb := hF.1.2.1
  unfold sX4_regulationAt at h
  generalize s.heap = H at hw ⊢
  generalize ([] : List Loc) = locs at hw ⊢
  refine lv_iload_n hx hb dX4_regulationAt_0 rfl (lv_at hl 1 rfl) ?_
  refine zr_if_lt (tgt := 15) hF h dX4_regulationAt_1 (by decide) (fun h => ?_) (fun h => ?_)
  · exact wX4_regulationAt_j15 hF hT hnt hr  hw (lv_sub hl [] rfl) h
  · refine lv_iload_n hx hb dX4_regulationAt_4 rfl (lv_at hl 1 rfl) ?_
    refine lv_aload_n hx hb dX4_regulationAt_5 rfl (lv_at hl 0 rfl) ?_
    refine zr_get hF hw zEf_0_0 (by decide) zC_0 1 (by decide) qw_124 rfl dX4_regulationAt_6 ?_
    refine zr_size hF hw hl.1 (i := 1) zEf_1_1 qw_234 (Nat.le_of_ble_eq_true rfl) dX4_regulationAt_9 ⟨Nat.le_of_ble_eq_true rfl, Nat.le_of_ble_eq_true rfl⟩ ⟨Nat.le_of_ble_eq_true rfl, Nat.le_of_ble_eq_true rfl⟩ (fun H locs hw => ?_)
    refine zr_icmp_lt (tgt := 25) hF h dX4_regulationAt_12 (by decide) (fun h => ?_) (fun h => ?_)
    · refine lv_aload_n hx hb dX4_regulationAt_25 rfl (lv_at hl 0 rfl) ?_
      refine zr_get hF hw zEf_0_0 (by decide) zC_0 1 (by decide) qw_124 rfl dX4_regulationAt_26 ?_
      refine lv_iload_n hx hb dX4_regulationAt_29 rfl (lv_at hl 1 rfl) ?_
      refine zr_lget1 hF hw hl.1 qw_238 h (Nat.le_of_ble_eq_true rfl) dX4_regulationAt_30 ⟨Nat.le_of_ble_eq_true rfl, Nat.le_of_ble_eq_true rfl⟩ ⟨Nat.le_of_ble_eq_true rfl, Nat.le_of_ble_eq_true rfl⟩ (fun H locs hw hf1 h => ?_)
      refine zr_cast hF hw hf1 (by decide) zC_5 qw_292 dX4_regulationAt_33 ?_
      exact zx_aret hF hr hw hf1 h (Or.inl ⟨_, rfl⟩) dX4_regulationAt_36 ⟨Nat.le_of_ble_eq_true rfl, Nat.le_of_ble_eq_true rfl⟩
    · exact wX4_regulationAt_j15 hF hT hnt hr  hw (lv_sub hl [] rfl) h
set_option maxHeartbeats 4000000 in
set_option maxRecDepth 100000 in
theorem czX4_checkNotEnded (l : Launch) (hT : l.stackTraces = false) (X : zC) (N : zN) {i0 : Nat} {g g' : zG} {o : Nat × Int} (he0 : zE N 5 i0) (h : sX4_checkNotEnded i0 g = some (o, g')) : zXM l yX4_checkNotEnded cX4_checkNotEnded 1 none { frames := 6, cells := 1, slots := 6, locals := 90 } X N g [z_r N 5 i0] (zYv X N o g') o g' := by
  refine z_xofW (own := RX4) (by decide +kernel) rfl (Nat.le_of_ble_eq_true rfl) ?_
  intro p e s m args below meth c ls hF hr hnt hw hl
  have hl : lv_has ls 1 [(0, z_r N 5 i0)] := hl
  have hx := hF.1.1
  have hb := hF.1.2.1
  unfold sX4_checkNotEnded at h
  generalize s.heap = H at hw ⊢
  generalize ([] : List Loc) = locs at hw ⊢
  refine lv_aload_n hx hb dX4_checkNotEnded_0 rfl (lv_at hl 0 rfl) ?_
  refine zr_get hF hw he0 (by decide) zC_5 4 (by decide) qw_606 rfl dX4_checkNotEnded_1 ?_
  refine zr_if_eq (tgt := 18) hF h dX4_checkNotEnded_4 (by decide) (fun h => ?_) (fun h => ?_)
  · exact zx_vret hF hr hw h dX4_checkNotEnded_18 ⟨Nat.le_of_ble_eq_true rfl, Nat.le_of_ble_eq_true rfl⟩
  · exact zx_throwW hF hT hnt hw hl.1 3 (by decide) rfl (List.mem_of_getElem? (i := 2) rfl) qw_440 qw_29 (by decide +kernel) zT_3 zTb_3 zTg_3 (text := "the regulation is ended") (by decide +kernel) h dX4_checkNotEnded_7 dX4_checkNotEnded_10 dX4_checkNotEnded_11 dX4_checkNotEnded_14 dX4_checkNotEnded_17 (Nat.le_of_ble_eq_true rfl) (Nat.le_of_ble_eq_true rfl) (Nat.le_of_ble_eq_true rfl) (Nat.le_of_ble_eq_true rfl) (Nat.le_of_ble_eq_true rfl) (Nat.le_of_ble_eq_true rfl)
set_option maxHeartbeats 4000000 in
set_option maxRecDepth 100000 in
theorem czX4_rate (l : Launch) (hT : l.stackTraces = false) (X : zC) (N : zN) {x1 : Int} {x2 : Int} {g g' : zG} {o : Nat × Int} (h : sX4_rate x1 x2 g = some (o, g')) : zXM l yX4_rate cX4_rate 5 (some .int) { frames := 7, cells := 3, slots := 18, locals := 112 } X N g [z_r N 0 0, z_v x1, z_v x2] (zYi X N o g') o g' := by
  refine z_xofW (own := RX4) (by decide +kernel) rfl (Nat.le_of_ble_eq_true rfl) ?_
  intro p e s m args below meth c ls hF hr hnt hw hl
  have hl : lv_has ls 5 [(0, z_r N 0 0), (1, z_v x1), (2, z_v x2)] := hl
  have hx := hF.1.1
  have hb := hF.1.2.1
  unfold sX4_rate at h
  generalize s.heap = H at hw ⊢
  generalize ([] : List Loc) = locs at hw ⊢
  refine lv_aload_n hx hb dX4_rate_0 rfl (lv_at hl 0 rfl) ?_
  refine lv_iload_n hx hb dX4_rate_1 rfl (lv_at hl 1 rfl) ?_
  obtain ⟨o1, g1, h1, h⟩ := zbx_some h
  refine zx_callVr (n := 1) (As := [z_v x1]) (rest := []) hF hnt hw (czX4_regulationAt l hT X N h1) h zEf_0_0 (by decide) zC_0 (z_goodV qw_622 qw_624 qw_11 qw_15 qw_625) (by decide +kernel) ⟨Nat.le_of_ble_eq_true rfl, Nat.le_of_ble_eq_true rfl⟩ rfl hl.1 rfl (Nat.le_of_ble_eq_true rfl) dX4_rate_2 ⟨Nat.le_of_ble_eq_true rfl, Nat.le_of_ble_eq_true rfl⟩ ⟨Nat.le_of_ble_eq_true rfl, Nat.le_of_ble_eq_true rfl⟩ (fun H locs hw hf2 h => ?_)
  clear h1
  generalize g1 = g at *
  generalize o1.2 = r1 at *
  refine lv_astore_n (lv' := [(3, z_r N 5 ((r1).toNat)), (0, z_r N 0 0), (1, z_v x1), (2, z_v x2)]) hx hb dX4_rate_5 rfl hl (by decide) rfl (fun ls hl => ?_)
  refine lv_iload_n hx hb dX4_rate_6 rfl (lv_at hl 3 rfl) ?_
  refine lv_iconst hx hb dX4_rate_7 rfl ?_
  refine lv_bipush (v := Int32.ofInt (60)) hx hb dX4_rate_8 (by decide) ?_
  obtain ⟨o1, g1, h1, h⟩ := zbx_some h
  refine zx_callSv (n := 3) (As := [z_v x2, z_v 0, z_v 60]) (rest := []) hF hnt hw (czX4_checkRange l hT X N h1) h (z_goodS qw_211 qw_212 qw_15 qw_213) (by decide +kernel) ⟨Nat.le_of_ble_eq_true rfl, Nat.le_of_ble_eq_true rfl⟩ rfl hl.1 rfl (Nat.le_of_ble_eq_true rfl) dX4_rate_10 ⟨Nat.le_of_ble_eq_true rfl, Nat.le_of_ble_eq_true rfl⟩ ⟨Nat.le_of_ble_eq_true rfl, Nat.le_of_ble_eq_true rfl⟩ (fun H locs hw h => ?_)
  clear h1
  generalize g1 = g at *
  generalize o1.2 = r3 at *
  refine lv_aload_n hx hb dX4_rate_13 rfl (lv_at hl 0 rfl) ?_
  obtain ⟨o1, g1, h1, h⟩ := zbx_some h
  refine zx_callSv (n := 1) (As := [z_r N 5 ((r1).toNat)]) (rest := []) hF hnt hw (czX4_checkNotEnded l hT X N hf2 h1) h (z_goodS qw_627 qw_628 qw_15 qw_629) (by decide +kernel) ⟨Nat.le_of_ble_eq_true rfl, Nat.le_of_ble_eq_true rfl⟩ rfl hl.1 rfl (Nat.le_of_ble_eq_true rfl) dX4_rate_14 ⟨Nat.le_of_ble_eq_true rfl, Nat.le_of_ble_eq_true rfl⟩ ⟨Nat.le_of_ble_eq_true rfl, Nat.le_of_ble_eq_true rfl⟩ (fun H locs hw h => ?_)
  clear h1
  generalize g1 = g at *
  generalize o1.2 = r5 at *
  refine lv_aload_n hx hb dX4_rate_17 rfl (lv_at hl 0 rfl) ?_
  refine zr_get hF hw hf2 (by decide) zC_5 3 (by decide) qw_603 rfl dX4_rate_18 ?_
  refine zr_let h (fun v7 h => ?_)
  refine lv_istore (lv' := [(4, z_v v7), (3, z_r N 5 ((r1).toNat)), (0, z_r N 0 0), (1, z_v x1), (2, z_v x2)]) hx hb dX4_rate_21 hl (by decide) rfl (fun ls hl => ?_)
  refine lv_aload_n hx hb dX4_rate_23 rfl (lv_at hl 1 rfl) ?_
  refine lv_iload_n hx hb dX4_rate_24 rfl (lv_at hl 4 rfl) ?_
  refine zr_put hF hw hf2 (by decide) zC_5 3 (by decide) (by decide) qw_603 rfl (by decide +kernel) h dX4_rate_25 (fun g H locs hw h => ?_)
  refine lv_iload hx hb dX4_rate_28 (lv_at hl 0 rfl) ?_
  exact zx_iret hF hr hw h dX4_rate_30 ⟨Nat.le_of_ble_eq_true rfl, Nat.le_of_ble_eq_true rfl⟩
set_option maxHeartbeats 4000000 in
set_option maxRecDepth 100000 in
theorem czX4_end (l : Launch) (hT : l.stackTraces = false) (X : zC) (N : zN) {x1 : Int} {g g' : zG} {o : Nat × Int} (h : sX4_end x1 g = some (o, g')) : zXM l yX4_end cX4_end 3 none { frames := 7, cells := 2, slots := 12, locals := 111 } X N g [z_r N 0 0, z_v x1] (zYv X N o g') o g' := by
  refine z_xofW (own := RX4) (by decide +kernel) rfl (Nat.le_of_ble_eq_true rfl) ?_
  intro p e s m args below meth c ls hF hr hnt hw hl
  have hl : lv_has ls 3 [(0, z_r N 0 0), (1, z_v x1)] := hl
  have hx := hF.1.1
  have hb := hF.1.2.1
  unfold sX4_end at h
  generalize s.heap = H at hw ⊢
  generalize ([] : List Loc) = locs at hw ⊢
  refine lv_aload_n hx hb dX4_end_0 rfl (lv_at hl 0 rfl) ?_
  refine lv_iload_n hx hb dX4_end_1 rfl (lv_at hl 1 rfl) ?_
  obtain ⟨o1, g1, h1, h⟩ := zbx_some h
  refine zx_callVr (n := 1) (As := [z_v x1]) (rest := []) hF hnt hw (czX4_regulationAt l hT X N h1) h zEf_0_0 (by decide) zC_0 (z_goodV qw_622 qw_624 qw_11 qw_15 qw_625) (by decide +kernel) ⟨Nat.le_of_ble_eq_true rfl, Nat.le_of_ble_eq_true rfl⟩ rfl hl.1 rfl (Nat.le_of_ble_eq_true rfl) dX4_end_2 ⟨Nat.le_of_ble_eq_true rfl, Nat.le_of_ble_eq_true rfl⟩ ⟨Nat.le_of_ble_eq_true rfl, Nat.le_of_ble_eq_true rfl⟩ (fun H locs hw hf2 h => ?_)
  clear h1
  generalize g1 = g at *
  generalize o1.2 = r1 at *
  refine lv_astore_n (lv' := [(2, z_r N 5 ((r1).toNat)), (0, z_r N 0 0), (1, z_v x1)]) hx hb dX4_end_5 rfl hl (by decide) rfl (fun ls hl => ?_)
  refine lv_aload_n hx hb dX4_end_6 rfl (lv_at hl 0 rfl) ?_
  obtain ⟨o1, g1, h1, h⟩ := zbx_some h
  refine zx_callSv (n := 1) (As := [z_r N 5 ((r1).toNat)]) (rest := []) hF hnt hw (czX4_checkNotEnded l hT X N hf2 h1) h (z_goodS qw_627 qw_628 qw_15 qw_629) (by decide +kernel) ⟨Nat.le_of_ble_eq_true rfl, Nat.le_of_ble_eq_true rfl⟩ rfl hl.1 rfl (Nat.le_of_ble_eq_true rfl) dX4_end_7 ⟨Nat.le_of_ble_eq_true rfl, Nat.le_of_ble_eq_true rfl⟩ ⟨Nat.le_of_ble_eq_true rfl, Nat.le_of_ble_eq_true rfl⟩ (fun H locs hw h => ?_)
  clear h1
  generalize g1 = g at *
  generalize o1.2 = r3 at *
  refine lv_aload_n hx hb dX4_end_10 rfl (lv_at hl 0 rfl) ?_
  refine lv_iconst hx hb dX4_end_11 rfl ?_
  refine zr_putZ hF hw hf2 (by decide) zC_5 4 (by decide) (by decide) qw_606 rfl (by decide +kernel) h dX4_end_12 (fun g H locs hw h => ?_)
  exact zx_vret hF hr hw h dX4_end_15 ⟨Nat.le_of_ble_eq_true rfl, Nat.le_of_ble_eq_true rfl⟩
set_option maxHeartbeats 4000000 in
set_option maxRecDepth 100000 in
theorem wX4_chargedToRegulation_h4 {p : Program} {l : Launch} {e : Env} {s : State} {m : MethodId} {args : Array Value} {below : List Frame} {meth : Method} {c : Code} {X : zC} {N : zN} {r : Int} {g' : zG} {H : Heap} {locs : List Loc} {ls : Array Slot} (hF : zF p s m args meth c X cX4_chargedToRegulation 5 RX4) (hr : meth.sig.returnType = (some .int)) {n : Nat} {K : Nat → Int → Int → Int → zG → Option (Int × zG)} (hK0 : ∀ (x1 : Int) (x2 : Int) (x3 : Int) (g : zG) (H : Heap) (locs : List Loc) (ls : Array Slot), zH X N g s H locs → lv_has ls 5 [(0, z_r N 0 0), (1, z_v x1), (2, z_v x2), (3, z_v x3)] → K 0 x1 x2 x3 g = some (r, g') → W p l e { frames := 3, cells := 0, slots := 0, locals := 81 } s m args below meth c H locs 0 0 (MQ below (zQi X N r g') args s 0 0 (zA X)) (F0 m 4 ls [])) {x1 : Int} {x2 : Int} {x3 : Int} {g : zG} (hw : zH X N g s H locs) (hl : lv_has ls 5 [(0, z_r N 0 0), (1, z_v x1), (2, z_v x2), (3, z_v x3)]) (h : sX4_chargedToRegulation_h4 n K x1 x2 x3 g = some (r, g')) : W p l e { frames := 3, cells := 0, slots := 0, locals := 81 } s m args below meth c H locs 0 0 (MQ below (zQi X N r g') args s 0 0 (zA X)) (F0 m 4 ls []) := by
  have hx := hF.1.1
  have hb := hF.1.2.1
  unfold sX4_chargedToRegulation_h4 at h
  refine lv_iload_n hx hb dX4_chargedToRegulation_4 rfl (lv_at hl 3 rfl) ?_
  refine lv_aload_n hx hb dX4_chargedToRegulation_5 rfl (lv_at hl 0 rfl) ?_
  refine zr_get hF hw zEf_0_0 (by decide) zC_0 0 (by decide) qw_123 rfl dX4_chargedToRegulation_6 ?_
  refine zr_size hF hw hl.1 (i := 0) zEf_1_0 qw_234 (Nat.le_of_ble_eq_true rfl) dX4_chargedToRegulation_9 ⟨Nat.le_of_ble_eq_true rfl, Nat.le_of_ble_eq_true rfl⟩ ⟨Nat.le_of_ble_eq_true rfl, Nat.le_of_ble_eq_true rfl⟩ (fun H locs hw => ?_)
  refine zr_icmp_ge (tgt := 51) hF h dX4_chargedToRegulation_12 (by decide) (fun h => ?_) (fun h => ?_)
  · refine lv_iload_n hx hb dX4_chargedToRegulation_51 rfl (lv_at hl 2 rfl) ?_
    exact zr_iret hF hr hw h dX4_chargedToRegulation_52
  · refine lv_aload_n hx hb dX4_chargedToRegulation_15 rfl (lv_at hl 0 rfl) ?_
    refine zr_get hF hw zEf_0_0 (by decide) zC_0 0 (by decide) qw_123 rfl dX4_chargedToRegulation_16 ?_
    refine lv_iload_n hx hb dX4_chargedToRegulation_19 rfl (lv_at hl 3 rfl) ?_
    refine zr_lget0 hF hw hl.1 qw_238 h (Nat.le_of_ble_eq_true rfl) dX4_chargedToRegulation_20 ⟨Nat.le_of_ble_eq_true rfl, Nat.le_of_ble_eq_true rfl⟩ ⟨Nat.le_of_ble_eq_true rfl, Nat.le_of_ble_eq_true rfl⟩ (fun H locs hw hf1 h => ?_)
    refine zr_cast hF hw hf1 (by decide) zC_4 qw_252 dX4_chargedToRegulation_23 ?_
    refine lv_astore (lv' := [(4, z_r N 4 ((x3).toNat)), (0, z_r N 0 0), (1, z_v x1), (2, z_v x2), (3, z_v x3)]) hx hb dX4_chargedToRegulation_26 hl (by decide) rfl (fun ls hl => ?_)
    refine lv_aload hx hb dX4_chargedToRegulation_28 (lv_at hl 0 rfl) ?_
    refine zr_get hF hw hf1 (by decide) zC_4 5 (by decide) qw_472 rfl dX4_chargedToRegulation_30 ?_
    refine lv_iload_n hx hb dX4_chargedToRegulation_33 rfl (lv_at hl 2 rfl) ?_
    refine zr_icmp_ne (tgt := 45) hF h dX4_chargedToRegulation_34 (by decide) (fun h => ?_) (fun h => ?_)
    · refine zr_iinc hF (lv' := fun v2 => [(3, z_v v2), (4, z_r N 4 ((x3).toNat)), (0, z_r N 0 0), (1, z_v x1), (2, z_v x2)]) h dX4_chargedToRegulation_45 hl (k := 4) rfl (by decide) (fun _ => rfl) (fun v2 ls hl h => ?_)
      refine lv_goto (tgt := 4) hx hb dX4_chargedToRegulation_48 (by decide) ?_
      exact hK0 x1 x2 v2 _ _ _ _  hw (lv_sub hl [2, 3, 4, 0] rfl) h
    · refine lv_iload_n hx hb dX4_chargedToRegulation_37 rfl (lv_at hl 3 rfl) ?_
      refine lv_aload hx hb dX4_chargedToRegulation_38 (lv_at hl 0 rfl) ?_
      obtain ⟨r3, g1, h1, h⟩ := zbd_some h
      refine zr_callVi (n := 0) (As := []) (rest := [z_v x2]) hF hw (czX1_charge l X N hf1 h1) hf1 (by decide) zC_4 (z_goodV qw_666 qw_415 qw_416 qw_30 qw_417) (by decide +kernel) ⟨Nat.le_of_ble_eq_true rfl, Nat.le_of_ble_eq_true rfl⟩ ⟨rfl, rfl⟩ rfl hl.1 rfl (Nat.le_of_ble_eq_true rfl) dX4_chargedToRegulation_40 ⟨Nat.le_of_ble_eq_true rfl, Nat.le_of_ble_eq_true rfl⟩ (fun H locs hw => ?_)
      clear h1
      generalize g1 = g at *
      refine zr_iadd hF dX4_chargedToRegulation_43 ?_
      refine zr_let h (fun v4 h => ?_)
      refine lv_istore_n (lv' := [(2, z_v v4), (4, z_r N 4 ((x3).toNat)), (0, z_r N 0 0), (1, z_v x1), (3, z_v x3)]) hx hb dX4_chargedToRegulation_44 rfl hl (by decide) rfl (fun ls hl => ?_)
      refine zr_iinc hF (lv' := fun v5 => [(3, z_v v5), (2, z_v v4), (4, z_r N 4 ((x3).toNat)), (0, z_r N 0 0), (1, z_v x1)]) h dX4_chargedToRegulation_45 hl (k := 4) rfl (by decide) (fun _ => rfl) (fun v5 ls hl h => ?_)
      refine lv_goto (tgt := 4) hx hb dX4_chargedToRegulation_48 (by decide) ?_
      exact hK0 x1 v4 v5 _ _ _ _  hw (lv_sub hl [3, 4, 1, 0] rfl) h
set_option maxHeartbeats 4000000 in
set_option maxRecDepth 100000 in
theorem wX4_chargedToRegulation_run {p : Program} {l : Launch} {e : Env} {s : State} {m : MethodId} {args : Array Value} {below : List Frame} {meth : Method} {c : Code} {X : zC} {N : zN} {r : Int} {g' : zG} (hF : zF p s m args meth c X cX4_chargedToRegulation 5 RX4) (hr : meth.sig.returnType = (some .int)) {n0 : Nat} : ∀ n : Nat, (∀ (x1 : Int) (x2 : Int) (x3 : Int) (g : zG) (H : Heap) (locs : List Loc) (ls : Array Slot), zH X N g s H locs → lv_has ls 5 [(0, z_r N 0 0), (1, z_v x1), (2, z_v x2), (3, z_v x3)] → sX4_chargedToRegulation_run n0 n 0 x1 x2 x3 g = some (r, g') → W p l e { frames := 3, cells := 0, slots := 0, locals := 81 } s m args below meth c H locs 0 0 (MQ below (zQi X N r g') args s 0 0 (zA X)) (F0 m 4 ls [])) := by
  intro n
  induction n with
  | zero => exact fun _ _ _ _ _ _ _ _ _  h => (by cases h)
  | succ n ih => exact fun x1 x2 x3 g H locs ls  hw hl h => wX4_chargedToRegulation_h4 hF hr ih  hw hl h
set_option maxHeartbeats 4000000 in
set_option maxRecDepth 100000 in
theorem czX4_chargedToRegulation (l : Launch) (X : zC) (N : zN) {n : Nat} {x1 : Int} {g g' : zG} {r : Int} (h : sX4_chargedToRegulation n x1 g = some (r, g')) : zM l yX4_chargedToRegulation cX4_chargedToRegulation 5 (some .int) { frames := 3, cells := 0, slots := 0, locals := 81 } X N g [z_r N 0 0, z_v x1] (zQi X N r g') := by
  refine z_ofW (own := RX4) (by decide +kernel) rfl (Nat.le_of_ble_eq_true rfl) ?_
  intro p e s m args below meth c ls hF hr hw hl
  have hl : lv_has ls 5 [(0, z_r N 0 0), (1, z_v x1)] := hl
  have hx := hF.1.1
  have hb := hF.1.2.1
  have hKK := wX4_chargedToRegulation_run hF hr (r := r) (g' := g') (X := X) (N := N) (n0 := n) (l := l) (e := e) (below := below) n
  have hK0 := hKK
  unfold sX4_chargedToRegulation at h
  generalize s.heap = H at hw ⊢
  generalize ([] : List Loc) = locs at hw ⊢
  refine lv_iconst hx hb dX4_chargedToRegulation_0 rfl ?_
  refine lv_istore_n (lv' := [(2, z_v 0), (0, z_r N 0 0), (1, z_v x1)]) hx hb dX4_chargedToRegulation_1 rfl hl (by decide) rfl (fun ls hl => ?_)
  refine lv_iconst hx hb dX4_chargedToRegulation_2 rfl ?_
  refine lv_istore_n (lv' := [(3, z_v 0), (2, z_v 0), (0, z_r N 0 0), (1, z_v x1)]) hx hb dX4_chargedToRegulation_3 rfl hl (by decide) rfl (fun ls hl => ?_)
  exact hK0 x1 0 0 _ _ _ _  hw (lv_sub hl [2, 3, 1, 0] rfl) h
set_option maxHeartbeats 4000000 in
set_option maxRecDepth 100000 in
theorem czX4_regulationIs (l : Launch) (hT : l.stackTraces = false) (X : zC) (N : zN) {n : Nat} {x1 : Int} {x2 : Int} {g g' : zG} {o : Nat × Int} (h : sX4_regulationIs n x1 x2 g = some (o, g')) : zXM l yX4_regulationIs cX4_regulationIs 4 (some .int) { frames := 7, cells := 2, slots := 12, locals := 129 } X N g [z_r N 0 0, z_v x1, z_v x2] (zYi X N o g') o g' := by
  refine z_xofW (own := RX4) (by decide +kernel) rfl (Nat.le_of_ble_eq_true rfl) ?_
  intro p e s m args below meth c ls hF hr hnt hw hl
  have hl : lv_has ls 4 [(0, z_r N 0 0), (1, z_v x1), (2, z_v x2)] := hl
  have hx := hF.1.1
  have hb := hF.1.2.1
  unfold sX4_regulationIs at h
  generalize s.heap = H at hw ⊢
  generalize ([] : List Loc) = locs at hw ⊢
  refine lv_aload_n hx hb dX4_regulationIs_0 rfl (lv_at hl 0 rfl) ?_
  refine lv_iload_n hx hb dX4_regulationIs_1 rfl (lv_at hl 1 rfl) ?_
  obtain ⟨o1, g1, h1, h⟩ := zbx_some h
  refine zx_callVr (n := 1) (As := [z_v x1]) (rest := []) hF hnt hw (czX4_regulationAt l hT X N h1) h zEf_0_0 (by decide) zC_0 (z_goodV qw_622 qw_624 qw_11 qw_15 qw_625) (by decide +kernel) ⟨Nat.le_of_ble_eq_true rfl, Nat.le_of_ble_eq_true rfl⟩ rfl hl.1 rfl (Nat.le_of_ble_eq_true rfl) dX4_regulationIs_2 ⟨Nat.le_of_ble_eq_true rfl, Nat.le_of_ble_eq_true rfl⟩ ⟨Nat.le_of_ble_eq_true rfl, Nat.le_of_ble_eq_true rfl⟩ (fun H locs hw hf2 h => ?_)
  clear h1
  generalize g1 = g at *
  generalize o1.2 = r1 at *
  refine lv_astore_n (lv' := [(3, z_r N 5 ((r1).toNat)), (0, z_r N 0 0), (1, z_v x1), (2, z_v x2)]) hx hb dX4_regulationIs_5 rfl hl (by decide) rfl (fun ls hl => ?_)
  refine lv_iload_n hx hb dX4_regulationIs_6 rfl (lv_at hl 3 rfl) ?_
  refine lv_iconst hx hb dX4_regulationIs_7 rfl ?_
  refine lv_bipush (v := Int32.ofInt (6)) hx hb dX4_regulationIs_8 (by decide) ?_
  obtain ⟨o1, g1, h1, h⟩ := zbx_some h
  refine zx_callSv (n := 3) (As := [z_v x2, z_v 0, z_v 6]) (rest := []) hF hnt hw (czX4_checkRange l hT X N h1) h (z_goodS qw_211 qw_212 qw_15 qw_213) (by decide +kernel) ⟨Nat.le_of_ble_eq_true rfl, Nat.le_of_ble_eq_true rfl⟩ rfl hl.1 rfl (Nat.le_of_ble_eq_true rfl) dX4_regulationIs_10 ⟨Nat.le_of_ble_eq_true rfl, Nat.le_of_ble_eq_true rfl⟩ ⟨Nat.le_of_ble_eq_true rfl, Nat.le_of_ble_eq_true rfl⟩ (fun H locs hw h => ?_)
  clear h1
  generalize g1 = g at *
  generalize o1.2 = r3 at *
  refine lv_aload_n hx hb dX4_regulationIs_13 rfl (lv_at hl 1 rfl) ?_
  refine zr_get hF hw zEf_0_0 (by decide) zC_0 2 (by decide) qw_125 rfl dX4_regulationIs_14 ?_
  refine lv_aload_n hx hb dX4_regulationIs_17 rfl (lv_at hl 0 rfl) ?_
  refine lv_aload_n hx hb dX4_regulationIs_18 rfl (lv_at hl 1 rfl) ?_
  refine zr_get hF hw zEf_0_0 (by decide) zC_0 0 (by decide) qw_123 rfl dX4_regulationIs_19 ?_
  obtain ⟨r5, g1, h1, h⟩ := zbd_some h
  refine zr_callVv (n := 2) (As := [z_r N 5 ((r1).toNat), z_r N 1 0]) (rest := []) hF hw (czX0_dealOut l X N hf2 h1) zEf_2_0 (by decide) zC_2 (z_goodV qw_297 qw_298 qw_299 qw_19 qw_300) (by decide +kernel) ⟨Nat.le_of_ble_eq_true rfl, Nat.le_of_ble_eq_true rfl⟩ ⟨rfl, rfl⟩ rfl hl.1 rfl (Nat.le_of_ble_eq_true rfl) dX4_regulationIs_22 ⟨Nat.le_of_ble_eq_true rfl, Nat.le_of_ble_eq_true rfl⟩ (fun H locs hw => ?_)
  clear h1
  generalize g1 = g at *
  refine lv_iload_n hx hb dX4_regulationIs_25 rfl (lv_at hl 3 rfl) ?_
  refine zr_case h (fun c26_0 h => ?_) (fun c26_0 hz h => ?_)
  · rw [c26_0]
    refine lv_tableIn (tgt := 64) hx hb dX4_regulationIs_26 (by decide) (by decide) rfl (by decide) ?_
    refine lv_aload_n hx hb dX4_regulationIs_64 rfl (lv_at hl 1 rfl) ?_
    refine zr_get hF hw zEf_0_0 (by decide) zC_0 2 (by decide) qw_125 rfl dX4_regulationIs_65 ?_
    refine zr_get hF hw zEf_2_0 (by decide) zC_2 2 (by decide) qw_105 rfl dX4_regulationIs_68 ?_
    exact zx_iret hF hr hw h dX4_regulationIs_71 ⟨Nat.le_of_ble_eq_true rfl, Nat.le_of_ble_eq_true rfl⟩
  refine zr_case h (fun c26_1 h => ?_) (fun c26_1 hz h => ?_)
  · rw [c26_1]
    refine lv_tableIn (tgt := 72) hx hb dX4_regulationIs_26 (by decide) (by decide) rfl (by decide) ?_
    refine lv_aload_n hx hb dX4_regulationIs_72 rfl (lv_at hl 1 rfl) ?_
    refine zr_get hF hw zEf_0_0 (by decide) zC_0 2 (by decide) qw_125 rfl dX4_regulationIs_73 ?_
    refine zr_get hF hw zEf_2_0 (by decide) zC_2 3 (by decide) qw_107 rfl dX4_regulationIs_76 ?_
    exact zx_iret hF hr hw h dX4_regulationIs_79 ⟨Nat.le_of_ble_eq_true rfl, Nat.le_of_ble_eq_true rfl⟩
  refine zr_case h (fun c26_2 h => ?_) (fun c26_2 hz h => ?_)
  · rw [c26_2]
    refine lv_tableIn (tgt := 80) hx hb dX4_regulationIs_26 (by decide) (by decide) rfl (by decide) ?_
    refine lv_aload_n hx hb dX4_regulationIs_80 rfl (lv_at hl 1 rfl) ?_
    refine zr_get hF hw zEf_0_0 (by decide) zC_0 2 (by decide) qw_125 rfl dX4_regulationIs_81 ?_
    refine zr_get hF hw zEf_2_0 (by decide) zC_2 0 (by decide) qw_101 rfl dX4_regulationIs_84 ?_
    refine zr_get hF hw zEf_3_0 (by decide) zC_3 4 (by decide) qw_87 rfl dX4_regulationIs_87 ?_
    exact zx_iret hF hr hw h dX4_regulationIs_90 ⟨Nat.le_of_ble_eq_true rfl, Nat.le_of_ble_eq_true rfl⟩
  refine zr_case h (fun c26_3 h => ?_) (fun c26_3 hz h => ?_)
  · rw [c26_3]
    refine lv_tableIn (tgt := 91) hx hb dX4_regulationIs_26 (by decide) (by decide) rfl (by decide) ?_
    refine lv_aload_n hx hb dX4_regulationIs_91 rfl (lv_at hl 1 rfl) ?_
    refine zr_get hF hw zEf_0_0 (by decide) zC_0 2 (by decide) qw_125 rfl dX4_regulationIs_92 ?_
    refine zr_get hF hw zEf_2_0 (by decide) zC_2 1 (by decide) qw_103 rfl dX4_regulationIs_95 ?_
    refine zr_get hF hw zEf_3_1 (by decide) zC_3 4 (by decide) qw_87 rfl dX4_regulationIs_98 ?_
    exact zx_iret hF hr hw h dX4_regulationIs_101 ⟨Nat.le_of_ble_eq_true rfl, Nat.le_of_ble_eq_true rfl⟩
  refine zr_case h (fun c26_4 h => ?_) (fun c26_4 hz h => ?_)
  · rw [c26_4]
    refine lv_tableIn (tgt := 102) hx hb dX4_regulationIs_26 (by decide) (by decide) rfl (by decide) ?_
    refine lv_aload_n hx hb dX4_regulationIs_102 rfl (lv_at hl 1 rfl) ?_
    refine zr_get hF hw zEf_0_0 (by decide) zC_0 2 (by decide) qw_125 rfl dX4_regulationIs_103 ?_
    refine zr_get hF hw zEf_2_0 (by decide) zC_2 4 (by decide) qw_109 rfl dX4_regulationIs_106 ?_
    exact zx_iret hF hr hw h dX4_regulationIs_109 ⟨Nat.le_of_ble_eq_true rfl, Nat.le_of_ble_eq_true rfl⟩
  refine zr_case h (fun c26_5 h => ?_) (fun c26_5 hz h => ?_)
  · rw [c26_5]
    refine lv_tableIn (tgt := 110) hx hb dX4_regulationIs_26 (by decide) (by decide) rfl (by decide) ?_
    refine lv_aload_n hx hb dX4_regulationIs_110 rfl (lv_at hl 0 rfl) ?_
    refine zr_get hF hw hf2 (by decide) zC_5 3 (by decide) qw_603 rfl dX4_regulationIs_111 ?_
    exact zx_iret hF hr hw h dX4_regulationIs_114 ⟨Nat.le_of_ble_eq_true rfl, Nat.le_of_ble_eq_true rfl⟩
  refine lv_tableOut (tgt := 115) hx hb dX4_regulationIs_26 (by rw [Int32.toInt_ofInt_of_le (by omega) (by omega)]; omega) (by decide) ?_
  refine lv_aload_n hx hb dX4_regulationIs_115 rfl (lv_at hl 1 rfl) ?_
  refine lv_iload_n hx hb dX4_regulationIs_116 rfl (lv_at hl 2 rfl) ?_
  obtain ⟨r6, g1, h1, h⟩ := zbd_some h
  refine zr_callVi (n := 1) (As := [z_v x1]) (rest := []) hF hw (czX4_chargedToRegulation l X N h1) zEf_0_0 (by decide) zC_0 (z_goodV qw_662 qw_664 qw_12 qw_15 qw_665) (by decide +kernel) ⟨Nat.le_of_ble_eq_true rfl, Nat.le_of_ble_eq_true rfl⟩ ⟨rfl, rfl⟩ rfl hl.1 rfl (Nat.le_of_ble_eq_true rfl) dX4_regulationIs_117 ⟨Nat.le_of_ble_eq_true rfl, Nat.le_of_ble_eq_true rfl⟩ (fun H locs hw => ?_)
  clear h1
  generalize g1 = g at *
  exact zx_iret hF hr hw h dX4_regulationIs_120 ⟨Nat.le_of_ble_eq_true rfl, Nat.le_of_ble_eq_true rfl⟩
set_option maxHeartbeats 4000000 in
set_option maxRecDepth 100000 in
theorem czX4_slot (l : Launch) (hT : l.stackTraces = false) (X : zC) (N : zN) {x1 : Int} {x2 : Int} {g g' : zG} {o : Nat × Int} (h : sX4_slot x1 x2 g = some (o, g')) : zXM l yX4_slot cX4_slot 4 (some .int) { frames := 7, cells := 2, slots := 12, locals := 111 } X N g [z_r N 0 0, z_v x1, z_v x2] (zYi X N o g') o g' := by
  refine z_xofW (own := RX4) (by decide +kernel) rfl (Nat.le_of_ble_eq_true rfl) ?_
  intro p e s m args below meth c ls hF hr hnt hw hl
  have hl : lv_has ls 4 [(0, z_r N 0 0), (1, z_v x1), (2, z_v x2)] := hl
  have hx := hF.1.1
  have hb := hF.1.2.1
  unfold sX4_slot at h
  generalize s.heap = H at hw ⊢
  generalize ([] : List Loc) = locs at hw ⊢
  refine lv_aload_n hx hb dX4_slot_0 rfl (lv_at hl 0 rfl) ?_
  refine lv_iload_n hx hb dX4_slot_1 rfl (lv_at hl 1 rfl) ?_
  obtain ⟨o1, g1, h1, h⟩ := zbx_some h
  refine zx_callVr (n := 1) (As := [z_v x1]) (rest := []) hF hnt hw (czX4_regulationAt l hT X N h1) h zEf_0_0 (by decide) zC_0 (z_goodV qw_622 qw_624 qw_11 qw_15 qw_625) (by decide +kernel) ⟨Nat.le_of_ble_eq_true rfl, Nat.le_of_ble_eq_true rfl⟩ rfl hl.1 rfl (Nat.le_of_ble_eq_true rfl) dX4_slot_2 ⟨Nat.le_of_ble_eq_true rfl, Nat.le_of_ble_eq_true rfl⟩ ⟨Nat.le_of_ble_eq_true rfl, Nat.le_of_ble_eq_true rfl⟩ (fun H locs hw hf2 h => ?_)
  clear h1
  generalize g1 = g at *
  generalize o1.2 = r1 at *
  refine lv_astore_n (lv' := [(3, z_r N 5 ((r1).toNat)), (0, z_r N 0 0), (1, z_v x1), (2, z_v x2)]) hx hb dX4_slot_5 rfl hl (by decide) rfl (fun ls hl => ?_)
  refine lv_iload_n hx hb dX4_slot_6 rfl (lv_at hl 3 rfl) ?_
  refine zr_if_ge (tgt := 20) hF h dX4_slot_7 (by decide) (fun h => ?_) (fun h => ?_)
  · refine lv_iload_n hx hb dX4_slot_20 rfl (lv_at hl 3 rfl) ?_
    refine lv_aload_n hx hb dX4_slot_21 rfl (lv_at hl 0 rfl) ?_
    obtain ⟨r3, g1, h1, h⟩ := zbd_some h
    refine zr_callVi (n := 0) (As := []) (rest := [z_v x2]) hF hw (czX3_slotCount l X N hf2 h1) hf2 (by decide) zC_5 (z_goodV qw_672 qw_310 qw_311 qw_34 qw_312) (by decide +kernel) ⟨Nat.le_of_ble_eq_true rfl, Nat.le_of_ble_eq_true rfl⟩ ⟨rfl, rfl⟩ rfl hl.1 rfl (Nat.le_of_ble_eq_true rfl) dX4_slot_22 ⟨Nat.le_of_ble_eq_true rfl, Nat.le_of_ble_eq_true rfl⟩ (fun H locs hw => ?_)
    clear h1
    generalize g1 = g at *
    refine zr_icmp_ge (tgt := 36) hF h dX4_slot_25 (by decide) (fun h => ?_) (fun h => ?_)
    · refine lv_iconst hx hb dX4_slot_36 rfl ?_
      exact zx_iret hF hr hw h dX4_slot_37 ⟨Nat.le_of_ble_eq_true rfl, Nat.le_of_ble_eq_true rfl⟩
    · refine lv_aload_n hx hb dX4_slot_28 rfl (lv_at hl 0 rfl) ?_
      refine lv_iload_n hx hb dX4_slot_29 rfl (lv_at hl 3 rfl) ?_
      obtain ⟨r4, g1, h1, h⟩ := zbd_some h
      refine zr_callVi (n := 1) (As := [z_v x2]) (rest := []) hF hw (czX3_slotBegin l X N hf2 h1) hf2 (by decide) zC_5 (z_goodV qw_673 qw_353 qw_354 qw_34 qw_355) (by decide +kernel) ⟨Nat.le_of_ble_eq_true rfl, Nat.le_of_ble_eq_true rfl⟩ ⟨rfl, rfl⟩ rfl hl.1 rfl (Nat.le_of_ble_eq_true rfl) dX4_slot_30 ⟨Nat.le_of_ble_eq_true rfl, Nat.le_of_ble_eq_true rfl⟩ (fun H locs hw => ?_)
      clear h1
      generalize g1 = g at *
      refine lv_goto (tgt := 37) hx hb dX4_slot_33 (by decide) ?_
      exact zx_iret hF hr hw h dX4_slot_37 ⟨Nat.le_of_ble_eq_true rfl, Nat.le_of_ble_eq_true rfl⟩
  · exact zx_throw hF hT hnt hw hl.1 1 (by decide) rfl (List.mem_of_getElem? (i := 0) rfl) qw_143 qw_27 (by decide +kernel) zT_1 zTb_1 zTg_1 (text := "slots are numbered from 0") (by decide +kernel) h dX4_slot_10 dX4_slot_13 dX4_slot_14 dX4_slot_16 dX4_slot_19 (Nat.le_of_ble_eq_true rfl) (Nat.le_of_ble_eq_true rfl) (Nat.le_of_ble_eq_true rfl) (Nat.le_of_ble_eq_true rfl) (Nat.le_of_ble_eq_true rfl) (Nat.le_of_ble_eq_true rfl)
set_option maxHeartbeats 4000000 in
set_option maxRecDepth 100000 in
theorem czX4_penalty (l : Launch) (hT : l.stackTraces = false) (X : zC) (N : zN) {n : Nat} {x1 : Int} {x2 : Int} {g g' : zG} {o : Nat × Int} (h : sX4_penalty n x1 x2 g = some (o, g')) : zXM l yX4_penalty cX4_penalty 4 (some .int) { frames := 7, cells := 2, slots := 12, locals := 129 } X N g [z_r N 0 0, z_v x1, z_v x2] (zYi X N o g') o g' := by
  refine z_xofW (own := RX4) (by decide +kernel) rfl (Nat.le_of_ble_eq_true rfl) ?_
  intro p e s m args below meth c ls hF hr hnt hw hl
  have hl : lv_has ls 4 [(0, z_r N 0 0), (1, z_v x1), (2, z_v x2)] := hl
  have hx := hF.1.1
  have hb := hF.1.2.1
  unfold sX4_penalty at h
  generalize s.heap = H at hw ⊢
  generalize ([] : List Loc) = locs at hw ⊢
  refine lv_aload_n hx hb dX4_penalty_0 rfl (lv_at hl 0 rfl) ?_
  refine lv_iload_n hx hb dX4_penalty_1 rfl (lv_at hl 1 rfl) ?_
  obtain ⟨o1, g1, h1, h⟩ := zbx_some h
  refine zx_callVr (n := 1) (As := [z_v x1]) (rest := []) hF hnt hw (czX4_flightAt l hT X N h1) h zEf_0_0 (by decide) zC_0 (z_goodV qw_569 qw_571 qw_10 qw_15 qw_572) (by decide +kernel) ⟨Nat.le_of_ble_eq_true rfl, Nat.le_of_ble_eq_true rfl⟩ rfl hl.1 rfl (Nat.le_of_ble_eq_true rfl) dX4_penalty_2 ⟨Nat.le_of_ble_eq_true rfl, Nat.le_of_ble_eq_true rfl⟩ ⟨Nat.le_of_ble_eq_true rfl, Nat.le_of_ble_eq_true rfl⟩ (fun H locs hw hf2 h => ?_)
  clear h1
  generalize g1 = g at *
  generalize o1.2 = r1 at *
  refine lv_pop hx hb dX4_penalty_5 rfl ?_
  refine lv_aload_n hx hb dX4_penalty_6 rfl (lv_at hl 0 rfl) ?_
  refine lv_iload_n hx hb dX4_penalty_7 rfl (lv_at hl 2 rfl) ?_
  obtain ⟨o1, g1, h1, h⟩ := zbx_some h
  refine zx_callVr (n := 1) (As := [z_v x2]) (rest := []) hF hnt hw (czX4_regulationAt l hT X N h1) h zEf_0_0 (by decide) zC_0 (z_goodV qw_622 qw_624 qw_11 qw_15 qw_625) (by decide +kernel) ⟨Nat.le_of_ble_eq_true rfl, Nat.le_of_ble_eq_true rfl⟩ rfl hl.1 rfl (Nat.le_of_ble_eq_true rfl) dX4_penalty_8 ⟨Nat.le_of_ble_eq_true rfl, Nat.le_of_ble_eq_true rfl⟩ ⟨Nat.le_of_ble_eq_true rfl, Nat.le_of_ble_eq_true rfl⟩ (fun H locs hw hf4 h => ?_)
  clear h1
  generalize g1 = g at *
  generalize o1.2 = r3 at *
  refine lv_astore_n (lv' := [(3, z_r N 5 ((r3).toNat)), (0, z_r N 0 0), (1, z_v x1), (2, z_v x2)]) hx hb dX4_penalty_11 rfl hl (by decide) rfl (fun ls hl => ?_)
  refine lv_aload_n hx hb dX4_penalty_12 rfl (lv_at hl 1 rfl) ?_
  refine zr_get hF hw zEf_0_0 (by decide) zC_0 2 (by decide) qw_125 rfl dX4_penalty_13 ?_
  refine lv_aload_n hx hb dX4_penalty_16 rfl (lv_at hl 0 rfl) ?_
  refine lv_aload_n hx hb dX4_penalty_17 rfl (lv_at hl 1 rfl) ?_
  refine zr_get hF hw zEf_0_0 (by decide) zC_0 0 (by decide) qw_123 rfl dX4_penalty_18 ?_
  obtain ⟨r5, g1, h1, h⟩ := zbd_some h
  refine zr_callVv (n := 2) (As := [z_r N 5 ((r3).toNat), z_r N 1 0]) (rest := []) hF hw (czX0_dealOut l X N hf4 h1) zEf_2_0 (by decide) zC_2 (z_goodV qw_297 qw_298 qw_299 qw_19 qw_300) (by decide +kernel) ⟨Nat.le_of_ble_eq_true rfl, Nat.le_of_ble_eq_true rfl⟩ ⟨rfl, rfl⟩ rfl hl.1 rfl (Nat.le_of_ble_eq_true rfl) dX4_penalty_21 ⟨Nat.le_of_ble_eq_true rfl, Nat.le_of_ble_eq_true rfl⟩ (fun H locs hw => ?_)
  clear h1
  generalize g1 = g at *
  refine lv_aload_n hx hb dX4_penalty_24 rfl (lv_at hl 1 rfl) ?_
  refine zr_get hF hw zEf_0_0 (by decide) zC_0 2 (by decide) qw_125 rfl dX4_penalty_25 ?_
  refine zr_get hF hw zEf_2_0 (by decide) zC_2 1 (by decide) qw_103 rfl dX4_penalty_28 ?_
  refine lv_iload_n hx hb dX4_penalty_31 rfl (lv_at hl 2 rfl) ?_
  obtain ⟨r6, g1, h1, h⟩ := zbd_some h
  refine zr_callVi (n := 1) (As := [z_v x1]) (rest := []) hF hw (czX2_penaltyOf l X N zEf_3_1 h1) zEf_3_1 (by decide) zC_3 (z_goodV qw_369 qw_370 qw_371 qw_20 qw_372) (by decide +kernel) ⟨Nat.le_of_ble_eq_true rfl, Nat.le_of_ble_eq_true rfl⟩ ⟨rfl, rfl⟩ rfl hl.1 rfl (Nat.le_of_ble_eq_true rfl) dX4_penalty_32 ⟨Nat.le_of_ble_eq_true rfl, Nat.le_of_ble_eq_true rfl⟩ (fun H locs hw => ?_)
  clear h1
  generalize g1 = g at *
  exact zx_iret hF hr hw h dX4_penalty_35 ⟨Nat.le_of_ble_eq_true rfl, Nat.le_of_ble_eq_true rfl⟩
set_option maxHeartbeats 4000000 in
set_option maxRecDepth 100000 in
theorem wX4_reckonPenalties_h14 {p : Program} {l : Launch} {e : Env} {s : State} {m : MethodId} {args : Array Value} {below : List Frame} {meth : Method} {c : Code} {X : zC} {N : zN} {r : Int} {g' : zG} {H : Heap} {locs : List Loc} {ls : Array Slot} (hF : zF p s m args meth c X cX4_reckonPenalties 4 RX4) (hr : meth.sig.returnType = none) {n : Nat} {K : Nat → Int → Int → zG → Option (Int × zG)} (hK0 : ∀ (x2 : Int) (x3 : Int) (g : zG) (H : Heap) (locs : List Loc) (ls : Array Slot), zH X N g s H locs → lv_has ls 4 [(0, z_r N 0 0), (2, z_v x2), (3, z_v x3)] → K 0 x2 x3 g = some (r, g') → W p l e { frames := 5, cells := 0, slots := 0, locals := 129 } s m args below meth c H locs 0 0 (MQ below (zQv X N g') args s 0 0 (zA X)) (F0 m 14 ls [])) {x2 : Int} {x3 : Int} {g : zG} (hw : zH X N g s H locs) (hl : lv_has ls 4 [(0, z_r N 0 0), (2, z_v x2), (3, z_v x3)]) (h : sX4_reckonPenalties_h14 n K x2 x3 g = some (r, g')) : W p l e { frames := 5, cells := 0, slots := 0, locals := 129 } s m args below meth c H locs 0 0 (MQ below (zQv X N g') args s 0 0 (zA X)) (F0 m 14 ls []) := by
  have hx := hF.1.1
  have hb := hF.1.2.1
  unfold sX4_reckonPenalties_h14 at h
  refine lv_iload_n hx hb dX4_reckonPenalties_14 rfl (lv_at hl 2 rfl) ?_
  refine lv_aload_n hx hb dX4_reckonPenalties_15 rfl (lv_at hl 0 rfl) ?_
  refine zr_get hF hw zEf_0_0 (by decide) zC_0 0 (by decide) qw_123 rfl dX4_reckonPenalties_16 ?_
  refine zr_size hF hw hl.1 (i := 0) zEf_1_0 qw_234 (Nat.le_of_ble_eq_true rfl) dX4_reckonPenalties_19 ⟨Nat.le_of_ble_eq_true rfl, Nat.le_of_ble_eq_true rfl⟩ ⟨Nat.le_of_ble_eq_true rfl, Nat.le_of_ble_eq_true rfl⟩ (fun H locs hw => ?_)
  refine zr_icmp_ge (tgt := 57) hF h dX4_reckonPenalties_22 (by decide) (fun h => ?_) (fun h => ?_)
  · exact zr_vret hF hr hw h dX4_reckonPenalties_57
  · refine lv_aload_n hx hb dX4_reckonPenalties_25 rfl (lv_at hl 0 rfl) ?_
    refine zr_get hF hw zEf_0_0 (by decide) zC_0 0 (by decide) qw_123 rfl dX4_reckonPenalties_26 ?_
    refine lv_iload_n hx hb dX4_reckonPenalties_29 rfl (lv_at hl 2 rfl) ?_
    refine zr_lget0 hF hw hl.1 qw_238 h (Nat.le_of_ble_eq_true rfl) dX4_reckonPenalties_30 ⟨Nat.le_of_ble_eq_true rfl, Nat.le_of_ble_eq_true rfl⟩ ⟨Nat.le_of_ble_eq_true rfl, Nat.le_of_ble_eq_true rfl⟩ (fun H locs hw hf1 h => ?_)
    refine zr_cast hF hw hf1 (by decide) zC_4 qw_252 dX4_reckonPenalties_33 ?_
    refine lv_aload_n hx hb dX4_reckonPenalties_36 rfl (lv_at hl 0 rfl) ?_
    refine zr_get hF hw zEf_0_0 (by decide) zC_0 2 (by decide) qw_125 rfl dX4_reckonPenalties_37 ?_
    refine zr_get hF hw zEf_2_0 (by decide) zC_2 1 (by decide) qw_103 rfl dX4_reckonPenalties_40 ?_
    refine lv_iload_n hx hb dX4_reckonPenalties_43 rfl (lv_at hl 2 rfl) ?_
    obtain ⟨r2, g1, h1, h⟩ := zbd_some h
    refine zr_callVi (n := 1) (As := [z_v x3]) (rest := [z_r N 4 ((x3).toNat)]) hF hw (czX2_penaltyOf l X N zEf_3_1 h1) zEf_3_1 (by decide) zC_3 (z_goodV qw_369 qw_370 qw_371 qw_20 qw_372) (by decide +kernel) ⟨Nat.le_of_ble_eq_true rfl, Nat.le_of_ble_eq_true rfl⟩ ⟨rfl, rfl⟩ rfl hl.1 rfl (Nat.le_of_ble_eq_true rfl) dX4_reckonPenalties_44 ⟨Nat.le_of_ble_eq_true rfl, Nat.le_of_ble_eq_true rfl⟩ (fun H locs hw => ?_)
    clear h1
    generalize g1 = g at *
    refine lv_iload_n hx hb dX4_reckonPenalties_47 rfl (lv_at hl 1 rfl) ?_
    obtain ⟨r3, g1, h1, h⟩ := zbd_some h
    refine zr_callVv (n := 2) (As := [z_v r2, z_v x2]) (rest := []) hF hw (czX1_reckon l X N hf1 h1) hf1 (by decide) zC_4 (z_goodV qw_377 qw_378 qw_379 qw_30 qw_380) (by decide +kernel) ⟨Nat.le_of_ble_eq_true rfl, Nat.le_of_ble_eq_true rfl⟩ ⟨rfl, rfl⟩ rfl hl.1 rfl (Nat.le_of_ble_eq_true rfl) dX4_reckonPenalties_48 ⟨Nat.le_of_ble_eq_true rfl, Nat.le_of_ble_eq_true rfl⟩ (fun H locs hw => ?_)
    clear h1
    generalize g1 = g at *
    refine zr_iinc hF (lv' := fun v4 => [(3, z_v v4), (0, z_r N 0 0), (2, z_v x2)]) h dX4_reckonPenalties_51 hl (k := 2) rfl (by decide) (fun _ => rfl) (fun v4 ls hl h => ?_)
    refine lv_goto (tgt := 14) hx hb dX4_reckonPenalties_54 (by decide) ?_
    exact hK0 x2 v4 _ _ _ _  hw (lv_sub hl [1, 2, 0] rfl) h
set_option maxHeartbeats 4000000 in
set_option maxRecDepth 100000 in
theorem wX4_reckonPenalties_run {p : Program} {l : Launch} {e : Env} {s : State} {m : MethodId} {args : Array Value} {below : List Frame} {meth : Method} {c : Code} {X : zC} {N : zN} {r : Int} {g' : zG} (hF : zF p s m args meth c X cX4_reckonPenalties 4 RX4) (hr : meth.sig.returnType = none) {n0 : Nat} : ∀ n : Nat, (∀ (x2 : Int) (x3 : Int) (g : zG) (H : Heap) (locs : List Loc) (ls : Array Slot), zH X N g s H locs → lv_has ls 4 [(0, z_r N 0 0), (2, z_v x2), (3, z_v x3)] → sX4_reckonPenalties_run n0 n 0 x2 x3 g = some (r, g') → W p l e { frames := 5, cells := 0, slots := 0, locals := 129 } s m args below meth c H locs 0 0 (MQ below (zQv X N g') args s 0 0 (zA X)) (F0 m 14 ls [])) := by
  intro n
  induction n with
  | zero => exact fun _ _ _ _ _ _ _ _  h => (by cases h)
  | succ n ih => exact fun x2 x3 g H locs ls  hw hl h => wX4_reckonPenalties_h14 hF hr ih  hw hl h
set_option maxHeartbeats 4000000 in
set_option maxRecDepth 100000 in
theorem czX4_reckonPenalties (l : Launch) (X : zC) (N : zN) {n : Nat} {i1 : Nat} {x2 : Int} {g g' : zG} {r : Int} (he1 : zE N 5 i1) (h : sX4_reckonPenalties n i1 x2 g = some (r, g')) : zM l yX4_reckonPenalties cX4_reckonPenalties 4 none { frames := 5, cells := 0, slots := 0, locals := 129 } X N g [z_r N 0 0, z_r N 5 i1, z_v x2] (zQv X N g') := by
  refine z_ofW (own := RX4) (by decide +kernel) rfl (Nat.le_of_ble_eq_true rfl) ?_
  intro p e s m args below meth c ls hF hr hw hl
  have hl : lv_has ls 4 [(0, z_r N 0 0), (1, z_r N 5 i1), (2, z_v x2)] := hl
  have hx := hF.1.1
  have hb := hF.1.2.1
  have hKK := wX4_reckonPenalties_run hF hr (r := r) (g' := g') (X := X) (N := N) (n0 := n) (l := l) (e := e) (below := below) n
  have hK0 := hKK
  unfold sX4_reckonPenalties at h
  generalize s.heap = H at hw ⊢
  generalize ([] : List Loc) = locs at hw ⊢
  refine lv_aload_n hx hb dX4_reckonPenalties_0 rfl (lv_at hl 0 rfl) ?_
  refine zr_get hF hw zEf_0_0 (by decide) zC_0 2 (by decide) qw_125 rfl dX4_reckonPenalties_1 ?_
  refine lv_aload_n hx hb dX4_reckonPenalties_4 rfl (lv_at hl 1 rfl) ?_
  refine lv_aload_n hx hb dX4_reckonPenalties_5 rfl (lv_at hl 0 rfl) ?_
  refine zr_get hF hw zEf_0_0 (by decide) zC_0 0 (by decide) qw_123 rfl dX4_reckonPenalties_6 ?_
  obtain ⟨r1, g1, h1, h⟩ := zbd_some h
  refine zr_callVv (n := 2) (As := [z_r N 5 i1, z_r N 1 0]) (rest := []) hF hw (czX0_dealOut l X N he1 h1) zEf_2_0 (by decide) zC_2 (z_goodV qw_297 qw_298 qw_299 qw_19 qw_300) (by decide +kernel) ⟨Nat.le_of_ble_eq_true rfl, Nat.le_of_ble_eq_true rfl⟩ ⟨rfl, rfl⟩ rfl hl.1 rfl (Nat.le_of_ble_eq_true rfl) dX4_reckonPenalties_9 ⟨Nat.le_of_ble_eq_true rfl, Nat.le_of_ble_eq_true rfl⟩ (fun H locs hw => ?_)
  clear h1
  generalize g1 = g at *
  refine lv_iconst hx hb dX4_reckonPenalties_12 rfl ?_
  refine lv_istore_n (lv' := [(3, z_v 0), (0, z_r N 0 0), (1, z_r N 5 i1), (2, z_v x2)]) hx hb dX4_reckonPenalties_13 rfl hl (by decide) rfl (fun ls hl => ?_)
  exact hK0 x2 0 _ _ _ _  hw (lv_sub hl [1, 3, 0] rfl) h
set_option maxHeartbeats 4000000 in
set_option maxRecDepth 100000 in
theorem wX4_reckonDues_h2 {p : Program} {l : Launch} {e : Env} {s : State} {m : MethodId} {args : Array Value} {below : List Frame} {meth : Method} {c : Code} {X : zC} {N : zN} {r : Int} {g' : zG} {H : Heap} {locs : List Loc} {ls : Array Slot} (hF : zF p s m args meth c X cX4_reckonDues 2 RX4) (hr : meth.sig.returnType = none) {n : Nat} {K : Nat → Int → zG → Option (Int × zG)} (hK0 : ∀ (x1 : Int) (g : zG) (H : Heap) (locs : List Loc) (ls : Array Slot), zH X N g s H locs → lv_has ls 2 [(0, z_r N 0 0), (1, z_v x1)] → K 0 x1 g = some (r, g') → W p l e { frames := 6, cells := 0, slots := 0, locals := 152 } s m args below meth c H locs 0 0 (MQ below (zQv X N g') args s 0 0 (zA X)) (F0 m 2 ls [])) (hK1 : ∀ (x1 : Int) (g : zG) (H : Heap) (locs : List Loc) (ls : Array Slot), zH X N g s H locs → lv_has ls 2 [(0, z_r N 0 0), (1, z_v x1)] → K 1 x1 g = some (r, g') → W p l e { frames := 6, cells := 0, slots := 0, locals := 152 } s m args below meth c H locs 0 0 (MQ below (zQv X N g') args s 0 0 (zA X)) (F0 m 35 ls [])) {x1 : Int} {g : zG} (hw : zH X N g s H locs) (hl : lv_has ls 2 [(0, z_r N 0 0), (1, z_v x1)]) (h : sX4_reckonDues_h2 n K x1 g = some (r, g')) : W p l e { frames := 6, cells := 0, slots := 0, locals := 152 } s m args below meth c H locs 0 0 (MQ below (zQv X N g') args s 0 0 (zA X)) (F0 m 2 ls []) := by
  have hx := hF.1.1
  have hb := hF.1.2.1
  unfold sX4_reckonDues_h2 at h
  refine lv_iload_n hx hb dX4_reckonDues_2 rfl (lv_at hl 1 rfl) ?_
  refine lv_aload_n hx hb dX4_reckonDues_3 rfl (lv_at hl 0 rfl) ?_
  refine zr_get hF hw zEf_0_0 (by decide) zC_0 0 (by decide) qw_123 rfl dX4_reckonDues_4 ?_
  refine zr_size hF hw hl.1 (i := 0) zEf_1_0 qw_234 (Nat.le_of_ble_eq_true rfl) dX4_reckonDues_7 ⟨Nat.le_of_ble_eq_true rfl, Nat.le_of_ble_eq_true rfl⟩ ⟨Nat.le_of_ble_eq_true rfl, Nat.le_of_ble_eq_true rfl⟩ (fun H locs hw => ?_)
  refine zr_icmp_ge (tgt := 33) hF h dX4_reckonDues_10 (by decide) (fun h => ?_) (fun h => ?_)
  · refine lv_iconst hx hb dX4_reckonDues_33 rfl ?_
    refine lv_istore_n (lv' := [(1, z_v 0), (0, z_r N 0 0)]) hx hb dX4_reckonDues_34 rfl hl (by decide) rfl (fun ls hl => ?_)
    exact hK1 0 _ _ _ _  hw (lv_sub hl [1, 0] rfl) h
  · refine lv_aload_n hx hb dX4_reckonDues_13 rfl (lv_at hl 0 rfl) ?_
    refine zr_get hF hw zEf_0_0 (by decide) zC_0 0 (by decide) qw_123 rfl dX4_reckonDues_14 ?_
    refine lv_iload_n hx hb dX4_reckonDues_17 rfl (lv_at hl 1 rfl) ?_
    refine zr_lget0 hF hw hl.1 qw_238 h (Nat.le_of_ble_eq_true rfl) dX4_reckonDues_18 ⟨Nat.le_of_ble_eq_true rfl, Nat.le_of_ble_eq_true rfl⟩ ⟨Nat.le_of_ble_eq_true rfl, Nat.le_of_ble_eq_true rfl⟩ (fun H locs hw hf1 h => ?_)
    refine zr_cast hF hw hf1 (by decide) zC_4 qw_252 dX4_reckonDues_21 ?_
    obtain ⟨r2, g1, h1, h⟩ := zbd_some h
    refine zr_callVv (n := 0) (As := []) (rest := []) hF hw (czX1_forgetReckoned l X N hf1 h1) hf1 (by decide) zC_4 (z_goodV qw_288 qw_289 qw_290 qw_30 qw_291) (by decide +kernel) ⟨Nat.le_of_ble_eq_true rfl, Nat.le_of_ble_eq_true rfl⟩ ⟨rfl, rfl⟩ rfl hl.1 rfl (Nat.le_of_ble_eq_true rfl) dX4_reckonDues_24 ⟨Nat.le_of_ble_eq_true rfl, Nat.le_of_ble_eq_true rfl⟩ (fun H locs hw => ?_)
    clear h1
    generalize g1 = g at *
    refine zr_iinc hF (lv' := fun v3 => [(1, z_v v3), (0, z_r N 0 0)]) h dX4_reckonDues_27 hl (k := 1) rfl (by decide) (fun _ => rfl) (fun v3 ls hl h => ?_)
    refine lv_goto (tgt := 2) hx hb dX4_reckonDues_30 (by decide) ?_
    exact hK0 v3 _ _ _ _  hw (lv_sub hl [1, 0] rfl) h
set_option maxHeartbeats 4000000 in
set_option maxRecDepth 100000 in
theorem wX4_reckonDues_h35 {p : Program} {l : Launch} {e : Env} {s : State} {m : MethodId} {args : Array Value} {below : List Frame} {meth : Method} {c : Code} {X : zC} {N : zN} {r : Int} {g' : zG} {H : Heap} {locs : List Loc} {ls : Array Slot} (hF : zF p s m args meth c X cX4_reckonDues 2 RX4) (hr : meth.sig.returnType = none) {n : Nat} {K : Nat → Int → zG → Option (Int × zG)} (hK0 : ∀ (x1 : Int) (g : zG) (H : Heap) (locs : List Loc) (ls : Array Slot), zH X N g s H locs → lv_has ls 2 [(0, z_r N 0 0), (1, z_v x1)] → K 0 x1 g = some (r, g') → W p l e { frames := 6, cells := 0, slots := 0, locals := 152 } s m args below meth c H locs 0 0 (MQ below (zQv X N g') args s 0 0 (zA X)) (F0 m 2 ls [])) (hK1 : ∀ (x1 : Int) (g : zG) (H : Heap) (locs : List Loc) (ls : Array Slot), zH X N g s H locs → lv_has ls 2 [(0, z_r N 0 0), (1, z_v x1)] → K 1 x1 g = some (r, g') → W p l e { frames := 6, cells := 0, slots := 0, locals := 152 } s m args below meth c H locs 0 0 (MQ below (zQv X N g') args s 0 0 (zA X)) (F0 m 35 ls [])) {x1 : Int} {g : zG} (hw : zH X N g s H locs) (hl : lv_has ls 2 [(0, z_r N 0 0), (1, z_v x1)]) (h : sX4_reckonDues_h35 n K x1 g = some (r, g')) : W p l e { frames := 6, cells := 0, slots := 0, locals := 152 } s m args below meth c H locs 0 0 (MQ below (zQv X N g') args s 0 0 (zA X)) (F0 m 35 ls []) := by
  have hx := hF.1.1
  have hb := hF.1.2.1
  unfold sX4_reckonDues_h35 at h
  refine lv_iload_n hx hb dX4_reckonDues_35 rfl (lv_at hl 1 rfl) ?_
  refine lv_aload_n hx hb dX4_reckonDues_36 rfl (lv_at hl 0 rfl) ?_
  refine zr_get hF hw zEf_0_0 (by decide) zC_0 1 (by decide) qw_124 rfl dX4_reckonDues_37 ?_
  refine zr_size hF hw hl.1 (i := 1) zEf_1_1 qw_234 (Nat.le_of_ble_eq_true rfl) dX4_reckonDues_40 ⟨Nat.le_of_ble_eq_true rfl, Nat.le_of_ble_eq_true rfl⟩ ⟨Nat.le_of_ble_eq_true rfl, Nat.le_of_ble_eq_true rfl⟩ (fun H locs hw => ?_)
  refine zr_icmp_ge (tgt := 68) hF h dX4_reckonDues_43 (by decide) (fun h => ?_) (fun h => ?_)
  · exact zr_vret hF hr hw h dX4_reckonDues_68
  · refine lv_aload_n hx hb dX4_reckonDues_46 rfl (lv_at hl 0 rfl) ?_
    refine lv_aload_n hx hb dX4_reckonDues_47 rfl (lv_at hl 0 rfl) ?_
    refine zr_get hF hw zEf_0_0 (by decide) zC_0 1 (by decide) qw_124 rfl dX4_reckonDues_48 ?_
    refine lv_iload_n hx hb dX4_reckonDues_51 rfl (lv_at hl 1 rfl) ?_
    refine zr_lget1 hF hw hl.1 qw_238 h (Nat.le_of_ble_eq_true rfl) dX4_reckonDues_52 ⟨Nat.le_of_ble_eq_true rfl, Nat.le_of_ble_eq_true rfl⟩ ⟨Nat.le_of_ble_eq_true rfl, Nat.le_of_ble_eq_true rfl⟩ (fun H locs hw hf1 h => ?_)
    refine zr_cast hF hw hf1 (by decide) zC_5 qw_292 dX4_reckonDues_55 ?_
    refine lv_iload_n hx hb dX4_reckonDues_58 rfl (lv_at hl 1 rfl) ?_
    obtain ⟨r2, g1, h1, h⟩ := zbd_some h
    refine zr_callVv (n := 2) (As := [z_r N 5 ((x1).toNat), z_v x1]) (rest := []) hF hw (czX4_reckonPenalties l X N hf1 h1) zEf_0_0 (by decide) zC_0 (z_goodV qw_293 qw_295 qw_3 qw_15 qw_296) (by decide +kernel) ⟨Nat.le_of_ble_eq_true rfl, Nat.le_of_ble_eq_true rfl⟩ ⟨rfl, rfl⟩ rfl hl.1 rfl (Nat.le_of_ble_eq_true rfl) dX4_reckonDues_59 ⟨Nat.le_of_ble_eq_true rfl, Nat.le_of_ble_eq_true rfl⟩ (fun H locs hw => ?_)
    clear h1
    generalize g1 = g at *
    refine zr_iinc hF (lv' := fun v3 => [(1, z_v v3), (0, z_r N 0 0)]) h dX4_reckonDues_62 hl (k := 1) rfl (by decide) (fun _ => rfl) (fun v3 ls hl h => ?_)
    refine lv_goto (tgt := 35) hx hb dX4_reckonDues_65 (by decide) ?_
    exact hK1 v3 _ _ _ _  hw (lv_sub hl [1, 0] rfl) h
set_option maxHeartbeats 4000000 in
set_option maxRecDepth 100000 in
theorem wX4_reckonDues_run {p : Program} {l : Launch} {e : Env} {s : State} {m : MethodId} {args : Array Value} {below : List Frame} {meth : Method} {c : Code} {X : zC} {N : zN} {r : Int} {g' : zG} (hF : zF p s m args meth c X cX4_reckonDues 2 RX4) (hr : meth.sig.returnType = none) {n0 : Nat} : ∀ n : Nat, (∀ (x1 : Int) (g : zG) (H : Heap) (locs : List Loc) (ls : Array Slot), zH X N g s H locs → lv_has ls 2 [(0, z_r N 0 0), (1, z_v x1)] → sX4_reckonDues_run n0 n 0 x1 g = some (r, g') → W p l e { frames := 6, cells := 0, slots := 0, locals := 152 } s m args below meth c H locs 0 0 (MQ below (zQv X N g') args s 0 0 (zA X)) (F0 m 2 ls [])) ∧ (∀ (x1 : Int) (g : zG) (H : Heap) (locs : List Loc) (ls : Array Slot), zH X N g s H locs → lv_has ls 2 [(0, z_r N 0 0), (1, z_v x1)] → sX4_reckonDues_run n0 n 1 x1 g = some (r, g') → W p l e { frames := 6, cells := 0, slots := 0, locals := 152 } s m args below meth c H locs 0 0 (MQ below (zQv X N g') args s 0 0 (zA X)) (F0 m 35 ls [])) := by
  intro n
  induction n with
  | zero => exact ⟨fun _ _ _ _ _ _ _  h => (by cases h), fun _ _ _ _ _ _ _  h => (by cases h)⟩
  | succ n ih => exact ⟨fun x1 g H locs ls  hw hl h => wX4_reckonDues_h2 hF hr ih.1 ih.2  hw hl h, fun x1 g H locs ls  hw hl h => wX4_reckonDues_h35 hF hr ih.1 ih.2  hw hl h⟩
set_option maxHeartbeats 4000000 in
set_option maxRecDepth 100000 in
theorem czX4_reckonDues (l : Launch) (X : zC) (N : zN) {n : Nat} {g g' : zG} {r : Int} (h : sX4_reckonDues n g = some (r, g')) : zM l yX4_reckonDues cX4_reckonDues 2 none { frames := 6, cells := 0, slots := 0, locals := 152 } X N g [z_r N 0 0] (zQv X N g') := by
  refine z_ofW (own := RX4) (by decide +kernel) rfl (Nat.le_of_ble_eq_true rfl) ?_
  intro p e s m args below meth c ls hF hr hw hl
  have hl : lv_has ls 2 [(0, z_r N 0 0)] := hl
  have hx := hF.1.1
  have hb := hF.1.2.1
  have hKK := wX4_reckonDues_run hF hr (r := r) (g' := g') (X := X) (N := N) (n0 := n) (l := l) (e := e) (below := below) n
  have hK0 := hKK.1
  have hK1 := hKK.2
  unfold sX4_reckonDues at h
  generalize s.heap = H at hw ⊢
  generalize ([] : List Loc) = locs at hw ⊢
  refine lv_iconst hx hb dX4_reckonDues_0 rfl ?_
  refine lv_istore_n (lv' := [(1, z_v 0), (0, z_r N 0 0)]) hx hb dX4_reckonDues_1 rfl hl (by decide) rfl (fun ls hl => ?_)
  exact hK0 0 _ _ _ _  hw (lv_sub hl [1, 0] rfl) h
set_option maxHeartbeats 4000000 in
set_option maxRecDepth 100000 in
theorem czX4_due (l : Launch) (hT : l.stackTraces = false) (X : zC) (N : zN) {n : Nat} {x1 : Int} {g g' : zG} {o : Nat × Int} (h : sX4_due n x1 g = some (o, g')) : zXM l yX4_due cX4_due 3 (some .int) { frames := 7, cells := 1, slots := 6, locals := 173 } X N g [z_r N 0 0, z_v x1] (zYi X N o g') o g' := by
  refine z_xofW (own := RX4) (by decide +kernel) rfl (Nat.le_of_ble_eq_true rfl) ?_
  intro p e s m args below meth c ls hF hr hnt hw hl
  have hl : lv_has ls 3 [(0, z_r N 0 0), (1, z_v x1)] := hl
  have hx := hF.1.1
  have hb := hF.1.2.1
  unfold sX4_due at h
  generalize s.heap = H at hw ⊢
  generalize ([] : List Loc) = locs at hw ⊢
  refine lv_aload_n hx hb dX4_due_0 rfl (lv_at hl 0 rfl) ?_
  refine lv_iload_n hx hb dX4_due_1 rfl (lv_at hl 1 rfl) ?_
  obtain ⟨o1, g1, h1, h⟩ := zbx_some h
  refine zx_callVr (n := 1) (As := [z_v x1]) (rest := []) hF hnt hw (czX4_flightAt l hT X N h1) h zEf_0_0 (by decide) zC_0 (z_goodV qw_569 qw_571 qw_10 qw_15 qw_572) (by decide +kernel) ⟨Nat.le_of_ble_eq_true rfl, Nat.le_of_ble_eq_true rfl⟩ rfl hl.1 rfl (Nat.le_of_ble_eq_true rfl) dX4_due_2 ⟨Nat.le_of_ble_eq_true rfl, Nat.le_of_ble_eq_true rfl⟩ ⟨Nat.le_of_ble_eq_true rfl, Nat.le_of_ble_eq_true rfl⟩ (fun H locs hw hf2 h => ?_)
  clear h1
  generalize g1 = g at *
  generalize o1.2 = r1 at *
  refine lv_astore_n (lv' := [(2, z_r N 4 ((r1).toNat)), (0, z_r N 0 0), (1, z_v x1)]) hx hb dX4_due_5 rfl hl (by decide) rfl (fun ls hl => ?_)
  refine lv_aload_n hx hb dX4_due_6 rfl (lv_at hl 1 rfl) ?_
  obtain ⟨r3, g1, h1, h⟩ := zbd_some h
  refine zr_callVv (n := 0) (As := []) (rest := []) hF hw (czX4_reckonDues l X N h1) zEf_0_0 (by decide) zC_0 (z_goodV qw_284 qw_286 qw_2 qw_15 qw_287) (by decide +kernel) ⟨Nat.le_of_ble_eq_true rfl, Nat.le_of_ble_eq_true rfl⟩ ⟨rfl, rfl⟩ rfl hl.1 rfl (Nat.le_of_ble_eq_true rfl) dX4_due_7 ⟨Nat.le_of_ble_eq_true rfl, Nat.le_of_ble_eq_true rfl⟩ (fun H locs hw => ?_)
  clear h1
  generalize g1 = g at *
  refine lv_aload_n hx hb dX4_due_10 rfl (lv_at hl 0 rfl) ?_
  refine zr_get hF hw hf2 (by decide) zC_4 12 (by decide) qw_482 rfl dX4_due_11 ?_
  exact zx_iret hF hr hw h dX4_due_14 ⟨Nat.le_of_ble_eq_true rfl, Nat.le_of_ble_eq_true rfl⟩
set_option maxHeartbeats 4000000 in
set_option maxRecDepth 100000 in
theorem wX4_dueAnew_h10 {p : Program} {l : Launch} {e : Env} {s : State} {m : MethodId} {args : Array Value} {below : List Frame} {meth : Method} {c : Code} {X : zC} {N : zN} {o : Nat × Int} {g' : zG} {H : Heap} {locs : List Loc} {ls : Array Slot} (hF : zF p s m args meth c X cX4_dueAnew 4 RX4) (hT : l.stackTraces = false) (hnt : ∀ x ∈ c.exceptionTable.toList, False) (hr : meth.sig.returnType = (some .int)) {n : Nat} {K : Nat → Int → Int → Int → zG → Option ((Nat × Int) × zG)} (hK0 : ∀ (x1 : Int) (x2 : Int) (x3 : Int) (g : zG) (H : Heap) (locs : List Loc) (ls : Array Slot), zH X N g s H locs → lv_has ls 4 [(0, z_r N 0 0), (1, z_v x1), (2, z_v x2), (3, z_v x3)] → K 0 x1 x2 x3 g = some (o, g') → W p l e { frames := 7, cells := 1, slots := 6, locals := 135 } s m args below meth c H locs 1 6 (vx_MQ below (zYi X N o g') (zXC X N o g') args s 1 6 (zA X)) (F0 m 10 ls [])) {x1 : Int} {x2 : Int} {x3 : Int} {g : zG} (hw : zH X N g s H locs) (hl : lv_has ls 4 [(0, z_r N 0 0), (1, z_v x1), (2, z_v x2), (3, z_v x3)]) (h : sX4_dueAnew_h10 n K x1 x2 x3 g = some (o, g')) : W p l e { frames := 7, cells := 1, slots := 6, locals := 135 } s m args below meth c H locs 1 6 (vx_MQ below (zYi X N o g') (zXC X N o g') args s 1 6 (zA X)) (F0 m 10 ls []) := by
  have hx := hF.1.1
  have hb := hF.1.2.1
  unfold sX4_dueAnew_h10 at h
  refine lv_iload_n hx hb dX4_dueAnew_10 rfl (lv_at hl 3 rfl) ?_
  refine lv_aload_n hx hb dX4_dueAnew_11 rfl (lv_at hl 0 rfl) ?_
  refine zr_get hF hw zEf_0_0 (by decide) zC_0 1 (by decide) qw_124 rfl dX4_dueAnew_12 ?_
  refine zr_size hF hw hl.1 (i := 1) zEf_1_1 qw_234 (Nat.le_of_ble_eq_true rfl) dX4_dueAnew_15 ⟨Nat.le_of_ble_eq_true rfl, Nat.le_of_ble_eq_true rfl⟩ ⟨Nat.le_of_ble_eq_true rfl, Nat.le_of_ble_eq_true rfl⟩ (fun H locs hw => ?_)
  refine zr_icmp_ge (tgt := 55) hF h dX4_dueAnew_18 (by decide) (fun h => ?_) (fun h => ?_)
  · refine lv_iload_n hx hb dX4_dueAnew_55 rfl (lv_at hl 2 rfl) ?_
    exact zx_iret hF hr hw h dX4_dueAnew_56 ⟨Nat.le_of_ble_eq_true rfl, Nat.le_of_ble_eq_true rfl⟩
  · refine lv_iload_n hx hb dX4_dueAnew_21 rfl (lv_at hl 2 rfl) ?_
    refine lv_aload_n hx hb dX4_dueAnew_22 rfl (lv_at hl 0 rfl) ?_
    refine zr_get hF hw zEf_0_0 (by decide) zC_0 2 (by decide) qw_125 rfl dX4_dueAnew_23 ?_
    refine lv_aload_n hx hb dX4_dueAnew_26 rfl (lv_at hl 0 rfl) ?_
    refine zr_get hF hw zEf_0_0 (by decide) zC_0 1 (by decide) qw_124 rfl dX4_dueAnew_27 ?_
    refine lv_iload_n hx hb dX4_dueAnew_30 rfl (lv_at hl 3 rfl) ?_
    refine zr_lget1 hF hw hl.1 qw_238 h (Nat.le_of_ble_eq_true rfl) dX4_dueAnew_31 ⟨Nat.le_of_ble_eq_true rfl, Nat.le_of_ble_eq_true rfl⟩ ⟨Nat.le_of_ble_eq_true rfl, Nat.le_of_ble_eq_true rfl⟩ (fun H locs hw hf1 h => ?_)
    refine zr_cast hF hw hf1 (by decide) zC_5 qw_292 dX4_dueAnew_34 ?_
    refine lv_aload_n hx hb dX4_dueAnew_37 rfl (lv_at hl 0 rfl) ?_
    refine zr_get hF hw zEf_0_0 (by decide) zC_0 0 (by decide) qw_123 rfl dX4_dueAnew_38 ?_
    refine lv_iload_n hx hb dX4_dueAnew_41 rfl (lv_at hl 1 rfl) ?_
    obtain ⟨r2, g1, h1, h⟩ := zbd_some h
    refine zr_callVi (n := 3) (As := [z_r N 5 ((x3).toNat), z_r N 1 0, z_v x1]) (rest := [z_v x2]) hF hw (czX0_penaltyBySlots l X N hf1 h1) zEf_2_0 (by decide) zC_2 (z_goodV qw_704 qw_705 qw_706 qw_19 qw_707) (by decide +kernel) ⟨Nat.le_of_ble_eq_true rfl, Nat.le_of_ble_eq_true rfl⟩ ⟨rfl, rfl⟩ rfl hl.1 rfl (Nat.le_of_ble_eq_true rfl) dX4_dueAnew_42 ⟨Nat.le_of_ble_eq_true rfl, Nat.le_of_ble_eq_true rfl⟩ (fun H locs hw => ?_)
    clear h1
    generalize g1 = g at *
    refine zr_max hF hl.1 qw_277 h dX4_dueAnew_45 ⟨Nat.le_of_ble_eq_true rfl, Nat.le_of_ble_eq_true rfl⟩ (Nat.le_of_ble_eq_true rfl) ⟨Nat.le_of_ble_eq_true rfl, Nat.le_of_ble_eq_true rfl⟩ (fun h => ?_)
    refine zr_let h (fun v3 h => ?_)
    refine lv_istore_n (lv' := [(2, z_v v3), (0, z_r N 0 0), (1, z_v x1), (3, z_v x3)]) hx hb dX4_dueAnew_48 rfl hl (by decide) rfl (fun ls hl => ?_)
    refine zr_iinc hF (lv' := fun v4 => [(3, z_v v4), (2, z_v v3), (0, z_r N 0 0), (1, z_v x1)]) h dX4_dueAnew_49 hl (k := 3) rfl (by decide) (fun _ => rfl) (fun v4 ls hl h => ?_)
    refine lv_goto (tgt := 10) hx hb dX4_dueAnew_52 (by decide) ?_
    exact hK0 x1 v3 v4 _ _ _ _  hw (lv_sub hl [2, 3, 1, 0] rfl) h
set_option maxHeartbeats 4000000 in
set_option maxRecDepth 100000 in
theorem wX4_dueAnew_run {p : Program} {l : Launch} {e : Env} {s : State} {m : MethodId} {args : Array Value} {below : List Frame} {meth : Method} {c : Code} {X : zC} {N : zN} {o : Nat × Int} {g' : zG} (hF : zF p s m args meth c X cX4_dueAnew 4 RX4) (hT : l.stackTraces = false) (hnt : ∀ x ∈ c.exceptionTable.toList, False) (hr : meth.sig.returnType = (some .int)) {n0 : Nat} : ∀ n : Nat, (∀ (x1 : Int) (x2 : Int) (x3 : Int) (g : zG) (H : Heap) (locs : List Loc) (ls : Array Slot), zH X N g s H locs → lv_has ls 4 [(0, z_r N 0 0), (1, z_v x1), (2, z_v x2), (3, z_v x3)] → sX4_dueAnew_run n0 n 0 x1 x2 x3 g = some (o, g') → W p l e { frames := 7, cells := 1, slots := 6, locals := 135 } s m args below meth c H locs 1 6 (vx_MQ below (zYi X N o g') (zXC X N o g') args s 1 6 (zA X)) (F0 m 10 ls [])) := by
  intro n
  induction n with
  | zero => exact fun _ _ _ _ _ _ _ _ _  h => (by cases h)
  | succ n ih => exact fun x1 x2 x3 g H locs ls  hw hl h => wX4_dueAnew_h10 hF hT hnt hr ih  hw hl h
set_option maxHeartbeats 4000000 in
set_option maxRecDepth 100000 in
theorem czX4_dueAnew (l : Launch) (hT : l.stackTraces = false) (X : zC) (N : zN) {n : Nat} {x1 : Int} {g g' : zG} {o : Nat × Int} (h : sX4_dueAnew n x1 g = some (o, g')) : zXM l yX4_dueAnew cX4_dueAnew 4 (some .int) { frames := 7, cells := 1, slots := 6, locals := 135 } X N g [z_r N 0 0, z_v x1] (zYi X N o g') o g' := by
  refine z_xofW (own := RX4) (by decide +kernel) rfl (Nat.le_of_ble_eq_true rfl) ?_
  intro p e s m args below meth c ls hF hr hnt hw hl
  have hl : lv_has ls 4 [(0, z_r N 0 0), (1, z_v x1)] := hl
  have hx := hF.1.1
  have hb := hF.1.2.1
  have hKK := wX4_dueAnew_run hF hT hnt hr (o := o) (g' := g') (X := X) (N := N) (n0 := n) (l := l) (e := e) (below := below) n
  have hK0 := hKK
  unfold sX4_dueAnew at h
  generalize s.heap = H at hw ⊢
  generalize ([] : List Loc) = locs at hw ⊢
  refine lv_aload_n hx hb dX4_dueAnew_0 rfl (lv_at hl 0 rfl) ?_
  refine lv_iload_n hx hb dX4_dueAnew_1 rfl (lv_at hl 1 rfl) ?_
  obtain ⟨o1, g1, h1, h⟩ := zbx_some h
  refine zx_callVr (n := 1) (As := [z_v x1]) (rest := []) hF hnt hw (czX4_flightAt l hT X N h1) h zEf_0_0 (by decide) zC_0 (z_goodV qw_569 qw_571 qw_10 qw_15 qw_572) (by decide +kernel) ⟨Nat.le_of_ble_eq_true rfl, Nat.le_of_ble_eq_true rfl⟩ rfl hl.1 rfl (Nat.le_of_ble_eq_true rfl) dX4_dueAnew_2 ⟨Nat.le_of_ble_eq_true rfl, Nat.le_of_ble_eq_true rfl⟩ ⟨Nat.le_of_ble_eq_true rfl, Nat.le_of_ble_eq_true rfl⟩ (fun H locs hw hf2 h => ?_)
  clear h1
  generalize g1 = g at *
  generalize o1.2 = r1 at *
  refine lv_pop hx hb dX4_dueAnew_5 rfl ?_
  refine lv_iconst hx hb dX4_dueAnew_6 rfl ?_
  refine lv_istore_n (lv' := [(2, z_v 0), (0, z_r N 0 0), (1, z_v x1)]) hx hb dX4_dueAnew_7 rfl hl (by decide) rfl (fun ls hl => ?_)
  refine lv_iconst hx hb dX4_dueAnew_8 rfl ?_
  refine lv_istore_n (lv' := [(3, z_v 0), (2, z_v 0), (0, z_r N 0 0), (1, z_v x1)]) hx hb dX4_dueAnew_9 rfl hl (by decide) rfl (fun ls hl => ?_)
  exact hK0 x1 0 0 _ _ _ _  hw (lv_sub hl [2, 3, 1, 0] rfl) h
set_option maxHeartbeats 4000000 in
set_option maxRecDepth 100000 in
theorem wX4_sumOfDues_h4 {p : Program} {l : Launch} {e : Env} {s : State} {m : MethodId} {args : Array Value} {below : List Frame} {meth : Method} {c : Code} {X : zC} {N : zN} {r : Int} {g' : zG} {H : Heap} {locs : List Loc} {ls : Array Slot} (hF : zF p s m args meth c X cX4_sumOfDues 3 RX4) (hr : meth.sig.returnType = (some .int)) {n : Nat} {K : Nat → Int → Int → zG → Option (Int × zG)} (hK0 : ∀ (x1 : Int) (x2 : Int) (g : zG) (H : Heap) (locs : List Loc) (ls : Array Slot), zH X N g s H locs → lv_has ls 3 [(0, z_r N 0 0), (1, z_v x1), (2, z_v x2)] → K 0 x1 x2 g = some (r, g') → W p l e { frames := 3, cells := 0, slots := 0, locals := 81 } s m args below meth c H locs 0 0 (MQ below (zQi X N r g') args s 0 0 (zA X)) (F0 m 4 ls [])) {x1 : Int} {x2 : Int} {g : zG} (hw : zH X N g s H locs) (hl : lv_has ls 3 [(0, z_r N 0 0), (1, z_v x1), (2, z_v x2)]) (h : sX4_sumOfDues_h4 n K x1 x2 g = some (r, g')) : W p l e { frames := 3, cells := 0, slots := 0, locals := 81 } s m args below meth c H locs 0 0 (MQ below (zQi X N r g') args s 0 0 (zA X)) (F0 m 4 ls []) := by
  have hx := hF.1.1
  have hb := hF.1.2.1
  unfold sX4_sumOfDues_h4 at h
  refine lv_iload_n hx hb dX4_sumOfDues_4 rfl (lv_at hl 2 rfl) ?_
  refine lv_aload_n hx hb dX4_sumOfDues_5 rfl (lv_at hl 0 rfl) ?_
  refine zr_get hF hw zEf_0_0 (by decide) zC_0 0 (by decide) qw_123 rfl dX4_sumOfDues_6 ?_
  refine zr_size hF hw hl.1 (i := 0) zEf_1_0 qw_234 (Nat.le_of_ble_eq_true rfl) dX4_sumOfDues_9 ⟨Nat.le_of_ble_eq_true rfl, Nat.le_of_ble_eq_true rfl⟩ ⟨Nat.le_of_ble_eq_true rfl, Nat.le_of_ble_eq_true rfl⟩ (fun H locs hw => ?_)
  refine zr_icmp_ge (tgt := 38) hF h dX4_sumOfDues_12 (by decide) (fun h => ?_) (fun h => ?_)
  · refine lv_iload_n hx hb dX4_sumOfDues_38 rfl (lv_at hl 1 rfl) ?_
    exact zr_iret hF hr hw h dX4_sumOfDues_39
  · refine lv_iload_n hx hb dX4_sumOfDues_15 rfl (lv_at hl 1 rfl) ?_
    refine lv_aload_n hx hb dX4_sumOfDues_16 rfl (lv_at hl 0 rfl) ?_
    refine zr_get hF hw zEf_0_0 (by decide) zC_0 0 (by decide) qw_123 rfl dX4_sumOfDues_17 ?_
    refine lv_iload_n hx hb dX4_sumOfDues_20 rfl (lv_at hl 2 rfl) ?_
    refine zr_lget0 hF hw hl.1 qw_238 h (Nat.le_of_ble_eq_true rfl) dX4_sumOfDues_21 ⟨Nat.le_of_ble_eq_true rfl, Nat.le_of_ble_eq_true rfl⟩ ⟨Nat.le_of_ble_eq_true rfl, Nat.le_of_ble_eq_true rfl⟩ (fun H locs hw hf1 h => ?_)
    refine zr_cast hF hw hf1 (by decide) zC_4 qw_252 dX4_sumOfDues_24 ?_
    refine zr_get hF hw hf1 (by decide) zC_4 12 (by decide) qw_482 rfl dX4_sumOfDues_27 ?_
    refine zr_iadd hF dX4_sumOfDues_30 ?_
    refine zr_let h (fun v2 h => ?_)
    refine lv_istore_n (lv' := [(1, z_v v2), (0, z_r N 0 0), (2, z_v x2)]) hx hb dX4_sumOfDues_31 rfl hl (by decide) rfl (fun ls hl => ?_)
    refine zr_iinc hF (lv' := fun v3 => [(2, z_v v3), (1, z_v v2), (0, z_r N 0 0)]) h dX4_sumOfDues_32 hl (k := 2) rfl (by decide) (fun _ => rfl) (fun v3 ls hl h => ?_)
    refine lv_goto (tgt := 4) hx hb dX4_sumOfDues_35 (by decide) ?_
    exact hK0 v2 v3 _ _ _ _  hw (lv_sub hl [2, 1, 0] rfl) h
set_option maxHeartbeats 4000000 in
set_option maxRecDepth 100000 in
theorem wX4_sumOfDues_run {p : Program} {l : Launch} {e : Env} {s : State} {m : MethodId} {args : Array Value} {below : List Frame} {meth : Method} {c : Code} {X : zC} {N : zN} {r : Int} {g' : zG} (hF : zF p s m args meth c X cX4_sumOfDues 3 RX4) (hr : meth.sig.returnType = (some .int)) {n0 : Nat} : ∀ n : Nat, (∀ (x1 : Int) (x2 : Int) (g : zG) (H : Heap) (locs : List Loc) (ls : Array Slot), zH X N g s H locs → lv_has ls 3 [(0, z_r N 0 0), (1, z_v x1), (2, z_v x2)] → sX4_sumOfDues_run n0 n 0 x1 x2 g = some (r, g') → W p l e { frames := 3, cells := 0, slots := 0, locals := 81 } s m args below meth c H locs 0 0 (MQ below (zQi X N r g') args s 0 0 (zA X)) (F0 m 4 ls [])) := by
  intro n
  induction n with
  | zero => exact fun _ _ _ _ _ _ _ _  h => (by cases h)
  | succ n ih => exact fun x1 x2 g H locs ls  hw hl h => wX4_sumOfDues_h4 hF hr ih  hw hl h
set_option maxHeartbeats 4000000 in
set_option maxRecDepth 100000 in
theorem czX4_sumOfDues (l : Launch) (X : zC) (N : zN) {n : Nat} {g g' : zG} {r : Int} (h : sX4_sumOfDues n g = some (r, g')) : zM l yX4_sumOfDues cX4_sumOfDues 3 (some .int) { frames := 3, cells := 0, slots := 0, locals := 81 } X N g [z_r N 0 0] (zQi X N r g') := by
  refine z_ofW (own := RX4) (by decide +kernel) rfl (Nat.le_of_ble_eq_true rfl) ?_
  intro p e s m args below meth c ls hF hr hw hl
  have hl : lv_has ls 3 [(0, z_r N 0 0)] := hl
  have hx := hF.1.1
  have hb := hF.1.2.1
  have hKK := wX4_sumOfDues_run hF hr (r := r) (g' := g') (X := X) (N := N) (n0 := n) (l := l) (e := e) (below := below) n
  have hK0 := hKK
  unfold sX4_sumOfDues at h
  generalize s.heap = H at hw ⊢
  generalize ([] : List Loc) = locs at hw ⊢
  refine lv_iconst hx hb dX4_sumOfDues_0 rfl ?_
  refine lv_istore_n (lv' := [(1, z_v 0), (0, z_r N 0 0)]) hx hb dX4_sumOfDues_1 rfl hl (by decide) rfl (fun ls hl => ?_)
  refine lv_iconst hx hb dX4_sumOfDues_2 rfl ?_
  refine lv_istore_n (lv' := [(2, z_v 0), (1, z_v 0), (0, z_r N 0 0)]) hx hb dX4_sumOfDues_3 rfl hl (by decide) rfl (fun ls hl => ?_)
  exact hK0 0 0 _ _ _ _  hw (lv_sub hl [2, 1, 0] rfl) h
set_option maxHeartbeats 4000000 in
set_option maxRecDepth 100000 in
theorem czX4_allDue (l : Launch) (X : zC) (N : zN) {n : Nat} {g g' : zG} {r : Int} (h : sX4_allDue n g = some (r, g')) : zM l yX4_allDue cX4_allDue 1 (some .int) { frames := 7, cells := 0, slots := 0, locals := 173 } X N g [z_r N 0 0] (zQi X N r g') := by
  refine z_ofW (own := RX4) (by decide +kernel) rfl (Nat.le_of_ble_eq_true rfl) ?_
  intro p e s m args below meth c ls hF hr hw hl
  have hl : lv_has ls 1 [(0, z_r N 0 0)] := hl
  have hx := hF.1.1
  have hb := hF.1.2.1
  unfold sX4_allDue at h
  generalize s.heap = H at hw ⊢
  generalize ([] : List Loc) = locs at hw ⊢
  refine lv_aload_n hx hb dX4_allDue_0 rfl (lv_at hl 0 rfl) ?_
  obtain ⟨r1, g1, h1, h⟩ := zbd_some h
  refine zr_callVv (n := 0) (As := []) (rest := []) hF hw (czX4_reckonDues l X N h1) zEf_0_0 (by decide) zC_0 (z_goodV qw_284 qw_286 qw_2 qw_15 qw_287) (by decide +kernel) ⟨Nat.le_of_ble_eq_true rfl, Nat.le_of_ble_eq_true rfl⟩ ⟨rfl, rfl⟩ rfl hl.1 rfl (Nat.le_of_ble_eq_true rfl) dX4_allDue_1 ⟨Nat.le_of_ble_eq_true rfl, Nat.le_of_ble_eq_true rfl⟩ (fun H locs hw => ?_)
  clear h1
  generalize g1 = g at *
  refine lv_aload_n hx hb dX4_allDue_4 rfl (lv_at hl 0 rfl) ?_
  obtain ⟨r2, g1, h1, h⟩ := zbd_some h
  refine zr_callVi (n := 0) (As := []) (rest := []) hF hw (czX4_sumOfDues l X N h1) zEf_0_0 (by decide) zC_0 (z_goodV qw_381 qw_383 qw_6 qw_15 qw_384) (by decide +kernel) ⟨Nat.le_of_ble_eq_true rfl, Nat.le_of_ble_eq_true rfl⟩ ⟨rfl, rfl⟩ rfl hl.1 rfl (Nat.le_of_ble_eq_true rfl) dX4_allDue_5 ⟨Nat.le_of_ble_eq_true rfl, Nat.le_of_ble_eq_true rfl⟩ (fun H locs hw => ?_)
  clear h1
  generalize g1 = g at *
  exact zr_iret hF hr hw h dX4_allDue_8
set_option maxHeartbeats 4000000 in
set_option maxRecDepth 100000 in
theorem wX4_deal_h8 {p : Program} {l : Launch} {e : Env} {s : State} {m : MethodId} {args : Array Value} {below : List Frame} {meth : Method} {c : Code} {X : zC} {N : zN} {r : Int} {g' : zG} {H : Heap} {locs : List Loc} {ls : Array Slot} (hF : zF p s m args meth c X cX4_deal 5 RX4) (hr : meth.sig.returnType = (some .int)) {n : Nat} {K : Nat → Int → Int → Int → zG → Option (Int × zG)} (hK0 : ∀ (x1 : Int) (x2 : Int) (x3 : Int) (g : zG) (H : Heap) (locs : List Loc) (ls : Array Slot), zH X N g s H locs → lv_has ls 5 [(0, z_r N 0 0), (1, z_v x1), (2, z_v x2), (3, z_v x3)] → K 0 x1 x2 x3 g = some (r, g') → W p l e { frames := 7, cells := 0, slots := 0, locals := 173 } s m args below meth c H locs 0 0 (MQ below (zQi X N r g') args s 0 0 (zA X)) (F0 m 8 ls [])) {x1 : Int} {x2 : Int} {x3 : Int} {g : zG} (hw : zH X N g s H locs) (hl : lv_has ls 5 [(0, z_r N 0 0), (1, z_v x1), (2, z_v x2), (3, z_v x3)]) (h : sX4_deal_h8 n K x1 x2 x3 g = some (r, g')) : W p l e { frames := 7, cells := 0, slots := 0, locals := 173 } s m args below meth c H locs 0 0 (MQ below (zQi X N r g') args s 0 0 (zA X)) (F0 m 8 ls []) := by
  have hx := hF.1.1
  have hb := hF.1.2.1
  unfold sX4_deal_h8 at h
  refine lv_iload_n hx hb dX4_deal_8 rfl (lv_at hl 3 rfl) ?_
  refine lv_aload_n hx hb dX4_deal_9 rfl (lv_at hl 0 rfl) ?_
  refine zr_get hF hw zEf_0_0 (by decide) zC_0 0 (by decide) qw_123 rfl dX4_deal_10 ?_
  refine zr_size hF hw hl.1 (i := 0) zEf_1_0 qw_234 (Nat.le_of_ble_eq_true rfl) dX4_deal_13 ⟨Nat.le_of_ble_eq_true rfl, Nat.le_of_ble_eq_true rfl⟩ ⟨Nat.le_of_ble_eq_true rfl, Nat.le_of_ble_eq_true rfl⟩ (fun H locs hw => ?_)
  refine zr_icmp_ge (tgt := 60) hF h dX4_deal_16 (by decide) (fun h => ?_) (fun h => ?_)
  · refine lv_iload_n hx hb dX4_deal_60 rfl (lv_at hl 2 rfl) ?_
    exact zr_iret hF hr hw h dX4_deal_61
  · refine lv_aload_n hx hb dX4_deal_19 rfl (lv_at hl 0 rfl) ?_
    refine zr_get hF hw zEf_0_0 (by decide) zC_0 0 (by decide) qw_123 rfl dX4_deal_20 ?_
    refine lv_iload_n hx hb dX4_deal_23 rfl (lv_at hl 3 rfl) ?_
    refine zr_lget0 hF hw hl.1 qw_238 h (Nat.le_of_ble_eq_true rfl) dX4_deal_24 ⟨Nat.le_of_ble_eq_true rfl, Nat.le_of_ble_eq_true rfl⟩ ⟨Nat.le_of_ble_eq_true rfl, Nat.le_of_ble_eq_true rfl⟩ (fun H locs hw hf1 h => ?_)
    refine zr_cast hF hw hf1 (by decide) zC_4 qw_252 dX4_deal_27 ?_
    refine lv_astore (lv' := [(4, z_r N 4 ((x3).toNat)), (0, z_r N 0 0), (1, z_v x1), (2, z_v x2), (3, z_v x3)]) hx hb dX4_deal_30 hl (by decide) rfl (fun ls hl => ?_)
    refine lv_aload hx hb dX4_deal_32 (lv_at hl 0 rfl) ?_
    refine zr_get hF hw hf1 (by decide) zC_4 2 (by decide) qw_466 rfl dX4_deal_34 ?_
    refine zr_if_ne (tgt := 54) hF h dX4_deal_37 (by decide) (fun h => ?_) (fun h => ?_)
    · refine zr_iinc hF (lv' := fun v2 => [(3, z_v v2), (4, z_r N 4 ((x3).toNat)), (0, z_r N 0 0), (1, z_v x1), (2, z_v x2)]) h dX4_deal_54 hl (k := 4) rfl (by decide) (fun _ => rfl) (fun v2 ls hl h => ?_)
      refine lv_goto (tgt := 8) hx hb dX4_deal_57 (by decide) ?_
      exact hK0 x1 x2 v2 _ _ _ _  hw (lv_sub hl [2, 3, 4, 0] rfl) h
    · refine lv_aload hx hb dX4_deal_40 (lv_at hl 0 rfl) ?_
      refine lv_iload_n hx hb dX4_deal_42 rfl (lv_at hl 2 rfl) ?_
      obtain ⟨r3, g1, h1, h⟩ := zbd_some h
      refine zr_callVv (n := 1) (As := [z_v x1]) (rest := []) hF hw (czX1_takeReckoned l X N hf1 h1) hf1 (by decide) zC_4 (z_goodV qw_389 qw_390 qw_391 qw_30 qw_392) (by decide +kernel) ⟨Nat.le_of_ble_eq_true rfl, Nat.le_of_ble_eq_true rfl⟩ ⟨rfl, rfl⟩ rfl hl.1 rfl (Nat.le_of_ble_eq_true rfl) dX4_deal_43 ⟨Nat.le_of_ble_eq_true rfl, Nat.le_of_ble_eq_true rfl⟩ (fun H locs hw => ?_)
      clear h1
      generalize g1 = g at *
      refine lv_iload_n hx hb dX4_deal_46 rfl (lv_at hl 3 rfl) ?_
      refine lv_aload hx hb dX4_deal_47 (lv_at hl 0 rfl) ?_
      obtain ⟨r4, g1, h1, h⟩ := zbd_some h
      refine zr_callVi (n := 0) (As := []) (rest := [z_v x2]) hF hw (czX1_delay l X N hf1 h1) hf1 (by decide) zC_4 (z_goodV qw_398 qw_399 qw_400 qw_30 qw_401) (by decide +kernel) ⟨Nat.le_of_ble_eq_true rfl, Nat.le_of_ble_eq_true rfl⟩ ⟨rfl, rfl⟩ rfl hl.1 rfl (Nat.le_of_ble_eq_true rfl) dX4_deal_49 ⟨Nat.le_of_ble_eq_true rfl, Nat.le_of_ble_eq_true rfl⟩ (fun H locs hw => ?_)
      clear h1
      generalize g1 = g at *
      refine zr_iadd hF dX4_deal_52 ?_
      refine zr_let h (fun v5 h => ?_)
      refine lv_istore_n (lv' := [(2, z_v v5), (4, z_r N 4 ((x3).toNat)), (0, z_r N 0 0), (1, z_v x1), (3, z_v x3)]) hx hb dX4_deal_53 rfl hl (by decide) rfl (fun ls hl => ?_)
      refine zr_iinc hF (lv' := fun v6 => [(3, z_v v6), (2, z_v v5), (4, z_r N 4 ((x3).toNat)), (0, z_r N 0 0), (1, z_v x1)]) h dX4_deal_54 hl (k := 4) rfl (by decide) (fun _ => rfl) (fun v6 ls hl h => ?_)
      refine lv_goto (tgt := 8) hx hb dX4_deal_57 (by decide) ?_
      exact hK0 x1 v5 v6 _ _ _ _  hw (lv_sub hl [3, 4, 1, 0] rfl) h
set_option maxHeartbeats 4000000 in
set_option maxRecDepth 100000 in
theorem wX4_deal_run {p : Program} {l : Launch} {e : Env} {s : State} {m : MethodId} {args : Array Value} {below : List Frame} {meth : Method} {c : Code} {X : zC} {N : zN} {r : Int} {g' : zG} (hF : zF p s m args meth c X cX4_deal 5 RX4) (hr : meth.sig.returnType = (some .int)) {n0 : Nat} : ∀ n : Nat, (∀ (x1 : Int) (x2 : Int) (x3 : Int) (g : zG) (H : Heap) (locs : List Loc) (ls : Array Slot), zH X N g s H locs → lv_has ls 5 [(0, z_r N 0 0), (1, z_v x1), (2, z_v x2), (3, z_v x3)] → sX4_deal_run n0 n 0 x1 x2 x3 g = some (r, g') → W p l e { frames := 7, cells := 0, slots := 0, locals := 173 } s m args below meth c H locs 0 0 (MQ below (zQi X N r g') args s 0 0 (zA X)) (F0 m 8 ls [])) := by
  intro n
  induction n with
  | zero => exact fun _ _ _ _ _ _ _ _ _  h => (by cases h)
  | succ n ih => exact fun x1 x2 x3 g H locs ls  hw hl h => wX4_deal_h8 hF hr ih  hw hl h
set_option maxHeartbeats 4000000 in
set_option maxRecDepth 100000 in
theorem czX4_deal (l : Launch) (X : zC) (N : zN) {n : Nat} {x1 : Int} {g g' : zG} {r : Int} (h : sX4_deal n x1 g = some (r, g')) : zM l yX4_deal cX4_deal 5 (some .int) { frames := 7, cells := 0, slots := 0, locals := 173 } X N g [z_r N 0 0, z_v x1] (zQi X N r g') := by
  refine z_ofW (own := RX4) (by decide +kernel) rfl (Nat.le_of_ble_eq_true rfl) ?_
  intro p e s m args below meth c ls hF hr hw hl
  have hl : lv_has ls 5 [(0, z_r N 0 0), (1, z_v x1)] := hl
  have hx := hF.1.1
  have hb := hF.1.2.1
  have hKK := wX4_deal_run hF hr (r := r) (g' := g') (X := X) (N := N) (n0 := n) (l := l) (e := e) (below := below) n
  have hK0 := hKK
  unfold sX4_deal at h
  generalize s.heap = H at hw ⊢
  generalize ([] : List Loc) = locs at hw ⊢
  refine lv_aload_n hx hb dX4_deal_0 rfl (lv_at hl 0 rfl) ?_
  obtain ⟨r1, g1, h1, h⟩ := zbd_some h
  refine zr_callVv (n := 0) (As := []) (rest := []) hF hw (czX4_reckonDues l X N h1) zEf_0_0 (by decide) zC_0 (z_goodV qw_284 qw_286 qw_2 qw_15 qw_287) (by decide +kernel) ⟨Nat.le_of_ble_eq_true rfl, Nat.le_of_ble_eq_true rfl⟩ ⟨rfl, rfl⟩ rfl hl.1 rfl (Nat.le_of_ble_eq_true rfl) dX4_deal_1 ⟨Nat.le_of_ble_eq_true rfl, Nat.le_of_ble_eq_true rfl⟩ (fun H locs hw => ?_)
  clear h1
  generalize g1 = g at *
  refine lv_iconst hx hb dX4_deal_4 rfl ?_
  refine lv_istore_n (lv' := [(2, z_v 0), (0, z_r N 0 0), (1, z_v x1)]) hx hb dX4_deal_5 rfl hl (by decide) rfl (fun ls hl => ?_)
  refine lv_iconst hx hb dX4_deal_6 rfl ?_
  refine lv_istore_n (lv' := [(3, z_v 0), (2, z_v 0), (0, z_r N 0 0), (1, z_v x1)]) hx hb dX4_deal_7 rfl hl (by decide) rfl (fun ls hl => ?_)
  exact hK0 x1 0 0 _ _ _ _  hw (lv_sub hl [2, 3, 1, 0] rfl) h
set_option maxHeartbeats 4000000 in
set_option maxRecDepth 100000 in
theorem wX4_swap_j111 {p : Program} {l : Launch} {e : Env} {s : State} {m : MethodId} {args : Array Value} {below : List Frame} {meth : Method} {c : Code} {X : zC} {N : zN} {o : Nat × Int} {g' : zG} {H : Heap} {locs : List Loc} {ls : Array Slot} (hF : zF p s m args meth c X cX4_swap 8 RX4) (hT : l.stackTraces = false) (hnt : ∀ x ∈ c.exceptionTable.toList, False) (hr : meth.sig.returnType = none) {g : zG} (hw : zH X N g s H locs) (hl : lv_has ls 8 []) (h : sX4_swap_j111 g = some (o, g')) : W p l e { frames := 7, cells := 4, slots := 24, locals := 111 } s m args below meth c H locs 3 18 (vx_MQ below (zYv X N o g') (zXC X N o g') args s 4 24 (zA X)) (F0 m 111 ls []) := by
  have hx := hF.1.1
  have hb := hF.1.2.1
  unfold sX4_swap_j111 at h
  exact zx_throw hF hT hnt hw hl.1 3 (by decide) rfl (List.mem_of_getElem? (i := 2) rfl) qw_440 qw_29 (by decide +kernel) zT_3 zTb_3 zTg_3 (text := "a slot time would be ahead of the planned time") (by decide +kernel) h dX4_swap_111 dX4_swap_114 dX4_swap_115 dX4_swap_117 dX4_swap_120 (Nat.le_of_ble_eq_true rfl) (Nat.le_of_ble_eq_true rfl) (Nat.le_of_ble_eq_true rfl) (Nat.le_of_ble_eq_true rfl) (Nat.le_of_ble_eq_true rfl) (Nat.le_of_ble_eq_true rfl)
set_option maxHeartbeats 4000000 in
set_option maxRecDepth 100000 in
theorem czX4_swap (l : Launch) (hT : l.stackTraces = false) (X : zC) (N : zN) {x1 : Int} {x2 : Int} {g g' : zG} {o : Nat × Int} (h : sX4_swap x1 x2 g = some (o, g')) : zXM l yX4_swap cX4_swap 8 none { frames := 7, cells := 4, slots := 24, locals := 111 } X N g [z_r N 0 0, z_v x1, z_v x2] (zYv X N o g') o g' := by
  refine z_xofW (own := RX4) (by decide +kernel) rfl (Nat.le_of_ble_eq_true rfl) ?_
  intro p e s m args below meth c ls hF hr hnt hw hl
  have hl : lv_has ls 8 [(0, z_r N 0 0), (1, z_v x1), (2, z_v x2)] := hl
  have hx := hF.1.1
  have hb := hF.1.2.1
  unfold sX4_swap at h
  generalize s.heap = H at hw ⊢
  generalize ([] : List Loc) = locs at hw ⊢
  refine lv_aload_n hx hb dX4_swap_0 rfl (lv_at hl 0 rfl) ?_
  refine lv_iload_n hx hb dX4_swap_1 rfl (lv_at hl 1 rfl) ?_
  obtain ⟨o1, g1, h1, h⟩ := zbx_some h
  refine zx_callVr (n := 1) (As := [z_v x1]) (rest := []) hF hnt hw (czX4_flightAt l hT X N h1) h zEf_0_0 (by decide) zC_0 (z_goodV qw_569 qw_571 qw_10 qw_15 qw_572) (by decide +kernel) ⟨Nat.le_of_ble_eq_true rfl, Nat.le_of_ble_eq_true rfl⟩ rfl hl.1 rfl (Nat.le_of_ble_eq_true rfl) dX4_swap_2 ⟨Nat.le_of_ble_eq_true rfl, Nat.le_of_ble_eq_true rfl⟩ ⟨Nat.le_of_ble_eq_true rfl, Nat.le_of_ble_eq_true rfl⟩ (fun H locs hw hf2 h => ?_)
  clear h1
  generalize g1 = g at *
  generalize o1.2 = r1 at *
  refine lv_astore_n (lv' := [(3, z_r N 4 ((r1).toNat)), (0, z_r N 0 0), (1, z_v x1), (2, z_v x2)]) hx hb dX4_swap_5 rfl hl (by decide) rfl (fun ls hl => ?_)
  refine lv_aload_n hx hb dX4_swap_6 rfl (lv_at hl 1 rfl) ?_
  refine lv_iload_n hx hb dX4_swap_7 rfl (lv_at hl 3 rfl) ?_
  obtain ⟨o1, g1, h1, h⟩ := zbx_some h
  refine zx_callVr (n := 1) (As := [z_v x2]) (rest := []) hF hnt hw (czX4_flightAt l hT X N h1) h zEf_0_0 (by decide) zC_0 (z_goodV qw_569 qw_571 qw_10 qw_15 qw_572) (by decide +kernel) ⟨Nat.le_of_ble_eq_true rfl, Nat.le_of_ble_eq_true rfl⟩ rfl hl.1 rfl (Nat.le_of_ble_eq_true rfl) dX4_swap_8 ⟨Nat.le_of_ble_eq_true rfl, Nat.le_of_ble_eq_true rfl⟩ ⟨Nat.le_of_ble_eq_true rfl, Nat.le_of_ble_eq_true rfl⟩ (fun H locs hw hf4 h => ?_)
  clear h1
  generalize g1 = g at *
  generalize o1.2 = r3 at *
  refine lv_astore (lv' := [(4, z_r N 4 ((r3).toNat)), (3, z_r N 4 ((r1).toNat)), (0, z_r N 0 0), (1, z_v x1), (2, z_v x2)]) hx hb dX4_swap_11 hl (by decide) rfl (fun ls hl => ?_)
  refine lv_iload_n hx hb dX4_swap_13 rfl (lv_at hl 3 rfl) ?_
  refine lv_iload_n hx hb dX4_swap_14 rfl (lv_at hl 4 rfl) ?_
  refine zr_icmp_ne (tgt := 28) hF h dX4_swap_15 (by decide) (fun h => ?_) (fun h => ?_)
  · refine lv_aload_n hx hb dX4_swap_28 rfl (lv_at hl 1 rfl) ?_
    refine lv_aload hx hb dX4_swap_29 (lv_at hl 0 rfl) ?_
    obtain ⟨r5, g1, h1, h⟩ := zbd_some h
    refine zr_callVi (n := 1) (As := [z_r N 4 ((r3).toNat)]) (rest := []) hF hw (czX1_sharesRuling l X N hf2 hf4 h1) hf2 (by decide) zC_4 (z_goodV qw_725 qw_726 qw_727 qw_30 qw_728) (by decide +kernel) ⟨Nat.le_of_ble_eq_true rfl, Nat.le_of_ble_eq_true rfl⟩ ⟨rfl, rfl⟩ rfl hl.1 rfl (Nat.le_of_ble_eq_true rfl) dX4_swap_31 ⟨Nat.le_of_ble_eq_true rfl, Nat.le_of_ble_eq_true rfl⟩ (fun H locs hw => ?_)
    clear h1
    generalize g1 = g at *
    refine zr_if_ne (tgt := 47) hF h dX4_swap_34 (by decide) (fun h => ?_) (fun h => ?_)
    · refine lv_aload_n hx hb dX4_swap_47 rfl (lv_at hl 2 rfl) ?_
      refine lv_aload_n hx hb dX4_swap_48 rfl (lv_at hl 1 rfl) ?_
      refine zr_get hF hw hf2 (by decide) zC_4 5 (by decide) qw_472 rfl dX4_swap_49 ?_
      obtain ⟨o1, g1, h1, h⟩ := zbx_some h
      refine zx_callVr (n := 1) (As := [z_v (g 4 ((r1).toNat) 5)]) (rest := []) hF hnt hw (czX4_regulationAt l hT X N h1) h zEf_0_0 (by decide) zC_0 (z_goodV qw_622 qw_624 qw_11 qw_15 qw_625) (by decide +kernel) ⟨Nat.le_of_ble_eq_true rfl, Nat.le_of_ble_eq_true rfl⟩ rfl hl.1 rfl (Nat.le_of_ble_eq_true rfl) dX4_swap_52 ⟨Nat.le_of_ble_eq_true rfl, Nat.le_of_ble_eq_true rfl⟩ ⟨Nat.le_of_ble_eq_true rfl, Nat.le_of_ble_eq_true rfl⟩ (fun H locs hw hf7 h => ?_)
      clear h1
      generalize g1 = g at *
      generalize o1.2 = r6 at *
      refine zr_get hF hw hf7 (by decide) zC_5 0 (by decide) qw_598 rfl dX4_swap_55 ?_
      refine zr_let h (fun v8 h => ?_)
      refine lv_istore (lv' := [(5, z_v v8), (4, z_r N 4 ((r3).toNat)), (3, z_r N 4 ((r1).toNat)), (0, z_r N 0 0), (1, z_v x1), (2, z_v x2)]) hx hb dX4_swap_58 hl (by decide) rfl (fun ls hl => ?_)
      refine lv_aload hx hb dX4_swap_60 (lv_at hl 1 rfl) ?_
      refine lv_iload hx hb dX4_swap_62 (lv_at hl 0 rfl) ?_
      obtain ⟨r9, g1, h1, h⟩ := zbd_some h
      refine zr_callVi (n := 1) (As := [z_v v8]) (rest := []) hF hw (czX1_timeOver l X N hf4 h1) hf4 (by decide) zC_4 (z_goodV qw_253 qw_254 qw_255 qw_30 qw_256) (by decide +kernel) ⟨Nat.le_of_ble_eq_true rfl, Nat.le_of_ble_eq_true rfl⟩ ⟨rfl, rfl⟩ rfl hl.1 rfl (Nat.le_of_ble_eq_true rfl) dX4_swap_64 ⟨Nat.le_of_ble_eq_true rfl, Nat.le_of_ble_eq_true rfl⟩ (fun H locs hw => ?_)
      clear h1
      generalize g1 = g at *
      refine lv_aload_n hx hb dX4_swap_67 rfl (lv_at hl 2 rfl) ?_
      refine lv_iload hx hb dX4_swap_68 (lv_at hl 0 rfl) ?_
      obtain ⟨r10, g1, h1, h⟩ := zbd_some h
      refine zr_callVi (n := 1) (As := [z_v v8]) (rest := [z_v r9]) hF hw (czX1_behindAt l X N hf2 h1) hf2 (by decide) zC_4 (z_goodV qw_730 qw_258 qw_259 qw_30 qw_260) (by decide +kernel) ⟨Nat.le_of_ble_eq_true rfl, Nat.le_of_ble_eq_true rfl⟩ ⟨rfl, rfl⟩ rfl hl.1 rfl (Nat.le_of_ble_eq_true rfl) dX4_swap_70 ⟨Nat.le_of_ble_eq_true rfl, Nat.le_of_ble_eq_true rfl⟩ (fun H locs hw => ?_)
      clear h1
      generalize g1 = g at *
      refine zr_isub hF dX4_swap_73 ?_
      refine zr_let h (fun v11 h => ?_)
      refine lv_istore (lv' := [(6, z_v v11), (5, z_v v8), (4, z_r N 4 ((r3).toNat)), (3, z_r N 4 ((r1).toNat)), (0, z_r N 0 0), (1, z_v x1), (2, z_v x2)]) hx hb dX4_swap_74 hl (by decide) rfl (fun ls hl => ?_)
      refine lv_aload_n hx hb dX4_swap_76 rfl (lv_at hl 3 rfl) ?_
      refine lv_iload hx hb dX4_swap_77 (lv_at hl 1 rfl) ?_
      obtain ⟨r12, g1, h1, h⟩ := zbd_some h
      refine zr_callVi (n := 1) (As := [z_v v8]) (rest := []) hF hw (czX1_timeOver l X N hf2 h1) hf2 (by decide) zC_4 (z_goodV qw_253 qw_254 qw_255 qw_30 qw_256) (by decide +kernel) ⟨Nat.le_of_ble_eq_true rfl, Nat.le_of_ble_eq_true rfl⟩ ⟨rfl, rfl⟩ rfl hl.1 rfl (Nat.le_of_ble_eq_true rfl) dX4_swap_79 ⟨Nat.le_of_ble_eq_true rfl, Nat.le_of_ble_eq_true rfl⟩ (fun H locs hw => ?_)
      clear h1
      generalize g1 = g at *
      refine lv_aload hx hb dX4_swap_82 (lv_at hl 2 rfl) ?_
      refine lv_iload hx hb dX4_swap_84 (lv_at hl 1 rfl) ?_
      obtain ⟨r13, g1, h1, h⟩ := zbd_some h
      refine zr_callVi (n := 1) (As := [z_v v8]) (rest := [z_v r12]) hF hw (czX1_behindAt l X N hf4 h1) hf4 (by decide) zC_4 (z_goodV qw_730 qw_258 qw_259 qw_30 qw_260) (by decide +kernel) ⟨Nat.le_of_ble_eq_true rfl, Nat.le_of_ble_eq_true rfl⟩ ⟨rfl, rfl⟩ rfl hl.1 rfl (Nat.le_of_ble_eq_true rfl) dX4_swap_86 ⟨Nat.le_of_ble_eq_true rfl, Nat.le_of_ble_eq_true rfl⟩ (fun H locs hw => ?_)
      clear h1
      generalize g1 = g at *
      refine zr_isub hF dX4_swap_89 ?_
      refine zr_let h (fun v14 h => ?_)
      refine lv_istore (lv' := [(7, z_v v14), (6, z_v v11), (5, z_v v8), (4, z_r N 4 ((r3).toNat)), (3, z_r N 4 ((r1).toNat)), (0, z_r N 0 0), (1, z_v x1), (2, z_v x2)]) hx hb dX4_swap_90 hl (by decide) rfl (fun ls hl => ?_)
      refine lv_iload hx hb dX4_swap_92 (lv_at hl 1 rfl) ?_
      refine lv_aload_n hx hb dX4_swap_94 rfl (lv_at hl 4 rfl) ?_
      refine zr_get hF hw hf2 (by decide) zC_4 1 (by decide) qw_464 rfl dX4_swap_95 ?_
      refine zr_icmp_lt (tgt := 111) hF h dX4_swap_98 (by decide) (fun h => ?_) (fun h => ?_)
      · exact wX4_swap_j111 hF hT hnt hr  hw (lv_sub hl [] rfl) h
      · refine lv_iload hx hb dX4_swap_101 (lv_at hl 0 rfl) ?_
        refine lv_aload hx hb dX4_swap_103 (lv_at hl 3 rfl) ?_
        refine zr_get hF hw hf4 (by decide) zC_4 1 (by decide) qw_464 rfl dX4_swap_105 ?_
        refine zr_icmp_ge (tgt := 121) hF h dX4_swap_108 (by decide) (fun h => ?_) (fun h => ?_)
        · refine lv_aload_n hx hb dX4_swap_121 rfl (lv_at hl 4 rfl) ?_
          refine lv_iload hx hb dX4_swap_122 (lv_at hl 1 rfl) ?_
          refine zr_put hF hw hf2 (by decide) zC_4 4 (by decide) (by decide) qw_470 rfl (by decide +kernel) h dX4_swap_124 (fun g H locs hw h => ?_)
          refine lv_aload hx hb dX4_swap_127 (lv_at hl 3 rfl) ?_
          refine lv_iload hx hb dX4_swap_129 (lv_at hl 0 rfl) ?_
          refine zr_put hF hw hf4 (by decide) zC_4 4 (by decide) (by decide) qw_470 rfl (by decide +kernel) h dX4_swap_131 (fun g H locs hw h => ?_)
          exact zx_vret hF hr hw h dX4_swap_134 ⟨Nat.le_of_ble_eq_true rfl, Nat.le_of_ble_eq_true rfl⟩
        · exact wX4_swap_j111 hF hT hnt hr  hw (lv_sub hl [] rfl) h
    · exact zx_throw hF hT hnt hw hl.1 3 (by decide) rfl (List.mem_of_getElem? (i := 2) rfl) qw_440 qw_29 (by decide +kernel) zT_3 zTb_3 zTg_3 (text := "the flights cannot be swapped") (by decide +kernel) h dX4_swap_37 dX4_swap_40 dX4_swap_41 dX4_swap_43 dX4_swap_46 (Nat.le_of_ble_eq_true rfl) (Nat.le_of_ble_eq_true rfl) (Nat.le_of_ble_eq_true rfl) (Nat.le_of_ble_eq_true rfl) (Nat.le_of_ble_eq_true rfl) (Nat.le_of_ble_eq_true rfl)
  · exact zx_throw hF hT hnt hw hl.1 2 (by decide) rfl (List.mem_of_getElem? (i := 1) rfl) qw_214 qw_28 (by decide +kernel) zT_2 zTb_2 zTg_2 (text := "a flight is not swapped with itself") (by decide +kernel) h dX4_swap_18 dX4_swap_21 dX4_swap_22 dX4_swap_24 dX4_swap_27 (Nat.le_of_ble_eq_true rfl) (Nat.le_of_ble_eq_true rfl) (Nat.le_of_ble_eq_true rfl) (Nat.le_of_ble_eq_true rfl) (Nat.le_of_ble_eq_true rfl) (Nat.le_of_ble_eq_true rfl)
set_option maxHeartbeats 4000000 in
set_option maxRecDepth 100000 in
theorem wX4_message_j35 {p : Program} {l : Launch} {e : Env} {s : State} {m : MethodId} {args : Array Value} {below : List Frame} {meth : Method} {c : Code} {X : zC} {N : zN} {o : Nat × Int} {g' : zG} {H : Heap} {locs : List Loc} {ls : Array Slot} (hF : zF p s m args meth c X cX4_message 6 RX4) (hT : l.stackTraces = false) (hnt : ∀ x ∈ c.exceptionTable.toList, False) (hr : meth.sig.returnType = (some .boolean)) {x2 : Int} {x3 : Int} {x4 : Int} {i5 : Nat} {t0 : Int} {t1 : Int} {t2 : Int} {g : zG} (he5 : zE N 4 i5) (hw : zH X N g s H locs) (hl : lv_has ls 6 [(2, z_v x2), (3, z_v x3), (4, z_v x4), (5, z_r N 4 i5)]) (h : sX4_message_j35 x2 x3 x4 i5 t0 t1 t2 g = some (o, g')) : W p l e { frames := 7, cells := 4, slots := 24, locals := 112 } s m args below meth c H locs 3 18 (vx_MQ below (zYi X N o g') (zXC X N o g') args s 4 24 (zA X)) (F0 m 35 ls [z_v t2, z_v t1, z_v t0]) := by
  have hx := hF.1.1
  have hb := hF.1.2.1
  unfold sX4_message_j35 at h
  obtain ⟨o1, g1, h1, h⟩ := zbx_some h
  refine zx_callSv (n := 3) (As := [z_v t0, z_v t1, z_v t2]) (rest := []) hF hnt hw (czX4_checkRange l hT X N h1) h (z_goodS qw_211 qw_212 qw_15 qw_213) (by decide +kernel) ⟨Nat.le_of_ble_eq_true rfl, Nat.le_of_ble_eq_true rfl⟩ rfl hl.1 rfl (Nat.le_of_ble_eq_true rfl) dX4_message_35 ⟨Nat.le_of_ble_eq_true rfl, Nat.le_of_ble_eq_true rfl⟩ ⟨Nat.le_of_ble_eq_true rfl, Nat.le_of_ble_eq_true rfl⟩ (fun H locs hw h => ?_)
  clear h1
  generalize g1 = g at *
  generalize o1.2 = r1 at *
  refine lv_aload hx hb dX4_message_38 (lv_at hl 3 rfl) ?_
  refine zr_get hF hw he5 (by decide) zC_4 2 (by decide) qw_466 rfl dX4_message_40 ?_
  refine zr_if_ne (tgt := 55) hF h dX4_message_43 (by decide) (fun h => ?_) (fun h => ?_)
  · refine lv_iconst hx hb dX4_message_55 rfl ?_
    exact zx_zret hF hr hw h dX4_message_56 ⟨Nat.le_of_ble_eq_true rfl, Nat.le_of_ble_eq_true rfl⟩
  · refine lv_iload_n hx hb dX4_message_46 rfl (lv_at hl 0 rfl) ?_
    refine lv_aload hx hb dX4_message_47 (lv_at hl 3 rfl) ?_
    refine zr_get hF hw he5 (by decide) zC_4 7 (by decide) qw_475 rfl dX4_message_49 ?_
    refine zr_icmp_gt (tgt := 57) hF h dX4_message_52 (by decide) (fun h => ?_) (fun h => ?_)
    · refine lv_aload hx hb dX4_message_57 (lv_at hl 3 rfl) ?_
      refine lv_iload_n hx hb dX4_message_59 rfl (lv_at hl 0 rfl) ?_
      refine zr_put hF hw he5 (by decide) zC_4 7 (by decide) (by decide) qw_475 rfl (by decide +kernel) h dX4_message_60 (fun g H locs hw h => ?_)
      refine lv_aload hx hb dX4_message_63 (lv_at hl 3 rfl) ?_
      refine lv_iload_n hx hb dX4_message_65 rfl (lv_at hl 1 rfl) ?_
      refine lv_iload hx hb dX4_message_66 (lv_at hl 2 rfl) ?_
      obtain ⟨r3, g1, h1, h⟩ := zbd_some h
      refine zr_callVv (n := 2) (As := [z_v x3, z_v x4]) (rest := []) hF hw (czX1_follow l X N he5 h1) he5 (by decide) zC_4 (z_goodV qw_758 qw_759 qw_760 qw_30 qw_761) (by decide +kernel) ⟨Nat.le_of_ble_eq_true rfl, Nat.le_of_ble_eq_true rfl⟩ ⟨rfl, rfl⟩ rfl hl.1 rfl (Nat.le_of_ble_eq_true rfl) dX4_message_68 ⟨Nat.le_of_ble_eq_true rfl, Nat.le_of_ble_eq_true rfl⟩ (fun H locs hw => ?_)
      clear h1
      generalize g1 = g at *
      refine lv_iconst hx hb dX4_message_71 rfl ?_
      exact zx_zret hF hr hw h dX4_message_72 ⟨Nat.le_of_ble_eq_true rfl, Nat.le_of_ble_eq_true rfl⟩
    · refine lv_iconst hx hb dX4_message_55 rfl ?_
      exact zx_zret hF hr hw h dX4_message_56 ⟨Nat.le_of_ble_eq_true rfl, Nat.le_of_ble_eq_true rfl⟩
set_option maxHeartbeats 4000000 in
set_option maxRecDepth 100000 in
theorem czX4_message (l : Launch) (hT : l.stackTraces = false) (X : zC) (N : zN) {x1 : Int} {x2 : Int} {x3 : Int} {x4 : Int} {g g' : zG} {o : Nat × Int} (h : sX4_message x1 x2 x3 x4 g = some (o, g')) : zXM l yX4_message cX4_message 6 (some .boolean) { frames := 7, cells := 4, slots := 24, locals := 112 } X N g [z_r N 0 0, z_v x1, z_v x2, z_v x3, z_v x4] (zYi X N o g') o g' := by
  refine z_xofW (own := RX4) (by decide +kernel) rfl (Nat.le_of_ble_eq_true rfl) ?_
  intro p e s m args below meth c ls hF hr hnt hw hl
  have hl : lv_has ls 6 [(0, z_r N 0 0), (1, z_v x1), (2, z_v x2), (3, z_v x3), (4, z_v x4)] := hl
  have hx := hF.1.1
  have hb := hF.1.2.1
  unfold sX4_message at h
  generalize s.heap = H at hw ⊢
  generalize ([] : List Loc) = locs at hw ⊢
  refine lv_aload_n hx hb dX4_message_0 rfl (lv_at hl 0 rfl) ?_
  refine lv_iload_n hx hb dX4_message_1 rfl (lv_at hl 1 rfl) ?_
  obtain ⟨o1, g1, h1, h⟩ := zbx_some h
  refine zx_callVr (n := 1) (As := [z_v x1]) (rest := []) hF hnt hw (czX4_flightAt l hT X N h1) h zEf_0_0 (by decide) zC_0 (z_goodV qw_569 qw_571 qw_10 qw_15 qw_572) (by decide +kernel) ⟨Nat.le_of_ble_eq_true rfl, Nat.le_of_ble_eq_true rfl⟩ rfl hl.1 rfl (Nat.le_of_ble_eq_true rfl) dX4_message_2 ⟨Nat.le_of_ble_eq_true rfl, Nat.le_of_ble_eq_true rfl⟩ ⟨Nat.le_of_ble_eq_true rfl, Nat.le_of_ble_eq_true rfl⟩ (fun H locs hw hf2 h => ?_)
  clear h1
  generalize g1 = g at *
  generalize o1.2 = r1 at *
  refine lv_astore (lv' := [(5, z_r N 4 ((r1).toNat)), (0, z_r N 0 0), (1, z_v x1), (2, z_v x2), (3, z_v x3), (4, z_v x4)]) hx hb dX4_message_5 hl (by decide) rfl (fun ls hl => ?_)
  refine lv_iload_n hx hb dX4_message_7 rfl (lv_at hl 3 rfl) ?_
  refine lv_iconst hx hb dX4_message_8 rfl ?_
  refine lv_bipush (v := Int32.ofInt (99)) hx hb dX4_message_9 (by decide) ?_
  obtain ⟨o1, g1, h1, h⟩ := zbx_some h
  refine zx_callSv (n := 3) (As := [z_v x2, z_v 1, z_v 99]) (rest := []) hF hnt hw (czX4_checkRange l hT X N h1) h (z_goodS qw_211 qw_212 qw_15 qw_213) (by decide +kernel) ⟨Nat.le_of_ble_eq_true rfl, Nat.le_of_ble_eq_true rfl⟩ rfl hl.1 rfl (Nat.le_of_ble_eq_true rfl) dX4_message_11 ⟨Nat.le_of_ble_eq_true rfl, Nat.le_of_ble_eq_true rfl⟩ ⟨Nat.le_of_ble_eq_true rfl, Nat.le_of_ble_eq_true rfl⟩ (fun H locs hw h => ?_)
  clear h1
  generalize g1 = g at *
  generalize o1.2 = r3 at *
  refine lv_iload_n hx hb dX4_message_14 rfl (lv_at hl 4 rfl) ?_
  refine lv_iconst hx hb dX4_message_15 rfl ?_
  refine lv_iconst hx hb dX4_message_16 rfl ?_
  obtain ⟨o1, g1, h1, h⟩ := zbx_some h
  refine zx_callSv (n := 3) (As := [z_v x3, z_v 0, z_v 2]) (rest := []) hF hnt hw (czX4_checkRange l hT X N h1) h (z_goodS qw_211 qw_212 qw_15 qw_213) (by decide +kernel) ⟨Nat.le_of_ble_eq_true rfl, Nat.le_of_ble_eq_true rfl⟩ rfl hl.1 rfl (Nat.le_of_ble_eq_true rfl) dX4_message_17 ⟨Nat.le_of_ble_eq_true rfl, Nat.le_of_ble_eq_true rfl⟩ ⟨Nat.le_of_ble_eq_true rfl, Nat.le_of_ble_eq_true rfl⟩ (fun H locs hw h => ?_)
  clear h1
  generalize g1 = g at *
  generalize o1.2 = r5 at *
  refine lv_iload hx hb dX4_message_20 (lv_at hl 5 rfl) ?_
  refine lv_iconst hx hb dX4_message_22 rfl ?_
  refine lv_iload_n hx hb dX4_message_23 rfl (lv_at hl 4 rfl) ?_
  refine lv_iconst hx hb dX4_message_24 rfl ?_
  refine zr_icmp_ne (tgt := 32) hF h dX4_message_25 (by decide) (fun h => ?_) (fun h => ?_)
  · refine lv_sipush (v := Int32.ofInt (1439)) hx hb dX4_message_32 (by decide) ?_
    exact wX4_message_j35 hF hT hnt hr hf2 hw (lv_sub hl [3, 4, 5, 0] rfl) h
  · refine lv_iconst hx hb dX4_message_28 rfl ?_
    refine lv_goto (tgt := 35) hx hb dX4_message_29 (by decide) ?_
    exact wX4_message_j35 hF hT hnt hr hf2 hw (lv_sub hl [3, 4, 5, 0] rfl) h
set_option maxHeartbeats 4000000 in
set_option maxRecDepth 100000 in
theorem wX4_checkCompany_j9 {p : Program} {l : Launch} {e : Env} {s : State} {m : MethodId} {args : Array Value} {below : List Frame} {meth : Method} {c : Code} {X : zC} {N : zN} {o : Nat × Int} {g' : zG} {H : Heap} {locs : List Loc} {ls : Array Slot} (hF : zF p s m args meth c X cX4_checkCompany 1 RX4) (hT : l.stackTraces = false) (hnt : ∀ x ∈ c.exceptionTable.toList, False) (hr : meth.sig.returnType = none) {g : zG} (hw : zH X N g s H locs) (hl : lv_has ls 1 []) (h : sX4_checkCompany_j9 g = some (o, g')) : W p l e { frames := 6, cells := 1, slots := 6, locals := 90 } s m args below meth c H locs 0 0 (vx_MQ below (zYv X N o g') (zXC X N o g') args s 1 6 (zA X)) (F0 m 9 ls []) := by
  have hx := hF.1.1
  have hb := hF.1.2.1
  unfold sX4_checkCompany_j9 at h
  exact zx_throwW hF hT hnt hw hl.1 1 (by decide) rfl (List.mem_of_getElem? (i := 0) rfl) qw_143 qw_27 (by decide +kernel) zT_1 zTb_1 zTg_1 (text := "no such company") (by decide +kernel) h dX4_checkCompany_9 dX4_checkCompany_12 dX4_checkCompany_13 dX4_checkCompany_16 dX4_checkCompany_19 (Nat.le_of_ble_eq_true rfl) (Nat.le_of_ble_eq_true rfl) (Nat.le_of_ble_eq_true rfl) (Nat.le_of_ble_eq_true rfl) (Nat.le_of_ble_eq_true rfl) (Nat.le_of_ble_eq_true rfl)
set_option maxHeartbeats 4000000 in
set_option maxRecDepth 100000 in
theorem czX4_checkCompany (l : Launch) (hT : l.stackTraces = false) (X : zC) (N : zN) {x0 : Int} {g g' : zG} {o : Nat × Int} (h : sX4_checkCompany x0 g = some (o, g')) : zXM l yX4_checkCompany cX4_checkCompany 1 none { frames := 6, cells := 1, slots := 6, locals := 90 } X N g [z_v x0] (zYv X N o g') o g' := by
  refine z_xofW (own := RX4) (by decide +kernel) rfl (Nat.le_of_ble_eq_true rfl) ?_
  intro p e s m args below meth c ls hF hr hnt hw hl
  have hl : lv_has ls 1 [(0, z_v x0)] := hl
  have hx := hF.1.1
  have hb := hF.1.2.1
  unfold sX4_checkCompany at h
  generalize s.heap = H at hw ⊢
  generalize ([] : List Loc) = locs at hw ⊢
  refine lv_iload_n hx hb dX4_checkCompany_0 rfl (lv_at hl 0 rfl) ?_
  refine zr_if_lt (tgt := 9) hF h dX4_checkCompany_1 (by decide) (fun h => ?_) (fun h => ?_)
  · exact wX4_checkCompany_j9 hF hT hnt hr  hw (lv_sub hl [] rfl) h
  · refine lv_iload_n hx hb dX4_checkCompany_4 rfl (lv_at hl 0 rfl) ?_
    refine lv_iconst hx hb dX4_checkCompany_5 rfl ?_
    refine zr_icmp_lt (tgt := 20) hF h dX4_checkCompany_6 (by decide) (fun h => ?_) (fun h => ?_)
    · exact zx_vret hF hr hw h dX4_checkCompany_20 ⟨Nat.le_of_ble_eq_true rfl, Nat.le_of_ble_eq_true rfl⟩
    · exact wX4_checkCompany_j9 hF hT hnt hr  hw (lv_sub hl [] rfl) h
set_option maxHeartbeats 4000000 in
set_option maxRecDepth 100000 in
theorem wX4_companyIs_h15 {p : Program} {l : Launch} {e : Env} {s : State} {m : MethodId} {args : Array Value} {below : List Frame} {meth : Method} {c : Code} {X : zC} {N : zN} {o : Nat × Int} {g' : zG} {H : Heap} {locs : List Loc} {ls : Array Slot} (hF : zF p s m args meth c X cX4_companyIs 6 RX4) (hT : l.stackTraces = false) (hnt : ∀ x ∈ c.exceptionTable.toList, False) (hr : meth.sig.returnType = (some .int)) {n : Nat} {K : Nat → Int → Int → Int → Int → zG → Option ((Nat × Int) × zG)} (hK0 : ∀ (x1 : Int) (x2 : Int) (x3 : Int) (x4 : Int) (g : zG) (H : Heap) (locs : List Loc) (ls : Array Slot), zH X N g s H locs → lv_has ls 6 [(0, z_r N 0 0), (1, z_v x1), (2, z_v x2), (3, z_v x3), (4, z_v x4)] → K 0 x1 x2 x3 x4 g = some (o, g') → W p l e { frames := 7, cells := 2, slots := 12, locals := 112 } s m args below meth c H locs 2 12 (vx_MQ below (zYi X N o g') (zXC X N o g') args s 2 12 (zA X)) (F0 m 15 ls [])) {x1 : Int} {x2 : Int} {x3 : Int} {x4 : Int} {g : zG} (hw : zH X N g s H locs) (hl : lv_has ls 6 [(0, z_r N 0 0), (1, z_v x1), (2, z_v x2), (3, z_v x3), (4, z_v x4)]) (h : sX4_companyIs_h15 n K x1 x2 x3 x4 g = some (o, g')) : W p l e { frames := 7, cells := 2, slots := 12, locals := 112 } s m args below meth c H locs 2 12 (vx_MQ below (zYi X N o g') (zXC X N o g') args s 2 12 (zA X)) (F0 m 15 ls []) := by
  have hx := hF.1.1
  have hb := hF.1.2.1
  unfold sX4_companyIs_h15 at h
  refine lv_iload hx hb dX4_companyIs_15 (lv_at hl 4 rfl) ?_
  refine lv_aload_n hx hb dX4_companyIs_17 rfl (lv_at hl 0 rfl) ?_
  refine zr_get hF hw zEf_0_0 (by decide) zC_0 0 (by decide) qw_123 rfl dX4_companyIs_18 ?_
  refine zr_size hF hw hl.1 (i := 0) zEf_1_0 qw_234 (Nat.le_of_ble_eq_true rfl) dX4_companyIs_21 ⟨Nat.le_of_ble_eq_true rfl, Nat.le_of_ble_eq_true rfl⟩ ⟨Nat.le_of_ble_eq_true rfl, Nat.le_of_ble_eq_true rfl⟩ (fun H locs hw => ?_)
  refine zr_icmp_ge (tgt := 65) hF h dX4_companyIs_24 (by decide) (fun h => ?_) (fun h => ?_)
  · refine lv_iload_n hx hb dX4_companyIs_65 rfl (lv_at hl 3 rfl) ?_
    exact zx_iret hF hr hw h dX4_companyIs_66 ⟨Nat.le_of_ble_eq_true rfl, Nat.le_of_ble_eq_true rfl⟩
  · refine lv_aload_n hx hb dX4_companyIs_27 rfl (lv_at hl 0 rfl) ?_
    refine zr_get hF hw zEf_0_0 (by decide) zC_0 0 (by decide) qw_123 rfl dX4_companyIs_28 ?_
    refine lv_iload hx hb dX4_companyIs_31 (lv_at hl 4 rfl) ?_
    refine zr_lget0 hF hw hl.1 qw_238 h (Nat.le_of_ble_eq_true rfl) dX4_companyIs_33 ⟨Nat.le_of_ble_eq_true rfl, Nat.le_of_ble_eq_true rfl⟩ ⟨Nat.le_of_ble_eq_true rfl, Nat.le_of_ble_eq_true rfl⟩ (fun H locs hw hf1 h => ?_)
    refine zr_cast hF hw hf1 (by decide) zC_4 qw_252 dX4_companyIs_36 ?_
    refine lv_astore (lv' := [(5, z_r N 4 ((x4).toNat)), (0, z_r N 0 0), (1, z_v x1), (2, z_v x2), (3, z_v x3), (4, z_v x4)]) hx hb dX4_companyIs_39 hl (by decide) rfl (fun ls hl => ?_)
    refine lv_aload hx hb dX4_companyIs_41 (lv_at hl 0 rfl) ?_
    refine zr_get hF hw hf1 (by decide) zC_4 0 (by decide) qw_462 rfl dX4_companyIs_43 ?_
    refine lv_iload_n hx hb dX4_companyIs_46 rfl (lv_at hl 2 rfl) ?_
    refine zr_icmp_ne (tgt := 59) hF h dX4_companyIs_47 (by decide) (fun h => ?_) (fun h => ?_)
    · refine zr_iinc hF (lv' := fun v2 => [(4, z_v v2), (5, z_r N 4 ((x4).toNat)), (0, z_r N 0 0), (1, z_v x1), (2, z_v x2), (3, z_v x3)]) h dX4_companyIs_59 hl (k := 5) rfl (by decide) (fun _ => rfl) (fun v2 ls hl h => ?_)
      refine lv_goto (tgt := 15) hx hb dX4_companyIs_62 (by decide) ?_
      exact hK0 x1 x2 x3 v2 _ _ _ _  hw (lv_sub hl [2, 3, 4, 5, 0] rfl) h
    · refine lv_iload_n hx hb dX4_companyIs_50 rfl (lv_at hl 4 rfl) ?_
      refine lv_aload hx hb dX4_companyIs_51 (lv_at hl 0 rfl) ?_
      refine lv_iload_n hx hb dX4_companyIs_53 rfl (lv_at hl 3 rfl) ?_
      obtain ⟨r3, g1, h1, h⟩ := zbd_some h
      refine zr_callVi (n := 1) (As := [z_v x2]) (rest := [z_v x3]) hF hw (czX1_ledgerLine l X N hf1 h1) hf1 (by decide) zC_4 (z_goodV qw_410 qw_411 qw_412 qw_30 qw_413) (by decide +kernel) ⟨Nat.le_of_ble_eq_true rfl, Nat.le_of_ble_eq_true rfl⟩ ⟨rfl, rfl⟩ rfl hl.1 rfl (Nat.le_of_ble_eq_true rfl) dX4_companyIs_54 ⟨Nat.le_of_ble_eq_true rfl, Nat.le_of_ble_eq_true rfl⟩ (fun H locs hw => ?_)
      clear h1
      generalize g1 = g at *
      refine zr_iadd hF dX4_companyIs_57 ?_
      refine zr_let h (fun v4 h => ?_)
      refine lv_istore_n (lv' := [(3, z_v v4), (5, z_r N 4 ((x4).toNat)), (0, z_r N 0 0), (1, z_v x1), (2, z_v x2), (4, z_v x4)]) hx hb dX4_companyIs_58 rfl hl (by decide) rfl (fun ls hl => ?_)
      refine zr_iinc hF (lv' := fun v5 => [(4, z_v v5), (3, z_v v4), (5, z_r N 4 ((x4).toNat)), (0, z_r N 0 0), (1, z_v x1), (2, z_v x2)]) h dX4_companyIs_59 hl (k := 5) rfl (by decide) (fun _ => rfl) (fun v5 ls hl h => ?_)
      refine lv_goto (tgt := 15) hx hb dX4_companyIs_62 (by decide) ?_
      exact hK0 x1 x2 v4 v5 _ _ _ _  hw (lv_sub hl [3, 4, 5, 1, 0] rfl) h
set_option maxHeartbeats 4000000 in
set_option maxRecDepth 100000 in
theorem wX4_companyIs_run {p : Program} {l : Launch} {e : Env} {s : State} {m : MethodId} {args : Array Value} {below : List Frame} {meth : Method} {c : Code} {X : zC} {N : zN} {o : Nat × Int} {g' : zG} (hF : zF p s m args meth c X cX4_companyIs 6 RX4) (hT : l.stackTraces = false) (hnt : ∀ x ∈ c.exceptionTable.toList, False) (hr : meth.sig.returnType = (some .int)) {n0 : Nat} : ∀ n : Nat, (∀ (x1 : Int) (x2 : Int) (x3 : Int) (x4 : Int) (g : zG) (H : Heap) (locs : List Loc) (ls : Array Slot), zH X N g s H locs → lv_has ls 6 [(0, z_r N 0 0), (1, z_v x1), (2, z_v x2), (3, z_v x3), (4, z_v x4)] → sX4_companyIs_run n0 n 0 x1 x2 x3 x4 g = some (o, g') → W p l e { frames := 7, cells := 2, slots := 12, locals := 112 } s m args below meth c H locs 2 12 (vx_MQ below (zYi X N o g') (zXC X N o g') args s 2 12 (zA X)) (F0 m 15 ls [])) := by
  intro n
  induction n with
  | zero => exact fun _ _ _ _ _ _ _ _ _ _  h => (by cases h)
  | succ n ih => exact fun x1 x2 x3 x4 g H locs ls  hw hl h => wX4_companyIs_h15 hF hT hnt hr ih  hw hl h
set_option maxHeartbeats 4000000 in
set_option maxRecDepth 100000 in
theorem czX4_companyIs (l : Launch) (hT : l.stackTraces = false) (X : zC) (N : zN) {n : Nat} {x1 : Int} {x2 : Int} {g g' : zG} {o : Nat × Int} (h : sX4_companyIs n x1 x2 g = some (o, g')) : zXM l yX4_companyIs cX4_companyIs 6 (some .int) { frames := 7, cells := 2, slots := 12, locals := 112 } X N g [z_r N 0 0, z_v x1, z_v x2] (zYi X N o g') o g' := by
  refine z_xofW (own := RX4) (by decide +kernel) rfl (Nat.le_of_ble_eq_true rfl) ?_
  intro p e s m args below meth c ls hF hr hnt hw hl
  have hl : lv_has ls 6 [(0, z_r N 0 0), (1, z_v x1), (2, z_v x2)] := hl
  have hx := hF.1.1
  have hb := hF.1.2.1
  have hKK := wX4_companyIs_run hF hT hnt hr (o := o) (g' := g') (X := X) (N := N) (n0 := n) (l := l) (e := e) (below := below) n
  have hK0 := hKK
  unfold sX4_companyIs at h
  generalize s.heap = H at hw ⊢
  generalize ([] : List Loc) = locs at hw ⊢
  refine lv_iload_n hx hb dX4_companyIs_0 rfl (lv_at hl 1 rfl) ?_
  obtain ⟨o1, g1, h1, h⟩ := zbx_some h
  refine zx_callSv (n := 1) (As := [z_v x1]) (rest := []) hF hnt hw (czX4_checkCompany l hT X N h1) h (z_goodS qw_406 qw_407 qw_15 qw_408) (by decide +kernel) ⟨Nat.le_of_ble_eq_true rfl, Nat.le_of_ble_eq_true rfl⟩ rfl hl.1 rfl (Nat.le_of_ble_eq_true rfl) dX4_companyIs_1 ⟨Nat.le_of_ble_eq_true rfl, Nat.le_of_ble_eq_true rfl⟩ ⟨Nat.le_of_ble_eq_true rfl, Nat.le_of_ble_eq_true rfl⟩ (fun H locs hw h => ?_)
  clear h1
  generalize g1 = g at *
  generalize o1.2 = r1 at *
  refine lv_iload_n hx hb dX4_companyIs_4 rfl (lv_at hl 2 rfl) ?_
  refine lv_iconst hx hb dX4_companyIs_5 rfl ?_
  refine lv_iconst hx hb dX4_companyIs_6 rfl ?_
  obtain ⟨o1, g1, h1, h⟩ := zbx_some h
  refine zx_callSv (n := 3) (As := [z_v x2, z_v 0, z_v 2]) (rest := []) hF hnt hw (czX4_checkRange l hT X N h1) h (z_goodS qw_211 qw_212 qw_15 qw_213) (by decide +kernel) ⟨Nat.le_of_ble_eq_true rfl, Nat.le_of_ble_eq_true rfl⟩ rfl hl.1 rfl (Nat.le_of_ble_eq_true rfl) dX4_companyIs_7 ⟨Nat.le_of_ble_eq_true rfl, Nat.le_of_ble_eq_true rfl⟩ ⟨Nat.le_of_ble_eq_true rfl, Nat.le_of_ble_eq_true rfl⟩ (fun H locs hw h => ?_)
  clear h1
  generalize g1 = g at *
  generalize o1.2 = r3 at *
  refine lv_iconst hx hb dX4_companyIs_10 rfl ?_
  refine lv_istore_n (lv' := [(3, z_v 0), (0, z_r N 0 0), (1, z_v x1), (2, z_v x2)]) hx hb dX4_companyIs_11 rfl hl (by decide) rfl (fun ls hl => ?_)
  refine lv_iconst hx hb dX4_companyIs_12 rfl ?_
  refine lv_istore (lv' := [(4, z_v 0), (3, z_v 0), (0, z_r N 0 0), (1, z_v x1), (2, z_v x2)]) hx hb dX4_companyIs_13 hl (by decide) rfl (fun ls hl => ?_)
  exact hK0 x1 x2 0 0 _ _ _ _  hw (lv_sub hl [2, 3, 4, 1, 0] rfl) h
set_option maxHeartbeats 4000000 in
set_option maxRecDepth 100000 in
theorem czX4_checkTerm (l : Launch) (hT : l.stackTraces = false) (X : zC) (N : zN) {x0 : Int} {x1 : Int} {x2 : Int} {g g' : zG} {o : Nat × Int} (h : sX4_checkTerm x0 x1 x2 g = some (o, g')) : zXM l yX4_checkTerm cX4_checkTerm 3 none { frames := 7, cells := 3, slots := 18, locals := 112 } X N g [z_v x0, z_v x1, z_v x2] (zYv X N o g') o g' := by
  refine z_xofW (own := RX4) (by decide +kernel) rfl (Nat.le_of_ble_eq_true rfl) ?_
  intro p e s m args below meth c ls hF hr hnt hw hl
  have hl : lv_has ls 3 [(0, z_v x0), (1, z_v x1), (2, z_v x2)] := hl
  have hx := hF.1.1
  have hb := hF.1.2.1
  unfold sX4_checkTerm at h
  generalize s.heap = H at hw ⊢
  generalize ([] : List Loc) = locs at hw ⊢
  refine lv_iload_n hx hb dX4_checkTerm_0 rfl (lv_at hl 0 rfl) ?_
  refine lv_iconst hx hb dX4_checkTerm_1 rfl ?_
  refine lv_sipush (v := Int32.ofInt (1439)) hx hb dX4_checkTerm_2 (by decide) ?_
  obtain ⟨o1, g1, h1, h⟩ := zbx_some h
  refine zx_callSv (n := 3) (As := [z_v x0, z_v 0, z_v 1439]) (rest := []) hF hnt hw (czX4_checkRange l hT X N h1) h (z_goodS qw_211 qw_212 qw_15 qw_213) (by decide +kernel) ⟨Nat.le_of_ble_eq_true rfl, Nat.le_of_ble_eq_true rfl⟩ rfl hl.1 rfl (Nat.le_of_ble_eq_true rfl) dX4_checkTerm_5 ⟨Nat.le_of_ble_eq_true rfl, Nat.le_of_ble_eq_true rfl⟩ ⟨Nat.le_of_ble_eq_true rfl, Nat.le_of_ble_eq_true rfl⟩ (fun H locs hw h => ?_)
  clear h1
  generalize g1 = g at *
  generalize o1.2 = r1 at *
  refine lv_iload_n hx hb dX4_checkTerm_8 rfl (lv_at hl 1 rfl) ?_
  refine lv_iload_n hx hb dX4_checkTerm_9 rfl (lv_at hl 0 rfl) ?_
  refine lv_iconst hx hb dX4_checkTerm_10 rfl ?_
  refine zr_iadd hF dX4_checkTerm_11 ?_
  refine lv_sipush (v := Int32.ofInt (1440)) hx hb dX4_checkTerm_12 (by decide) ?_
  obtain ⟨o1, g1, h1, h⟩ := zbx_some h
  refine zx_callSv (n := 3) (As := [z_v x1, z_v (x0 + 1), z_v 1440]) (rest := []) hF hnt hw (czX4_checkRange l hT X N h1) h (z_goodS qw_211 qw_212 qw_15 qw_213) (by decide +kernel) ⟨Nat.le_of_ble_eq_true rfl, Nat.le_of_ble_eq_true rfl⟩ rfl hl.1 rfl (Nat.le_of_ble_eq_true rfl) dX4_checkTerm_15 ⟨Nat.le_of_ble_eq_true rfl, Nat.le_of_ble_eq_true rfl⟩ ⟨Nat.le_of_ble_eq_true rfl, Nat.le_of_ble_eq_true rfl⟩ (fun H locs hw h => ?_)
  clear h1
  generalize g1 = g at *
  generalize o1.2 = r3 at *
  refine lv_iload_n hx hb dX4_checkTerm_18 rfl (lv_at hl 2 rfl) ?_
  refine lv_iconst hx hb dX4_checkTerm_19 rfl ?_
  refine lv_bipush (v := Int32.ofInt (60)) hx hb dX4_checkTerm_20 (by decide) ?_
  obtain ⟨o1, g1, h1, h⟩ := zbx_some h
  refine zx_callSv (n := 3) (As := [z_v x2, z_v 0, z_v 60]) (rest := []) hF hnt hw (czX4_checkRange l hT X N h1) h (z_goodS qw_211 qw_212 qw_15 qw_213) (by decide +kernel) ⟨Nat.le_of_ble_eq_true rfl, Nat.le_of_ble_eq_true rfl⟩ rfl hl.1 rfl (Nat.le_of_ble_eq_true rfl) dX4_checkTerm_22 ⟨Nat.le_of_ble_eq_true rfl, Nat.le_of_ble_eq_true rfl⟩ ⟨Nat.le_of_ble_eq_true rfl, Nat.le_of_ble_eq_true rfl⟩ (fun H locs hw h => ?_)
  clear h1
  generalize g1 = g at *
  generalize o1.2 = r5 at *
  exact zx_vret hF hr hw h dX4_checkTerm_25 ⟨Nat.le_of_ble_eq_true rfl, Nat.le_of_ble_eq_true rfl⟩

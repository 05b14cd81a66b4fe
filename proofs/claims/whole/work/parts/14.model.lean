/-! the reference, over the machine -/
def sX5_thrown (g : zG) : Option (Int × zG) := some (g 6 0 0, g)
def sX5_holds (x1 : Int) (g : zG) : Option (Int × zG) := zst g 6 0 0 x1 (fun g => zeq x1 0 (zbo 1 (some (1, g))) (zbo 0 (some (0, g))))
def sX5_isIn (x0 : Int) (x1 : Int) (x2 : Int) (g : zG) : Option (Int × zG) := zlt x0 x1 (zbo 0 (some (0, g))) (zle x0 x2 (zbo 1 (some (1, g))) (zbo 0 (some (0, g))))
def sX5_isFlight (x1 : Int) (g : zG) : Option (Int × zG) := zbd (sX5_isIn x1 0 ((g 6 0 1) - 1) g) (fun r1 g => zbo r1 (some (r1, g)))
def sX5_isRegulation (x1 : Int) (g : zG) : Option (Int × zG) := zbd (sX5_isIn x1 0 ((g 6 0 14) - 1) g) (fun r1 g => zbo r1 (some (r1, g)))
def sX5_isSector (x0 : Int) (g : zG) : Option (Int × zG) := zbd (sX5_isIn x0 0 5 g) (fun r1 g => zbo r1 (some (r1, g)))
def sX5_flight_j43 (n : Nat) (K : Nat → Int → zG → Option (Int × zG)) (x1 : Int) (x2 : Int) (t1 : Int) (g : zG) : Option (Int × zG) := zbd (sX5_holds t1 g) (fun r1 g => zeq r1 0 (some (0, g)) (zix (g 6 0 1) 24 (zst g 20 0 (g 6 0 1).toNat x1 (fun g => zix (g 6 0 1) 24 (zst g 21 0 (g 6 0 1).toNat x2 (fun g => zix (g 6 0 1) 24 (zst g 24 0 (g 6 0 1).toNat (-1) (fun g => zix (g 6 0 1) 24 (zst g 25 0 (g 6 0 1).toNat (-1) (fun g => zix (g 6 0 1) 24 (zst g 27 0 (g 6 0 1).toNat (-1) (fun g => (K 0 0 g)))))))))))))
def sX5_flight_h103 (n : Nat) (K : Nat → Int → zG → Option (Int × zG)) (x3 : Int) (g : zG) : Option (Int × zG) := zlt x3 6 (zix ((6 * (g 6 0 1)) + x3) 144 (zst g 30 0 ((6 * (g 6 0 1)) + x3).toNat (-1) (fun g => zlet (x3 + 1) (fun v1 => (K 0 v1 g))))) (zst g 6 0 1 ((g 6 0 1) + 1) (fun g => some ((g 6 0 1) - 1, g)))
def sX5_flight_run (n0 : Nat) : Nat → Nat → Int → zG → Option (Int × zG)
  | 0, _, _, _ => none
  | n + 1, 0, x3, g => sX5_flight_h103 n0 (sX5_flight_run n0 n) x3 g
  | _ + 1, _, _, _ => none
def sX5_flight (n : Nat) (x1 : Int) (x2 : Int) (g : zG) : Option (Int × zG) := zbd (sX5_isIn x1 0 3 g) (fun r1 g => zeq r1 0 ((sX5_flight_j43 n (sX5_flight_run n n) x1 x2 1 g)) (zbd (sX5_isIn x2 0 1439 g) (fun r2 g => zeq r2 0 ((sX5_flight_j43 n (sX5_flight_run n n) x1 x2 2 g)) (zeq (g 6 0 1) 24 ((sX5_flight_j43 n (sX5_flight_run n n) x1 x2 3 g)) ((sX5_flight_j43 n (sX5_flight_run n n) x1 x2 0 g))))))
def sX5_entry_j146 (x1 : Int) (x2 : Int) (x3 : Int) (x4 : Int) (t1 : Int) (g : zG) : Option (Int × zG) := zbd (sX5_holds t1 g) (fun r1 g => zeq r1 0 (some (0, g)) (zix ((6 * x1) + x2) 144 (zst g 30 0 ((6 * x1) + x2).toNat x3 (fun g => zix ((6 * x1) + x2) 144 (zst g 31 0 ((6 * x1) + x2).toNat x4 (fun g => zix x1 24 (zst g 27 0 (x1).toNat x3 (fun g => zix x1 24 (zix x1 24 (zst g 26 0 (x1).toNat ((g 26 0 (x1).toNat) + 1) (fun g => zix x1 24 (some (g 26 0 (x1).toNat, g)))))))))))))
def sX5_entry_j115 (x1 : Int) (x2 : Int) (x3 : Int) (x4 : Int) (x5 : Int) (x6 : Int) (t0 : Int) (g : zG) : Option (Int × zG) := zeq x5 0 ((sX5_entry_j146 x1 x2 x3 x4 1 g)) (zeq x6 0 ((sX5_entry_j146 x1 x2 x3 x4 2 g)) (zeq t0 0 ((sX5_entry_j146 x1 x2 x3 x4 3 g)) ((sX5_entry_j146 x1 x2 x3 x4 0 g))))
def sX5_entry_j114 (x1 : Int) (x2 : Int) (x3 : Int) (x4 : Int) (x5 : Int) (x6 : Int) (g : zG) : Option (Int × zG) := (sX5_entry_j115 x1 x2 x3 x4 x5 x6 0 g)
def sX5_entry_j49 (x1 : Int) (x2 : Int) (x3 : Int) (x4 : Int) (x5 : Int) (t0 : Int) (g : zG) : Option (Int × zG) := zeq x5 0 ((sX5_entry_j114 x1 x2 x3 x4 x5 t0 g)) (zix x1 24 (zeq (g 22 0 (x1).toNat) 0 (zix x1 24 (zeq (g 24 0 (x1).toNat) (-1) (zix x1 24 (zlt (g 26 0 (x1).toNat) 5 (zix ((6 * x1) + x2) 144 (zeq (g 30 0 ((6 * x1) + x2).toNat) (-1) (zix x1 24 (zle x3 (g 27 0 (x1).toNat) ((sX5_entry_j114 x1 x2 x3 x4 x5 t0 g)) ((sX5_entry_j115 x1 x2 x3 x4 x5 t0 1 g)))) ((sX5_entry_j114 x1 x2 x3 x4 x5 t0 g)))) ((sX5_entry_j114 x1 x2 x3 x4 x5 t0 g)))) ((sX5_entry_j114 x1 x2 x3 x4 x5 t0 g)))) ((sX5_entry_j114 x1 x2 x3 x4 x5 t0 g))))
def sX5_entry_j48 (x1 : Int) (x2 : Int) (x3 : Int) (x4 : Int) (x5 : Int) (g : zG) : Option (Int × zG) := (sX5_entry_j49 x1 x2 x3 x4 x5 0 g)
def sX5_entry_j20 (x1 : Int) (x2 : Int) (x3 : Int) (x4 : Int) (t0 : Int) (g : zG) : Option (Int × zG) := zbd (sX5_isIn x3 0 600 g) (fun r1 g => zeq r1 0 ((sX5_entry_j48 x1 x2 x3 x4 t0 g)) (zbd (sX5_isIn x4 1 120 g) (fun r2 g => zeq r2 0 ((sX5_entry_j48 x1 x2 x3 x4 t0 g)) ((sX5_entry_j49 x1 x2 x3 x4 t0 1 g)))))
def sX5_entry_j19 (x1 : Int) (x2 : Int) (x3 : Int) (x4 : Int) (g : zG) : Option (Int × zG) := (sX5_entry_j20 x1 x2 x3 x4 0 g)
def sX5_entry (x1 : Int) (x2 : Int) (x3 : Int) (x4 : Int) (g : zG) : Option (Int × zG) := zbd (sX5_isFlight x1 g) (fun r1 g => zeq r1 0 ((sX5_entry_j19 x1 x2 x3 x4 g)) (zbd (sX5_isSector x2 g) (fun r2 g => zeq r2 0 ((sX5_entry_j19 x1 x2 x3 x4 g)) ((sX5_entry_j20 x1 x2 x3 x4 1 g)))))
def sX5_exempt_j91 (x4 : Int) (t1 : Int) (t2 : Int) (g : zG) : Option (Int × zG) := zix t1 24 (zst g 25 0 (t1).toNat t2 (fun g => zbo x4 (some (x4, g))))
def sX5_exempt_j71 (x1 : Int) (x2 : Int) (x4 : Int) (t1 : Int) (t2 : Int) (g : zG) : Option (Int × zG) := zix t1 24 (zst g 24 0 (t1).toNat t2 (fun g => zeq x2 0 (zix x1 24 ((sX5_exempt_j91 x4 x1 (g 25 0 (x1).toNat) g))) ((sX5_exempt_j91 x4 x1 (-1) g))))
def sX5_exempt_j29 (x1 : Int) (x2 : Int) (t1 : Int) (g : zG) : Option (Int × zG) := zbd (sX5_holds t1 g) (fun r1 g => zeq r1 0 (zbo 0 (some (0, g))) (zix x1 24 (zlet (g 29 0 (x1).toNat) (fun v2 => zbo x2 (zix x1 24 (zst g 29 0 (x1).toNat x2 (fun g => zeq x2 0 (zix x1 24 ((sX5_exempt_j71 x1 x2 v2 x1 (g 24 0 (x1).toNat) g))) ((sX5_exempt_j71 x1 x2 v2 x1 (-1) g)))))))))
def sX5_exempt (x1 : Int) (x2 : Int) (g : zG) : Option (Int × zG) := zbd (sX5_isFlight x1 g) (fun r1 g => zeq r1 0 ((sX5_exempt_j29 x1 x2 1 g)) (zix x1 24 (zeq (g 22 0 (x1).toNat) 0 ((sX5_exempt_j29 x1 x2 0 g)) ((sX5_exempt_j29 x1 x2 2 g)))))
def sX5_departure (x1 : Int) (g : zG) : Option (Int × zG) := zix x1 24 (zeq (g 22 0 (x1).toNat) 1 (zix x1 24 (some (g 23 0 (x1).toNat, g))) (zix x1 24 (zeq (g 24 0 (x1).toNat) (-1) (zix x1 24 (some (g 21 0 (x1).toNat, g))) (zix x1 24 (some (g 24 0 (x1).toNat, g))))))
def sX5_flightIs_j28 (x1 : Int) (x2 : Int) (t1 : Int) (g : zG) : Option (Int × zG) := zbd (sX5_holds t1 g) (fun r1 g => zeq r1 0 (some (0, g)) (zlt x2 4 (zeq x2 0 (zix x1 24 (some (g 22 0 (x1).toNat, g))) (zeq x2 1 (zix x1 24 (some (g 21 0 (x1).toNat, g))) (zeq x2 2 (zix x1 24 (some (g 24 0 (x1).toNat, g))) (zix x1 24 (some (g 25 0 (x1).toNat, g)))))) (zeq x2 4 (zbd (sX5_departure x1 g) (fun r2 g => some (r2, g))) (zeq x2 5 (zix x1 24 (some (g 26 0 (x1).toNat, g))) (zeq x2 6 (zix x1 24 (some (g 28 0 (x1).toNat, g))) (zix x1 24 (zeq (g 29 0 (x1).toNat) 0 (some (0, g)) (some (1, g)))))))))
def sX5_flightIs (x1 : Int) (x2 : Int) (g : zG) : Option (Int × zG) := zbd (sX5_isFlight x1 g) (fun r1 g => zeq r1 0 ((sX5_flightIs_j28 x1 x2 1 g)) (zbd (sX5_isIn x2 0 7 g) (fun r2 g => zeq r2 0 ((sX5_flightIs_j28 x1 x2 2 g)) ((sX5_flightIs_j28 x1 x2 0 g)))))
def sX5_enters (x1 : Int) (x2 : Int) (g : zG) : Option (Int × zG) := zix ((6 * x1) + x2) 144 (zeq (g 30 0 ((6 * x1) + x2).toNat) (-1) (zbo 0 (some (0, g))) (zbo 1 (some (1, g))))
def sX5_overOf (x1 : Int) (x2 : Int) (g : zG) : Option (Int × zG) := zbd (sX5_departure x1 g) (fun r1 g => zix ((6 * x1) + x2) 144 (some (r1 + (g 30 0 ((6 * x1) + x2).toNat), g)))
def sX5_plannedOver (x1 : Int) (x2 : Int) (g : zG) : Option (Int × zG) := zix x1 24 (zix ((6 * x1) + x2) 144 (some ((g 21 0 (x1).toNat) + (g 30 0 ((6 * x1) + x2).toNat), g)))
def sX5_over_j21 (x1 : Int) (x2 : Int) (t1 : Int) (g : zG) : Option (Int × zG) := zbd (sX5_holds t1 g) (fun r1 g => zeq r1 0 (some (0, g)) (zbd (sX5_enters x1 x2 g) (fun r2 g => zeq r2 0 (some ((-1), g)) (zbd (sX5_overOf x1 x2 g) (fun r3 g => some (r3, g))))))
def sX5_over_j20 (x1 : Int) (x2 : Int) (g : zG) : Option (Int × zG) := (sX5_over_j21 x1 x2 1 g)
def sX5_over (x1 : Int) (x2 : Int) (g : zG) : Option (Int × zG) := zbd (sX5_isFlight x1 g) (fun r1 g => zeq r1 0 ((sX5_over_j20 x1 x2 g)) (zbd (sX5_isSector x2 g) (fun r2 g => zeq r2 0 ((sX5_over_j20 x1 x2 g)) ((sX5_over_j21 x1 x2 0 g)))))
def sX5_loadOf_j62 (n : Nat) (K : Nat → Int → Int → Int → Int → Int → zG → Option (Int × zG)) (x1 : Int) (x2 : Int) (x3 : Int) (x5 : Int) (t0 : Int) (t1 : Int) (g : zG) : Option (Int × zG) := zlet (t0 + t1) (fun v1 => zlet (x5 + 1) (fun v2 => (K 0 x1 x2 x3 v1 v2 g)))
def sX5_loadOf_j61 (n : Nat) (K : Nat → Int → Int → Int → Int → Int → zG → Option (Int × zG)) (x1 : Int) (x2 : Int) (x3 : Int) (x5 : Int) (t0 : Int) (g : zG) : Option (Int × zG) := (sX5_loadOf_j62 n K x1 x2 x3 x5 t0 0 g)
def sX5_loadOf_h6 (n : Nat) (K : Nat → Int → Int → Int → Int → Int → zG → Option (Int × zG)) (x1 : Int) (x2 : Int) (x3 : Int) (x4 : Int) (x5 : Int) (g : zG) : Option (Int × zG) := zlt x5 (g 6 0 1) (zix x5 24 (zeq (g 22 0 (x5).toNat) 2 ((sX5_loadOf_j61 n K x1 x2 x3 x5 x4 g)) (zbd (sX5_enters x5 x1 g) (fun r1 g => zeq r1 0 ((sX5_loadOf_j61 n K x1 x2 x3 x5 x4 g)) (zbd (sX5_overOf x5 x1 g) (fun r2 g => zbd (sX5_isIn r2 x2 ((x2 + x3) - 1) g) (fun r3 g => zeq r3 0 ((sX5_loadOf_j61 n K x1 x2 x3 x5 x4 g)) ((sX5_loadOf_j62 n K x1 x2 x3 x5 x4 1 g))))))))) (some (x4, g))
def sX5_loadOf_run (n0 : Nat) : Nat → Nat → Int → Int → Int → Int → Int → zG → Option (Int × zG)
  | 0, _, _, _, _, _, _, _ => none
  | n + 1, 0, x1, x2, x3, x4, x5, g => sX5_loadOf_h6 n0 (sX5_loadOf_run n0 n) x1 x2 x3 x4 x5 g
  | _ + 1, _, _, _, _, _, _, _ => none
def sX5_loadOf (n : Nat) (x1 : Int) (x2 : Int) (x3 : Int) (g : zG) : Option (Int × zG) := (sX5_loadOf_run n n 0 x1 x2 x3 0 0 g)
def sX5_load_j39 (n : Nat) (x1 : Int) (x2 : Int) (x3 : Int) (t1 : Int) (g : zG) : Option (Int × zG) := zbd (sX5_holds t1 g) (fun r1 g => zeq r1 0 (some (0, g)) (zbd (sX5_loadOf n x1 x2 x3 g) (fun r2 g => some (r2, g))))
def sX5_load_j38 (n : Nat) (x1 : Int) (x2 : Int) (x3 : Int) (g : zG) : Option (Int × zG) := (sX5_load_j39 n x1 x2 x3 2 g)
def sX5_load (n : Nat) (x1 : Int) (x2 : Int) (x3 : Int) (g : zG) : Option (Int × zG) := zbd (sX5_isSector x1 g) (fun r1 g => zeq r1 0 ((sX5_load_j39 n x1 x2 x3 1 g)) (zbd (sX5_isIn x2 0 2999 g) (fun r2 g => zeq r2 0 ((sX5_load_j38 n x1 x2 x3 g)) (zbd (sX5_isIn x3 1 240 g) (fun r3 g => zeq r3 0 ((sX5_load_j38 n x1 x2 x3 g)) ((sX5_load_j39 n x1 x2 x3 0 g)))))))
def sX5_inside_j28 (n : Nat) (K : Nat → Int → Int → Int → Int → zG → Option (Int × zG)) (x1 : Int) (x2 : Int) (t1 : Int) (g : zG) : Option (Int × zG) := zbd (sX5_holds t1 g) (fun r1 g => zeq r1 0 (some (0, g)) ((K 0 x1 x2 0 0 g)))
def sX5_inside_j124 (n : Nat) (K : Nat → Int → Int → Int → Int → zG → Option (Int × zG)) (x1 : Int) (x2 : Int) (x4 : Int) (t0 : Int) (t1 : Int) (g : zG) : Option (Int × zG) := zlet (t0 + t1) (fun v1 => zlet (x4 + 1) (fun v2 => (K 0 x1 x2 v1 v2 g)))
def sX5_inside_j123 (n : Nat) (K : Nat → Int → Int → Int → Int → zG → Option (Int × zG)) (x1 : Int) (x2 : Int) (x4 : Int) (t0 : Int) (g : zG) : Option (Int × zG) := (sX5_inside_j124 n K x1 x2 x4 t0 0 g)
def sX5_inside_j73 (n : Nat) (K : Nat → Int → Int → Int → Int → zG → Option (Int × zG)) (x1 : Int) (x2 : Int) (x3 : Int) (x4 : Int) (t0 : Int) (g : zG) : Option (Int × zG) := zix x4 24 (zeq (g 22 0 (x4).toNat) 2 ((sX5_inside_j123 n K x1 x2 x4 x3 g)) (zbd (sX5_enters x4 x1 g) (fun r1 g => zeq r1 0 ((sX5_inside_j123 n K x1 x2 x4 x3 g)) (zlt t0 0 ((sX5_inside_j123 n K x1 x2 x4 x3 g)) (zix ((6 * x4) + x1) 144 (zlt t0 (g 31 0 ((6 * x4) + x1).toNat) ((sX5_inside_j124 n K x1 x2 x4 x3 1 g)) ((sX5_inside_j123 n K x1 x2 x4 x3 g))))))))
def sX5_inside_h41 (n : Nat) (K : Nat → Int → Int → Int → Int → zG → Option (Int × zG)) (x1 : Int) (x2 : Int) (x3 : Int) (x4 : Int) (g : zG) : Option (Int × zG) := zlt x4 (g 6 0 1) (zbd (sX5_enters x4 x1 g) (fun r1 g => zeq r1 0 ((sX5_inside_j73 n K x1 x2 x3 x4 (-1) g)) (zbd (sX5_overOf x4 x1 g) (fun r2 g => (sX5_inside_j73 n K x1 x2 x3 x4 (x2 - r2) g))))) (some (x3, g))
def sX5_inside_run (n0 : Nat) : Nat → Nat → Int → Int → Int → Int → zG → Option (Int × zG)
  | 0, _, _, _, _, _, _ => none
  | n + 1, 0, x1, x2, x3, x4, g => sX5_inside_h41 n0 (sX5_inside_run n0 n) x1 x2 x3 x4 g
  | _ + 1, _, _, _, _, _, _ => none
def sX5_inside (n : Nat) (x1 : Int) (x2 : Int) (g : zG) : Option (Int × zG) := zbd (sX5_isSector x1 g) (fun r1 g => zeq r1 0 ((sX5_inside_j28 n (sX5_inside_run n n) x1 x2 1 g)) (zbd (sX5_isIn x2 0 2999 g) (fun r2 g => zeq r2 0 ((sX5_inside_j28 n (sX5_inside_run n n) x1 x2 2 g)) ((sX5_inside_j28 n (sX5_inside_run n n) x1 x2 0 g)))))
def sX5_peak_j28 (n : Nat) (K : Nat → Int → Int → Int → Int → zG → Option (Int × zG)) (x1 : Int) (x2 : Int) (t1 : Int) (g : zG) : Option (Int × zG) := zbd (sX5_holds t1 g) (fun r1 g => zeq r1 0 (some (0, g)) ((K 0 x1 x2 0 0 g)))
def sX5_peak_j102 (n : Nat) (K : Nat → Int → Int → Int → Int → zG → Option (Int × zG)) (x1 : Int) (x2 : Int) (x4 : Int) (t0 : Int) (g : zG) : Option (Int × zG) := zlet (x4 + 1) (fun v1 => (K 0 x1 x2 t0 v1 g))
def sX5_peak_j88 (n : Nat) (K : Nat → Int → Int → Int → Int → zG → Option (Int × zG)) (x1 : Int) (x2 : Int) (x3 : Int) (x4 : Int) (t0 : Int) (g : zG) : Option (Int × zG) := zle t0 x3 ((sX5_peak_j102 n K x1 x2 x4 x3 g)) ((sX5_peak_j102 n K x1 x2 x4 t0 g))
def sX5_peak_j87 (n : Nat) (K : Nat → Int → Int → Int → Int → zG → Option (Int × zG)) (x1 : Int) (x2 : Int) (x3 : Int) (x4 : Int) (g : zG) : Option (Int × zG) := (sX5_peak_j88 n K x1 x2 x3 x4 0 g)
def sX5_peak_h41 (n : Nat) (K : Nat → Int → Int → Int → Int → zG → Option (Int × zG)) (x1 : Int) (x2 : Int) (x3 : Int) (x4 : Int) (g : zG) : Option (Int × zG) := zlt x4 (g 6 0 1) (zix x4 24 (zeq (g 22 0 (x4).toNat) 2 ((sX5_peak_j87 n K x1 x2 x3 x4 g)) (zbd (sX5_enters x4 x1 g) (fun r1 g => zeq r1 0 ((sX5_peak_j87 n K x1 x2 x3 x4 g)) (zbd (sX5_overOf x4 x1 g) (fun r2 g => zbd (sX5_loadOf n x1 r2 x2 g) (fun r3 g => (sX5_peak_j88 n K x1 x2 x3 x4 r3 g)))))))) (some (x3, g))
def sX5_peak_run (n0 : Nat) : Nat → Nat → Int → Int → Int → Int → zG → Option (Int × zG)
  | 0, _, _, _, _, _, _ => none
  | n + 1, 0, x1, x2, x3, x4, g => sX5_peak_h41 n0 (sX5_peak_run n0 n) x1 x2 x3 x4 g
  | _ + 1, _, _, _, _, _, _ => none
def sX5_peak (n : Nat) (x1 : Int) (x2 : Int) (g : zG) : Option (Int × zG) := zbd (sX5_isSector x1 g) (fun r1 g => zeq r1 0 ((sX5_peak_j28 n (sX5_peak_run n n) x1 x2 1 g)) (zbd (sX5_isIn x2 1 240 g) (fun r2 g => zeq r2 0 ((sX5_peak_j28 n (sX5_peak_run n n) x1 x2 2 g)) ((sX5_peak_j28 n (sX5_peak_run n n) x1 x2 0 g)))))
def sX5_peakAnew (n : Nat) (x1 : Int) (x2 : Int) (g : zG) : Option (Int × zG) := zbd (sX5_peak n x1 x2 g) (fun r1 g => some (r1, g))
def sX5_isPart (x0 : Int) (x1 : Int) (x2 : Int) (g : zG) : Option (Int × zG) := zbd (sX5_isIn x0 0 1439 g) (fun r1 g => zeq r1 0 (zbo 0 (some (0, g))) (zbd (sX5_isIn x1 (x0 + 1) 1440 g) (fun r2 g => zeq r2 0 (zbo 0 (some (0, g))) (zbd (sX5_isIn x2 0 60 g) (fun r3 g => zeq r3 0 (zbo 0 (some (0, g))) (zbo 1 (some (1, g))))))))
def sX5_lays (x1 : Int) (x2 : Int) (x3 : Int) (x4 : Int) (x5 : Int) (g : zG) : Option (Int × zG) := zix x1 7 (zst g 32 0 (x1).toNat x2 (fun g => zix x1 7 (zst g 33 0 (x1).toNat x3 (fun g => zix x1 7 (zst g 34 0 (x1).toNat x4 (fun g => zix x1 7 (zst g 35 0 (x1).toNat x5 (fun g => some (0, g)))))))))
def sX5_regulation_j40 (x1 : Int) (x2 : Int) (x3 : Int) (x4 : Int) (t1 : Int) (g : zG) : Option (Int × zG) := zbd (sX5_holds t1 g) (fun r1 g => zeq r1 0 (some (0, g)) (zbd (sX5_lays (g 6 0 14) x1 x2 x3 x4 g) (fun _ g => zst g 6 0 14 ((g 6 0 14) + 1) (fun g => some ((g 6 0 14) - 1, g)))))
def sX5_regulation (x1 : Int) (x2 : Int) (x3 : Int) (x4 : Int) (g : zG) : Option (Int × zG) := zbd (sX5_isSector x1 g) (fun r1 g => zeq r1 0 ((sX5_regulation_j40 x1 x2 x3 x4 1 g)) (zbd (sX5_isPart x2 x3 x4 g) (fun r2 g => zeq r2 0 ((sX5_regulation_j40 x1 x2 x3 x4 2 g)) (zeq (g 6 0 14) 6 ((sX5_regulation_j40 x1 x2 x3 x4 3 g)) ((sX5_regulation_j40 x1 x2 x3 x4 0 g))))))
def sX5_rate_j43 (x1 : Int) (x2 : Int) (t1 : Int) (g : zG) : Option (Int × zG) := zbd (sX5_holds t1 g) (fun r1 g => zeq r1 0 (some (0, g)) (zix x1 7 (zlet (g 35 0 (x1).toNat) (fun v2 => zix x1 7 (zst g 35 0 (x1).toNat x2 (fun g => some (v2, g)))))))
def sX5_rate (x1 : Int) (x2 : Int) (g : zG) : Option (Int × zG) := zbd (sX5_isRegulation x1 g) (fun r1 g => zeq r1 0 ((sX5_rate_j43 x1 x2 1 g)) (zbd (sX5_isIn x2 0 60 g) (fun r2 g => zeq r2 0 ((sX5_rate_j43 x1 x2 2 g)) (zix x1 7 (zeq (g 37 0 (x1).toNat) 0 ((sX5_rate_j43 x1 x2 0 g)) ((sX5_rate_j43 x1 x2 3 g)))))))
def sX5_end_j29 (x1 : Int) (t1 : Int) (g : zG) : Option (Int × zG) := zbd (sX5_holds t1 g) (fun r1 g => zeq r1 0 (some (0, g)) (zbo 1 (zix x1 7 (zst g 37 0 (x1).toNat 1 (fun g => some (0, g))))))
def sX5_end (x1 : Int) (g : zG) : Option (Int × zG) := zbd (sX5_isRegulation x1 g) (fun r1 g => zeq r1 0 ((sX5_end_j29 x1 1 g)) (zix x1 7 (zeq (g 37 0 (x1).toNat) 0 ((sX5_end_j29 x1 0 g)) ((sX5_end_j29 x1 2 g)))))
def sX5_begin (x1 : Int) (x2 : Int) (g : zG) : Option (Int × zG) := zix x1 7 (zix x1 7 (zdv (60 * x2) (g 35 0 (x1).toNat) (some ((g 33 0 (x1).toNat) + ((60 * x2).tdiv (g 35 0 (x1).toNat)), g))))
def sX5_ending (x1 : Int) (x2 : Int) (g : zG) : Option (Int × zG) := zlt (x2 + 1) (g 6 0 24) (zbd (sX5_begin x1 (x2 + 1) g) (fun r1 g => some (r1, g))) (zix x1 7 (some (g 34 0 (x1).toNat, g)))
def sX5_timeOf_j112 (x1 : Int) (x5 : Int) (t0 : Int) (g : zG) : Option (Int × zG) := zeq x5 0 (some ((-1), g)) (zix x1 7 (zlt t0 (g 33 0 (x1).toNat) (some ((-1), g)) (zix x1 7 (zlt t0 (g 34 0 (x1).toNat) (some (t0, g)) (some ((-1), g))))))
def sX5_timeOf_j83 (x1 : Int) (x2 : Int) (x4 : Int) (t0 : Int) (g : zG) : Option (Int × zG) := zix x2 24 (zeq (g 22 0 (x2).toNat) 1 (zbd (sX5_overOf x2 x4 g) (fun r2 g => (sX5_timeOf_j112 x1 t0 r2 g))) (zbd (sX5_plannedOver x2 x4 g) (fun r1 g => (sX5_timeOf_j112 x1 t0 r1 g))))
def sX5_timeOf_j52 (x1 : Int) (x2 : Int) (x4 : Int) (g : zG) : Option (Int × zG) := (sX5_timeOf_j83 x1 x2 x4 1 g)
def sX5_timeOf_j56 (x1 : Int) (x2 : Int) (x4 : Int) (g : zG) : Option (Int × zG) := (sX5_timeOf_j83 x1 x2 x4 0 g)
def sX5_timeOf_j82 (x1 : Int) (x2 : Int) (x4 : Int) (g : zG) : Option (Int × zG) := (sX5_timeOf_j83 x1 x2 x4 0 g)
def sX5_timeOf (x1 : Int) (x2 : Int) (x3 : Int) (g : zG) : Option (Int × zG) := zix x1 7 (zlet (g 32 0 (x1).toNat) (fun v1 => zbd (sX5_enters x2 v1 g) (fun r2 g => zeq r2 0 (some ((-1), g)) (zeq x3 0 (zix x2 24 (zeq (g 22 0 (x2).toNat) 0 (zix x2 24 (zeq (g 29 0 (x2).toNat) 0 ((sX5_timeOf_j83 x1 x2 v1 1 g)) ((sX5_timeOf_j82 x1 x2 v1 g)))) ((sX5_timeOf_j82 x1 x2 v1 g)))) (zix x2 24 (zeq (g 22 0 (x2).toNat) 1 ((sX5_timeOf_j52 x1 x2 v1 g)) (zix x2 24 (zeq (g 22 0 (x2).toNat) 0 (zix x2 24 (zeq (g 29 0 (x2).toNat) 0 ((sX5_timeOf_j56 x1 x2 v1 g)) ((sX5_timeOf_j52 x1 x2 v1 g)))) ((sX5_timeOf_j56 x1 x2 v1 g))))))))))
def sX5_nextOf_j81 (n : Nat) (K : Nat → Int → Int → Int → Int → Int → zG → Option (Int × zG)) (x1 : Int) (x2 : Int) (x3 : Int) (x5 : Int) (t0 : Int) (g : zG) : Option (Int × zG) := zlet (x5 + 1) (fun v1 => (K 0 x1 x2 x3 t0 v1 g))
def sX5_nextOf_j74 (n : Nat) (K : Nat → Int → Int → Int → Int → Int → zG → Option (Int × zG)) (x1 : Int) (x2 : Int) (x3 : Int) (x5 : Int) (g : zG) : Option (Int × zG) := (sX5_nextOf_j81 n K x1 x2 x3 x5 x5 g)
def sX5_nextOf_j79 (n : Nat) (K : Nat → Int → Int → Int → Int → Int → zG → Option (Int × zG)) (x1 : Int) (x2 : Int) (x3 : Int) (x4 : Int) (x5 : Int) (g : zG) : Option (Int × zG) := (sX5_nextOf_j81 n K x1 x2 x3 x5 x4 g)
def sX5_nextOf_j48 (n : Nat) (K : Nat → Int → Int → Int → Int → Int → zG → Option (Int × zG)) (x1 : Int) (x2 : Int) (x3 : Int) (x4 : Int) (x5 : Int) (x6 : Int) (t0 : Int) (g : zG) : Option (Int × zG) := zeq t0 0 ((sX5_nextOf_j79 n K x1 x2 x3 x4 x5 g)) (zeq x4 (-1) ((sX5_nextOf_j74 n K x1 x2 x3 x5 g)) (zbd (sX5_timeOf x1 x4 x3 g) (fun r1 g => zlt x6 r1 ((sX5_nextOf_j74 n K x1 x2 x3 x5 g)) ((sX5_nextOf_j79 n K x1 x2 x3 x4 x5 g)))))
def sX5_nextOf_j47 (n : Nat) (K : Nat → Int → Int → Int → Int → Int → zG → Option (Int × zG)) (x1 : Int) (x2 : Int) (x3 : Int) (x4 : Int) (x5 : Int) (x6 : Int) (g : zG) : Option (Int × zG) := (sX5_nextOf_j48 n K x1 x2 x3 x4 x5 x6 0 g)
def sX5_nextOf_h6 (n : Nat) (K : Nat → Int → Int → Int → Int → Int → zG → Option (Int × zG)) (x1 : Int) (x2 : Int) (x3 : Int) (x4 : Int) (x5 : Int) (g : zG) : Option (Int × zG) := zlt x5 (g 6 0 1) (zbd (sX5_timeOf x1 x5 x3 g) (fun r1 g => zeq r1 (-1) ((sX5_nextOf_j47 n K x1 x2 x3 x4 x5 r1 g)) (zle ((24 * r1) + x5) x2 ((sX5_nextOf_j47 n K x1 x2 x3 x4 x5 r1 g)) ((sX5_nextOf_j48 n K x1 x2 x3 x4 x5 r1 1 g))))) (some (x4, g))
def sX5_nextOf_run (n0 : Nat) : Nat → Nat → Int → Int → Int → Int → Int → zG → Option (Int × zG)
  | 0, _, _, _, _, _, _, _ => none
  | n + 1, 0, x1, x2, x3, x4, x5, g => sX5_nextOf_h6 n0 (sX5_nextOf_run n0 n) x1 x2 x3 x4 x5 g
  | _ + 1, _, _, _, _, _, _, _ => none
def sX5_nextOf (n : Nat) (x1 : Int) (x2 : Int) (x3 : Int) (g : zG) : Option (Int × zG) := (sX5_nextOf_run n n 0 x1 x2 x3 (-1) 0 g)
def sX5_takes_h2 (n : Nat) (K : Nat → Int → Int → Int → zG → Option (Int × zG)) (x1 : Int) (x2 : Int) (x3 : Int) (g : zG) : Option (Int × zG) := zlt x3 (g 6 0 24) (zix x3 1441 (zeq (g 40 0 (x3).toNat) 0 (zbd (sX5_ending x1 x3 g) (fun r2 g => zle r2 x2 (zlet (x3 + 1) (fun v3 => (K 0 x1 x2 v3 g))) (zbo 1 (zix x3 1441 (zst g 40 0 (x3).toNat 1 (fun g => zst g 6 0 25 ((g 6 0 25) - 1) (fun g => some (x3, g)))))))) (zlet (x3 + 1) (fun v1 => (K 0 x1 x2 v1 g))))) (some ((-1), g))
def sX5_takes_run (n0 : Nat) : Nat → Nat → Int → Int → Int → zG → Option (Int × zG)
  | 0, _, _, _, _, _ => none
  | n + 1, 0, x1, x2, x3, g => sX5_takes_h2 n0 (sX5_takes_run n0 n) x1 x2 x3 g
  | _ + 1, _, _, _, _, _ => none
def sX5_takes (n : Nat) (x1 : Int) (x2 : Int) (g : zG) : Option (Int × zG) := (sX5_takes_run n n 0 x1 x2 0 g)
def sX5_dealt_j55 (n : Nat) (K : Nat → Int → Int → zG → Option (Int × zG)) (x1 : Int) (g : zG) : Option (Int × zG) := zst g 6 0 25 (g 6 0 24) (fun g => zst g 6 0 26 0 (fun g => zst g 6 0 27 0 (fun g => zst g 6 0 28 0 (fun g => (K 1 x1 0 g)))))
def sX5_dealt_j252 (n : Nat) (K : Nat → Int → Int → zG → Option (Int × zG)) (x1 : Int) (x2 : Int) (x3 : Int) (x5 : Int) (t1 : Int) (t2 : Int) (g : zG) : Option (Int × zG) := zst g 6 0 28 (t1 + t2) (fun g => zix ((24 * x1) + x2) 168 (zst g 41 0 ((24 * x1) + x2).toNat (x5 - x3) (fun g => zbd (sX5_nextOf n x1 ((24 * x3) + x2) 0 g) (fun r1 g => (K 3 x1 r1 g)))))
def sX5_dealt_j224 (n : Nat) (K : Nat → Int → Int → zG → Option (Int × zG)) (x1 : Int) (x2 : Int) (x3 : Int) (x4 : Int) (t0 : Int) (g : zG) : Option (Int × zG) := zst g 6 0 27 ((g 6 0 27) + 1) (fun g => zeq x4 (-1) ((sX5_dealt_j252 n K x1 x2 x3 t0 (g 6 0 28) 1 g)) ((sX5_dealt_j252 n K x1 x2 x3 t0 (g 6 0 28) 0 g)))
def sX5_dealt_h5 (n : Nat) (K : Nat → Int → Int → zG → Option (Int × zG)) (x1 : Int) (x2 : Int) (g : zG) : Option (Int × zG) := zix x1 7 (zle (g 35 0 (x1).toNat) 0 ((sX5_dealt_j55 n K x1 g)) (zbd (sX5_begin x1 (g 6 0 24) g) (fun r1 g => zix x1 7 (zlt r1 (g 34 0 (x1).toNat) (zbo 0 (zix (g 6 0 24) 1441 (zst g 40 0 (g 6 0 24).toNat 0 (fun g => zst g 6 0 24 ((g 6 0 24) + 1) (fun g => (K 0 x1 0 g)))))) ((sX5_dealt_j55 n K x1 g))))))
def sX5_dealt_h80 (n : Nat) (K : Nat → Int → Int → zG → Option (Int × zG)) (x1 : Int) (x2 : Int) (g : zG) : Option (Int × zG) := zlt x2 24 (zix ((24 * x1) + x2) 168 (zst g 41 0 ((24 * x1) + x2).toNat (-1) (fun g => zlet (x2 + 1) (fun v2 => (K 1 x1 v2 g))))) (zbd (sX5_nextOf n x1 (-1) 1 g) (fun r1 g => (K 2 x1 r1 g)))
def sX5_dealt_h112 (n : Nat) (K : Nat → Int → Int → zG → Option (Int × zG)) (x1 : Int) (x2 : Int) (g : zG) : Option (Int × zG) := zeq x2 (-1) (zbd (sX5_nextOf n x1 (-1) 0 g) (fun r1 g => (K 3 x1 r1 g))) (zbd (sX5_timeOf x1 x2 1 g) (fun r2 g => zst g 6 0 26 ((g 6 0 26) + 1) (fun g => zbd (sX5_takes n x1 r2 g) (fun r3 g => zbd (sX5_nextOf n x1 ((24 * r2) + x2) 1 g) (fun r4 g => (K 2 x1 r4 g))))))
def sX5_dealt_h166 (n : Nat) (K : Nat → Int → Int → zG → Option (Int × zG)) (x1 : Int) (x2 : Int) (g : zG) : Option (Int × zG) := zeq x2 (-1) (some (0, g)) (zbd (sX5_timeOf x1 x2 0 g) (fun r1 g => zbd (sX5_takes n x1 r1 g) (fun r2 g => zeq r2 (-1) (zix x1 7 ((sX5_dealt_j224 n K x1 x2 r1 r2 (g 34 0 (x1).toNat) g))) (zbd (sX5_begin x1 r2 g) (fun r3 g => zle r3 r1 ((sX5_dealt_j224 n K x1 x2 r1 r2 r1 g)) (zbd (sX5_begin x1 r2 g) (fun r4 g => (sX5_dealt_j224 n K x1 x2 r1 r2 r4 g))))))))
def sX5_dealt_run (n0 : Nat) : Nat → Nat → Int → Int → zG → Option (Int × zG)
  | 0, _, _, _, _ => none
  | n + 1, 0, x1, x2, g => sX5_dealt_h5 n0 (sX5_dealt_run n0 n) x1 x2 g
  | n + 1, 1, x1, x2, g => sX5_dealt_h80 n0 (sX5_dealt_run n0 n) x1 x2 g
  | n + 1, 2, x1, x2, g => sX5_dealt_h112 n0 (sX5_dealt_run n0 n) x1 x2 g
  | n + 1, 3, x1, x2, g => sX5_dealt_h166 n0 (sX5_dealt_run n0 n) x1 x2 g
  | _ + 1, _, _, _, _ => none
def sX5_dealt (n : Nat) (x1 : Int) (g : zG) : Option (Int × zG) := zst g 6 0 24 0 (fun g => (sX5_dealt_run n n 0 x1 0 g))
def sX5_regulationIs_j28 (n : Nat) (x1 : Int) (x2 : Int) (t1 : Int) (g : zG) : Option (Int × zG) := zbd (sX5_holds t1 g) (fun r1 g => zeq r1 0 (some (0, g)) (zle x2 4 (zix x1 7 (zeq (g 37 0 (x1).toNat) 0 (zbd (sX5_dealt n x1 g) (fun _ g => zeq x2 0 (some (g 6 0 24, g)) (zeq x2 1 (some (g 6 0 25, g)) (zeq x2 2 (some (g 6 0 26, g)) (zeq x2 3 (some (g 6 0 27, g)) (some (g 6 0 28, g))))))) (some (0, g)))) (zeq x2 5 (zix x1 7 (some (g 35 0 (x1).toNat, g))) (zix x1 7 (some (g 36 0 (x1).toNat, g))))))
def sX5_regulationIs (n : Nat) (x1 : Int) (x2 : Int) (g : zG) : Option (Int × zG) := zbd (sX5_isRegulation x1 g) (fun r1 g => zeq r1 0 ((sX5_regulationIs_j28 n x1 x2 1 g)) (zbd (sX5_isIn x2 0 6 g) (fun r2 g => zeq r2 0 ((sX5_regulationIs_j28 n x1 x2 2 g)) ((sX5_regulationIs_j28 n x1 x2 0 g)))))
def sX5_slot_j18 (n : Nat) (x1 : Int) (x2 : Int) (t1 : Int) (g : zG) : Option (Int × zG) := zbd (sX5_holds t1 g) (fun r1 g => zeq r1 0 (some (0, g)) (zix x1 7 (zeq (g 37 0 (x1).toNat) 0 (zbd (sX5_dealt n x1 g) (fun _ g => zlt x2 (g 6 0 24) (zbd (sX5_begin x1 x2 g) (fun r3 g => some (r3, g))) (some ((-1), g)))) (some ((-1), g)))))
def sX5_slot_j17 (n : Nat) (x1 : Int) (x2 : Int) (g : zG) : Option (Int × zG) := (sX5_slot_j18 n x1 x2 1 g)
def sX5_slot (n : Nat) (x1 : Int) (x2 : Int) (g : zG) : Option (Int × zG) := zbd (sX5_isRegulation x1 g) (fun r1 g => zeq r1 0 ((sX5_slot_j17 n x1 x2 g)) (zlt x2 0 ((sX5_slot_j17 n x1 x2 g)) ((sX5_slot_j18 n x1 x2 0 g))))
def sX5_penalty_j22 (n : Nat) (x1 : Int) (x2 : Int) (t1 : Int) (g : zG) : Option (Int × zG) := zbd (sX5_holds t1 g) (fun r1 g => zeq r1 0 (some (0, g)) (zix x2 7 (zeq (g 37 0 (x2).toNat) 0 (zbd (sX5_dealt n x2 g) (fun _ g => zix ((24 * x2) + x1) 168 (some (g 41 0 ((24 * x2) + x1).toNat, g)))) (some ((-1), g)))))
def sX5_penalty_j21 (n : Nat) (x1 : Int) (x2 : Int) (g : zG) : Option (Int × zG) := (sX5_penalty_j22 n x1 x2 1 g)
def sX5_penalty (n : Nat) (x1 : Int) (x2 : Int) (g : zG) : Option (Int × zG) := zbd (sX5_isFlight x1 g) (fun r1 g => zeq r1 0 ((sX5_penalty_j21 n x1 x2 g)) (zbd (sX5_isRegulation x2 g) (fun r2 g => zeq r2 0 ((sX5_penalty_j21 n x1 x2 g)) ((sX5_penalty_j22 n x1 x2 0 g)))))
def sX5_dealAll_h2 (n : Nat) (K : Nat → Int → Int → zG → Option (Int × zG)) (x1 : Int) (x2 : Int) (g : zG) : Option (Int × zG) := zlt x2 x1 (zix x2 7 (zeq (g 37 0 (x2).toNat) 0 (zbd (sX5_dealt n x2 g) (fun _ g => zlet (x2 + 1) (fun v3 => (K 0 x1 v3 g)))) (zlet (x2 + 1) (fun v1 => (K 0 x1 v1 g))))) (some (0, g))
def sX5_dealAll_run (n0 : Nat) : Nat → Nat → Int → Int → zG → Option (Int × zG)
  | 0, _, _, _, _ => none
  | n + 1, 0, x1, x2, g => sX5_dealAll_h2 n0 (sX5_dealAll_run n0 n) x1 x2 g
  | _ + 1, _, _, _, _ => none
def sX5_dealAll (n : Nat) (x1 : Int) (g : zG) : Option (Int × zG) := (sX5_dealAll_run n n 0 x1 0 g)
def sX5_dueBy_j82 (n : Nat) (K : Nat → Int → Int → Int → Int → Int → zG → Option (Int × zG)) (x1 : Int) (x2 : Int) (x3 : Int) (x5 : Int) (t0 : Int) (g : zG) : Option (Int × zG) := zlet (x5 + 1) (fun v1 => (K 0 x1 x2 x3 t0 v1 g))
def sX5_dueBy_j59 (n : Nat) (K : Nat → Int → Int → Int → Int → Int → zG → Option (Int × zG)) (x1 : Int) (x2 : Int) (x4 : Int) (x5 : Int) (x6 : Int) (t0 : Int) (g : zG) : Option (Int × zG) := zeq x6 0 ((sX5_dueBy_j82 n K x1 x2 t0 x5 x4 g)) (zix ((24 * x5) + x1) 168 ((sX5_dueBy_j82 n K x1 x2 t0 x5 (g 41 0 ((24 * x5) + x1).toNat) g)))
def sX5_dueBy_j46 (n : Nat) (K : Nat → Int → Int → Int → Int → Int → zG → Option (Int × zG)) (x1 : Int) (x2 : Int) (x3 : Int) (x4 : Int) (x5 : Int) (t0 : Int) (g : zG) : Option (Int × zG) := zeq t0 0 ((sX5_dueBy_j59 n K x1 x2 x4 x5 t0 x3 g)) ((sX5_dueBy_j59 n K x1 x2 x4 x5 t0 x5 g))
def sX5_dueBy_j45 (n : Nat) (K : Nat → Int → Int → Int → Int → Int → zG → Option (Int × zG)) (x1 : Int) (x2 : Int) (x3 : Int) (x4 : Int) (x5 : Int) (g : zG) : Option (Int × zG) := (sX5_dueBy_j46 n K x1 x2 x3 x4 x5 0 g)
def sX5_dueBy_h8 (n : Nat) (K : Nat → Int → Int → Int → Int → Int → zG → Option (Int × zG)) (x1 : Int) (x2 : Int) (x3 : Int) (x4 : Int) (x5 : Int) (g : zG) : Option (Int × zG) := zlt x5 x2 (zix x5 7 (zeq (g 37 0 (x5).toNat) 0 (zix ((24 * x5) + x1) 168 (zle (g 41 0 ((24 * x5) + x1).toNat) x4 ((sX5_dueBy_j45 n K x1 x2 x3 x4 x5 g)) ((sX5_dueBy_j46 n K x1 x2 x3 x4 x5 1 g)))) ((sX5_dueBy_j45 n K x1 x2 x3 x4 x5 g)))) (some (x3, g))
def sX5_dueBy_run (n0 : Nat) : Nat → Nat → Int → Int → Int → Int → Int → zG → Option (Int × zG)
  | 0, _, _, _, _, _, _, _ => none
  | n + 1, 0, x1, x2, x3, x4, x5, g => sX5_dueBy_h8 n0 (sX5_dueBy_run n0 n) x1 x2 x3 x4 x5 g
  | _ + 1, _, _, _, _, _, _, _ => none
def sX5_dueBy (n : Nat) (x1 : Int) (x2 : Int) (g : zG) : Option (Int × zG) := (sX5_dueBy_run n n 0 x1 x2 (-1) 0 0 g)
def sX5_dueOf (n : Nat) (x1 : Int) (x2 : Int) (g : zG) : Option (Int × zG) := zbd (sX5_dueBy n x1 x2 g) (fun r1 g => zeq r1 (-1) (some (0, g)) (zix ((24 * r1) + x1) 168 (some (g 41 0 ((24 * r1) + x1).toNat, g))))
def sX5_due_j14 (n : Nat) (x1 : Int) (t1 : Int) (g : zG) : Option (Int × zG) := zbd (sX5_holds t1 g) (fun r1 g => zeq r1 0 (some (0, g)) (zbd (sX5_dealAll n (g 6 0 14) g) (fun _ g => zbd (sX5_dueOf n x1 (g 6 0 14) g) (fun r3 g => some (r3, g)))))
def sX5_due (n : Nat) (x1 : Int) (g : zG) : Option (Int × zG) := zbd (sX5_isFlight x1 g) (fun r1 g => zeq r1 0 ((sX5_due_j14 n x1 1 g)) ((sX5_due_j14 n x1 0 g)))
def sX5_dueAnew (n : Nat) (x1 : Int) (g : zG) : Option (Int × zG) := zbd (sX5_due n x1 g) (fun r1 g => some (r1, g))
def sX5_sumBy_h9 (n : Nat) (K : Nat → Int → Int → Int → zG → Option (Int × zG)) (x1 : Int) (x2 : Int) (x3 : Int) (g : zG) : Option (Int × zG) := zlt x3 (g 6 0 1) (zbd (sX5_dueOf n x3 x1 g) (fun r1 g => zlet (x2 + r1) (fun v2 => zlet (x3 + 1) (fun v3 => (K 0 x1 v2 v3 g))))) (some (x2, g))
def sX5_sumBy_run (n0 : Nat) : Nat → Nat → Int → Int → Int → zG → Option (Int × zG)
  | 0, _, _, _, _, _ => none
  | n + 1, 0, x1, x2, x3, g => sX5_sumBy_h9 n0 (sX5_sumBy_run n0 n) x1 x2 x3 g
  | _ + 1, _, _, _, _, _ => none
def sX5_sumBy (n : Nat) (x1 : Int) (g : zG) : Option (Int × zG) := zbd (sX5_dealAll n x1 g) (fun _ g => (sX5_sumBy_run n n 0 x1 0 0 g))
def sX5_allDue (n : Nat) (g : zG) : Option (Int × zG) := zst g 6 0 0 0 (fun g => zbd (sX5_sumBy n (g 6 0 14) g) (fun r1 g => some (r1, g)))
def sX5_would_j27 (n : Nat) (x1 : Int) (x2 : Int) (x3 : Int) (x4 : Int) (t1 : Int) (g : zG) : Option (Int × zG) := zbd (sX5_holds t1 g) (fun r1 g => zeq r1 0 (some (0, g)) (zbd (sX5_lays (g 6 0 14) x1 x2 x3 x4 g) (fun _ g => zbd (sX5_sumBy n ((g 6 0 14) + 1) g) (fun r3 g => some (r3, g)))))
def sX5_would (n : Nat) (x1 : Int) (x2 : Int) (x3 : Int) (x4 : Int) (g : zG) : Option (Int × zG) := zbd (sX5_isSector x1 g) (fun r1 g => zeq r1 0 ((sX5_would_j27 n x1 x2 x3 x4 1 g)) (zbd (sX5_isPart x2 x3 x4 g) (fun r2 g => zeq r2 0 ((sX5_would_j27 n x1 x2 x3 x4 2 g)) ((sX5_would_j27 n x1 x2 x3 x4 0 g)))))
def sX5_deals_j116 (n : Nat) (t1 : Int) (t2 : Int) (g : zG) : Option (Int × zG) := zix t1 24 (zst g 25 0 (t1).toNat t2 (fun g => some (0, g)))
def sX5_deals_j95 (n : Nat) (x1 : Int) (x3 : Int) (x5 : Int) (t1 : Int) (t2 : Int) (g : zG) : Option (Int × zG) := zix t1 24 (zst g 24 0 (t1).toNat t2 (fun g => zeq x5 0 ((sX5_deals_j116 n x1 x3 g)) (zix x1 24 ((sX5_deals_j116 n x1 (g 25 0 (x1).toNat) g)))))
def sX5_deals_j72 (n : Nat) (x1 : Int) (x3 : Int) (x4 : Int) (t0 : Int) (g : zG) : Option (Int × zG) := zeq t0 0 ((sX5_deals_j95 n x1 x3 t0 x1 x4 g)) (zix x1 24 ((sX5_deals_j95 n x1 x3 t0 x1 (g 24 0 (x1).toNat) g)))
def sX5_deals_j71 (n : Nat) (x1 : Int) (x3 : Int) (x4 : Int) (g : zG) : Option (Int × zG) := (sX5_deals_j72 n x1 x3 x4 0 g)
def sX5_deals_j35 (n : Nat) (x1 : Int) (x2 : Int) (x3 : Int) (t0 : Int) (g : zG) : Option (Int × zG) := zeq x3 (-1) ((sX5_deals_j71 n x1 x3 t0 g)) (zeq x2 0 (zix x1 24 (zeq (g 24 0 (x1).toNat) (-1) ((sX5_deals_j71 n x1 x3 t0 g)) (zix x1 24 (zle t0 (g 24 0 (x1).toNat) ((sX5_deals_j71 n x1 x3 t0 g)) ((sX5_deals_j72 n x1 x3 t0 1 g)))))) ((sX5_deals_j71 n x1 x3 t0 g)))
def sX5_deals (n : Nat) (x1 : Int) (x2 : Int) (g : zG) : Option (Int × zG) := zbd (sX5_dueBy n x1 (g 6 0 14) g) (fun r1 g => zeq r1 (-1) ((sX5_deals_j35 n x1 x2 r1 (-1) g)) (zix x1 24 (zlet (g 21 0 (x1).toNat) (fun v3 => zbd (sX5_dueOf n x1 (g 6 0 14) g) (fun r2 g => (sX5_deals_j35 n x1 x2 r1 (v3 + r2) g))))))
def sX5_deal_j77 (n : Nat) (K : Nat → Int → Int → Int → zG → Option (Int × zG)) (x1 : Int) (x3 : Int) (t0 : Int) (t1 : Int) (g : zG) : Option (Int × zG) := zlet (t0 + t1) (fun v1 => zlet (x3 + 1) (fun v2 => (K 0 x1 v1 v2 g)))
def sX5_deal_h17 (n : Nat) (K : Nat → Int → Int → Int → zG → Option (Int × zG)) (x1 : Int) (x2 : Int) (x3 : Int) (g : zG) : Option (Int × zG) := zlt x3 (g 6 0 1) (zix x3 24 (zeq (g 22 0 (x3).toNat) 0 (zix x3 24 (zeq (g 29 0 (x3).toNat) 0 (zbd (sX5_deals n x3 x1 g) (fun _ g => zix x3 24 (zeq (g 24 0 (x3).toNat) (-1) ((sX5_deal_j77 n K x1 x3 x2 0 g)) (zix x3 24 (zix x3 24 ((sX5_deal_j77 n K x1 x3 x2 ((g 24 0 (x3).toNat) - (g 21 0 (x3).toNat)) g))))))) (zlet (x3 + 1) (fun v2 => (K 0 x1 x2 v2 g))))) (zlet (x3 + 1) (fun v1 => (K 0 x1 x2 v1 g))))) (some (x2, g))
def sX5_deal_run (n0 : Nat) : Nat → Nat → Int → Int → Int → zG → Option (Int × zG)
  | 0, _, _, _, _, _ => none
  | n + 1, 0, x1, x2, x3, g => sX5_deal_h17 n0 (sX5_deal_run n0 n) x1 x2 x3 g
  | _ + 1, _, _, _, _, _ => none
def sX5_deal (n : Nat) (x1 : Int) (g : zG) : Option (Int × zG) := zst g 6 0 0 0 (fun g => zbd (sX5_dealAll n (g 6 0 14) g) (fun _ g => (sX5_deal_run n n 0 x1 0 0 g)))
def sX5_swap_j242 (x1 : Int) (x2 : Int) (x6 : Int) (x7 : Int) (t1 : Int) (g : zG) : Option (Int × zG) := zbd (sX5_holds t1 g) (fun r1 g => zeq r1 0 (some (0, g)) (zix x1 24 (zst g 24 0 (x1).toNat x6 (fun g => zix x2 24 (zst g 24 0 (x2).toNat x7 (fun g => some (0, g)))))))
def sX5_swap_j212 (x1 : Int) (x2 : Int) (x3 : Int) (x6 : Int) (x7 : Int) (t0 : Int) (g : zG) : Option (Int × zG) := zeq x3 0 ((sX5_swap_j242 x1 x2 x6 x7 1 g)) (zeq x1 x2 ((sX5_swap_j242 x1 x2 x6 x7 2 g)) (zeq t0 0 ((sX5_swap_j242 x1 x2 x6 x7 3 g)) ((sX5_swap_j242 x1 x2 x6 x7 0 g))))
def sX5_swap_j211 (x1 : Int) (x2 : Int) (x3 : Int) (x6 : Int) (x7 : Int) (g : zG) : Option (Int × zG) := (sX5_swap_j212 x1 x2 x3 x6 x7 0 g)
def sX5_swap_j178 (x1 : Int) (x2 : Int) (x3 : Int) (x4 : Int) (x6 : Int) (t0 : Int) (g : zG) : Option (Int × zG) := zeq x4 0 ((sX5_swap_j211 x1 x2 x3 x6 t0 g)) (zix x1 24 (zlt x6 (g 21 0 (x1).toNat) ((sX5_swap_j211 x1 x2 x3 x6 t0 g)) (zix x2 24 (zlt t0 (g 21 0 (x2).toNat) ((sX5_swap_j211 x1 x2 x3 x6 t0 g)) ((sX5_swap_j212 x1 x2 x3 x6 t0 1 g))))))
def sX5_swap_j147 (x1 : Int) (x2 : Int) (x3 : Int) (x4 : Int) (x5 : Int) (t0 : Int) (g : zG) : Option (Int × zG) := zeq x4 0 ((sX5_swap_j178 x1 x2 x3 x4 t0 0 g)) (zbd (sX5_overOf x1 x5 g) (fun r1 g => zix ((6 * x2) + x5) 144 ((sX5_swap_j178 x1 x2 x3 x4 t0 (r1 - (g 30 0 ((6 * x2) + x5).toNat)) g))))
def sX5_swap_j116 (x1 : Int) (x2 : Int) (x3 : Int) (x4 : Int) (t0 : Int) (g : zG) : Option (Int × zG) := zeq x4 0 ((sX5_swap_j147 x1 x2 x3 x4 t0 0 g)) (zbd (sX5_overOf x2 t0 g) (fun r1 g => zix ((6 * x1) + t0) 144 ((sX5_swap_j147 x1 x2 x3 x4 t0 (r1 - (g 30 0 ((6 * x1) + t0).toNat)) g))))
def sX5_swap_j94 (x1 : Int) (x2 : Int) (x3 : Int) (t0 : Int) (g : zG) : Option (Int × zG) := zeq t0 0 ((sX5_swap_j116 x1 x2 x3 t0 0 g)) (zix x1 24 (zix (g 25 0 (x1).toNat) 7 ((sX5_swap_j116 x1 x2 x3 t0 (g 32 0 (g 25 0 (x1).toNat).toNat) g))))
def sX5_swap_j93 (x1 : Int) (x2 : Int) (x3 : Int) (g : zG) : Option (Int × zG) := (sX5_swap_j94 x1 x2 x3 0 g)
def sX5_swap_j21 (x1 : Int) (x2 : Int) (t0 : Int) (g : zG) : Option (Int × zG) := zeq t0 0 ((sX5_swap_j93 x1 x2 t0 g)) (zeq x1 x2 ((sX5_swap_j93 x1 x2 t0 g)) (zix x1 24 (zeq (g 22 0 (x1).toNat) 0 (zix x2 24 (zeq (g 22 0 (x2).toNat) 0 (zix x1 24 (zix x2 24 (zeq (g 20 0 (x1).toNat) (g 20 0 (x2).toNat) (zix x1 24 (zeq (g 25 0 (x1).toNat) (-1) ((sX5_swap_j93 x1 x2 t0 g)) (zix x1 24 (zix x2 24 (zeq (g 25 0 (x1).toNat) (g 25 0 (x2).toNat) ((sX5_swap_j94 x1 x2 t0 1 g)) ((sX5_swap_j93 x1 x2 t0 g))))))) ((sX5_swap_j93 x1 x2 t0 g))))) ((sX5_swap_j93 x1 x2 t0 g)))) ((sX5_swap_j93 x1 x2 t0 g)))))
def sX5_swap_j20 (x1 : Int) (x2 : Int) (g : zG) : Option (Int × zG) := (sX5_swap_j21 x1 x2 0 g)
def sX5_swap (x1 : Int) (x2 : Int) (g : zG) : Option (Int × zG) := zbd (sX5_isFlight x1 g) (fun r1 g => zeq r1 0 ((sX5_swap_j20 x1 x2 g)) (zbd (sX5_isFlight x2 g) (fun r2 g => zeq r2 0 ((sX5_swap_j20 x1 x2 g)) ((sX5_swap_j21 x1 x2 1 g)))))
def sX5_goes_j109 (t1 : Int) (t2 : Int) (t3 : Int) (g : zG) : Option (Int × zG) := zix t1 4 (zst g 39 0 (t1).toNat (t2 + t3) (fun g => some (0, g)))
def sX5_goes (x1 : Int) (x2 : Int) (g : zG) : Option (Int × zG) := zix x1 24 (zst g 22 0 (x1).toNat 1 (fun g => zix x1 24 (zst g 23 0 (x1).toNat x2 (fun g => zix x1 24 (zeq (g 24 0 (x1).toNat) (-1) (some (0, g)) (zix x1 24 (zix x1 24 (zlet ((g 24 0 (x1).toNat) - (g 21 0 (x1).toNat)) (fun v1 => zix x1 24 (zix (g 25 0 (x1).toNat) 7 (zix (g 25 0 (x1).toNat) 7 (zst g 36 0 (g 25 0 (x1).toNat).toNat ((g 36 0 (g 25 0 (x1).toNat).toNat) + v1) (fun g => zix x1 24 (zix (g 20 0 (x1).toNat) 4 (zix (g 20 0 (x1).toNat) 4 (zst g 38 0 (g 20 0 (x1).toNat).toNat ((g 38 0 (g 20 0 (x1).toNat).toNat) + v1) (fun g => zix x1 24 (zix (g 20 0 (x1).toNat) 4 (zix x1 24 (zix x1 24 (zlet (g 39 0 (g 20 0 (x1).toNat).toNat) (fun v3 => zlet (g 20 0 (x1).toNat) (fun v4 => zbd (sX5_isIn x2 ((g 24 0 (x1).toNat) - 5) ((g 24 0 (x1).toNat) + 10) g) (fun r2 g => zeq r2 0 ((sX5_goes_j109 v4 v3 1 g)) ((sX5_goes_j109 v4 v3 0 g))))))))))))))))))))))))))
def sX5_message_j181 (t1 : Int) (t2 : Int) (g : zG) : Option (Int × zG) := zix t1 24 (zst g 25 0 (t1).toNat t2 (fun g => zbo 1 (some (1, g))))
def sX5_message_j160 (x1 : Int) (x7 : Int) (t1 : Int) (t2 : Int) (g : zG) : Option (Int × zG) := zix t1 24 (zst g 24 0 (t1).toNat t2 (fun g => zeq x7 0 (zix x1 24 ((sX5_message_j181 x1 (g 25 0 (x1).toNat) g))) ((sX5_message_j181 x1 (-1) g))))
def sX5_message_j130 (x1 : Int) (x4 : Int) (t0 : Int) (g : zG) : Option (Int × zG) := zix x1 24 (zst g 21 0 (x1).toNat x4 (fun g => zeq t0 0 (zix x1 24 ((sX5_message_j160 x1 t0 x1 (g 24 0 (x1).toNat) g))) ((sX5_message_j160 x1 t0 x1 (-1) g))))
def sX5_message_j74 (x1 : Int) (x2 : Int) (x3 : Int) (x4 : Int) (t1 : Int) (g : zG) : Option (Int × zG) := zbd (sX5_holds t1 g) (fun r1 g => zeq r1 0 (zbo 0 (some (0, g))) (zix x1 24 (zeq (g 22 0 (x1).toNat) 0 (zix x1 24 (zle x2 (g 28 0 (x1).toNat) (zbo 0 (some (0, g))) (zix x1 24 (zst g 28 0 (x1).toNat x2 (fun g => zeq x3 0 (zix x1 24 (zlt (g 24 0 (x1).toNat) x4 ((sX5_message_j130 x1 x4 1 g)) ((sX5_message_j130 x1 x4 0 g)))) (zeq x3 1 (zix x1 24 (zst g 22 0 (x1).toNat 2 (fun g => zbo 1 (some (1, g))))) (zbd (sX5_goes x1 x4 g) (fun _ g => zbo 1 (some (1, g)))))))))) (zbo 0 (some (0, g))))))
def sX5_message_j45 (x1 : Int) (x2 : Int) (x3 : Int) (x4 : Int) (t0 : Int) (g : zG) : Option (Int × zG) := zbd (sX5_isFlight x1 g) (fun r1 g => zeq r1 0 ((sX5_message_j74 x1 x2 x3 x4 1 g)) (zeq t0 0 ((sX5_message_j74 x1 x2 x3 x4 2 g)) ((sX5_message_j74 x1 x2 x3 x4 0 g))))
def sX5_message_j44 (x1 : Int) (x2 : Int) (x3 : Int) (x4 : Int) (g : zG) : Option (Int × zG) := (sX5_message_j45 x1 x2 x3 x4 0 g)
def sX5_message_j34 (x1 : Int) (x2 : Int) (x3 : Int) (x4 : Int) (t0 : Int) (t1 : Int) (t2 : Int) (g : zG) : Option (Int × zG) := zbd (sX5_isIn t0 t1 t2 g) (fun r1 g => zeq r1 0 ((sX5_message_j44 x1 x2 x3 x4 g)) ((sX5_message_j45 x1 x2 x3 x4 1 g)))
def sX5_message (x1 : Int) (x2 : Int) (x3 : Int) (x4 : Int) (g : zG) : Option (Int × zG) := zbd (sX5_isIn x2 1 99 g) (fun r1 g => zeq r1 0 ((sX5_message_j44 x1 x2 x3 x4 g)) (zbd (sX5_isIn x3 0 2 g) (fun r2 g => zeq r2 0 ((sX5_message_j44 x1 x2 x3 x4 g)) (zeq x3 1 ((sX5_message_j34 x1 x2 x3 x4 x4 0 0 g)) ((sX5_message_j34 x1 x2 x3 x4 x4 0 1439 g))))))
def sX5_companyIs_j28 (n : Nat) (K : Nat → Int → Int → Int → Int → zG → Option (Int × zG)) (x1 : Int) (x2 : Int) (t1 : Int) (g : zG) : Option (Int × zG) := zbd (sX5_holds t1 g) (fun r1 g => zeq r1 0 (some (0, g)) ((K 0 x1 x2 0 0 g)))
def sX5_companyIs_j78 (n : Nat) (K : Nat → Int → Int → Int → Int → zG → Option (Int × zG)) (x1 : Int) (x2 : Int) (x4 : Int) (t0 : Int) (t1 : Int) (g : zG) : Option (Int × zG) := zlet (t0 + t1) (fun v1 => zlet (x4 + 1) (fun v2 => (K 0 x1 x2 v1 v2 g)))
def sX5_companyIs_j77 (n : Nat) (K : Nat → Int → Int → Int → Int → zG → Option (Int × zG)) (x1 : Int) (x2 : Int) (x4 : Int) (t0 : Int) (g : zG) : Option (Int × zG) := (sX5_companyIs_j78 n K x1 x2 x4 t0 0 g)
def sX5_companyIs_h41 (n : Nat) (K : Nat → Int → Int → Int → Int → zG → Option (Int × zG)) (x1 : Int) (x2 : Int) (x3 : Int) (x4 : Int) (g : zG) : Option (Int × zG) := zlt x4 (g 6 0 1) (zix x4 24 (zeq (g 20 0 (x4).toNat) x1 (zix x4 24 (zeq (g 22 0 (x4).toNat) 1 ((sX5_companyIs_j78 n K x1 x2 x4 x3 1 g)) ((sX5_companyIs_j77 n K x1 x2 x4 x3 g)))) ((sX5_companyIs_j77 n K x1 x2 x4 x3 g)))) (zeq x2 0 (zix x1 4 (some (g 38 0 (x1).toNat, g))) (zeq x2 1 (zix x1 4 (some (g 39 0 (x1).toNat, g))) (some (x3, g))))
def sX5_companyIs_run (n0 : Nat) : Nat → Nat → Int → Int → Int → Int → zG → Option (Int × zG)
  | 0, _, _, _, _, _, _ => none
  | n + 1, 0, x1, x2, x3, x4, g => sX5_companyIs_h41 n0 (sX5_companyIs_run n0 n) x1 x2 x3 x4 g
  | _ + 1, _, _, _, _, _, _ => none
def sX5_companyIs (n : Nat) (x1 : Int) (x2 : Int) (g : zG) : Option (Int × zG) := zbd (sX5_isIn x1 0 3 g) (fun r1 g => zeq r1 0 ((sX5_companyIs_j28 n (sX5_companyIs_run n n) x1 x2 1 g)) (zbd (sX5_isIn x2 0 2 g) (fun r2 g => zeq r2 0 ((sX5_companyIs_j28 n (sX5_companyIs_run n n) x1 x2 2 g)) ((sX5_companyIs_j28 n (sX5_companyIs_run n n) x1 x2 0 g)))))
set_option maxHeartbeats 4000000 in
set_option maxRecDepth 100000 in
theorem czX5_thrown (l : Launch) (X : zC) (N : zN) {g g' : zG} {r : Int} (h : sX5_thrown g = some (r, g')) : zM l yX5_thrown cX5_thrown 1 (some .int) { frames := 0, cells := 0, slots := 0, locals := 0 } X N g [z_r N 6 0] (zQi X N r g') := by
  refine z_ofW (own := RX5) (by decide +kernel) rfl (Nat.le_of_ble_eq_true rfl) ?_
  intro p e s m args below meth c ls hF hr hw hl
  have hl : lv_has ls 1 [(0, z_r N 6 0)] := hl
  have hx := hF.1.1
  have hb := hF.1.2.1
  unfold sX5_thrown at h
  generalize s.heap = H at hw ⊢
  generalize ([] : List Loc) = locs at hw ⊢
  refine lv_aload_n hx hb dX5_thrown_0 rfl (lv_at hl 0 rfl) ?_
  refine zr_get hF hw zEf_6_0 (by decide) zC_6 0 (by decide) qw_822 rfl dX5_thrown_1 ?_
  exact zr_iret hF hr hw h dX5_thrown_4
set_option maxHeartbeats 4000000 in
set_option maxRecDepth 100000 in
theorem czX5_holds (l : Launch) (X : zC) (N : zN) {x1 : Int} {g g' : zG} {r : Int} (h : sX5_holds x1 g = some (r, g')) : zM l yX5_holds cX5_holds 2 (some .boolean) { frames := 0, cells := 0, slots := 0, locals := 0 } X N g [z_r N 6 0, z_v x1] (zQi X N r g') := by
  refine z_ofW (own := RX5) (by decide +kernel) rfl (Nat.le_of_ble_eq_true rfl) ?_
  intro p e s m args below meth c ls hF hr hw hl
  have hl : lv_has ls 2 [(0, z_r N 6 0), (1, z_v x1)] := hl
  have hx := hF.1.1
  have hb := hF.1.2.1
  unfold sX5_holds at h
  generalize s.heap = H at hw ⊢
  generalize ([] : List Loc) = locs at hw ⊢
  refine lv_aload_n hx hb dX5_holds_0 rfl (lv_at hl 0 rfl) ?_
  refine lv_iload_n hx hb dX5_holds_1 rfl (lv_at hl 1 rfl) ?_
  refine zr_put hF hw zEf_6_0 (by decide) zC_6 0 (by decide) (by decide) qw_822 rfl (by decide +kernel) h dX5_holds_2 (fun g H locs hw h => ?_)
  refine lv_iload_n hx hb dX5_holds_5 rfl (lv_at hl 1 rfl) ?_
  refine zr_if_ne (tgt := 13) hF h dX5_holds_6 (by decide) (fun h => ?_) (fun h => ?_)
  · refine lv_iconst hx hb dX5_holds_13 rfl ?_
    exact zr_zret hF hr hw h dX5_holds_14
  · refine lv_iconst hx hb dX5_holds_9 rfl ?_
    refine lv_goto (tgt := 14) hx hb dX5_holds_10 (by decide) ?_
    exact zr_zret hF hr hw h dX5_holds_14
set_option maxHeartbeats 4000000 in
set_option maxRecDepth 100000 in
theorem czX5_isIn (l : Launch) (X : zC) (N : zN) {x0 : Int} {x1 : Int} {x2 : Int} {g g' : zG} {r : Int} (h : sX5_isIn x0 x1 x2 g = some (r, g')) : zM l yX5_isIn cX5_isIn 3 (some .boolean) { frames := 0, cells := 0, slots := 0, locals := 0 } X N g [z_v x0, z_v x1, z_v x2] (zQi X N r g') := by
  refine z_ofW (own := RX5) (by decide +kernel) rfl (Nat.le_of_ble_eq_true rfl) ?_
  intro p e s m args below meth c ls hF hr hw hl
  have hl : lv_has ls 3 [(0, z_v x0), (1, z_v x1), (2, z_v x2)] := hl
  have hx := hF.1.1
  have hb := hF.1.2.1
  unfold sX5_isIn at h
  generalize s.heap = H at hw ⊢
  generalize ([] : List Loc) = locs at hw ⊢
  refine lv_iload_n hx hb dX5_isIn_0 rfl (lv_at hl 0 rfl) ?_
  refine lv_iload_n hx hb dX5_isIn_1 rfl (lv_at hl 1 rfl) ?_
  refine zr_icmp_lt (tgt := 14) hF h dX5_isIn_2 (by decide) (fun h => ?_) (fun h => ?_)
  · refine lv_iconst hx hb dX5_isIn_14 rfl ?_
    exact zr_zret hF hr hw h dX5_isIn_15
  · refine lv_iload_n hx hb dX5_isIn_5 rfl (lv_at hl 0 rfl) ?_
    refine lv_iload_n hx hb dX5_isIn_6 rfl (lv_at hl 2 rfl) ?_
    refine zr_icmp_gt (tgt := 14) hF h dX5_isIn_7 (by decide) (fun h => ?_) (fun h => ?_)
    · refine lv_iconst hx hb dX5_isIn_14 rfl ?_
      exact zr_zret hF hr hw h dX5_isIn_15
    · refine lv_iconst hx hb dX5_isIn_10 rfl ?_
      refine lv_goto (tgt := 15) hx hb dX5_isIn_11 (by decide) ?_
      exact zr_zret hF hr hw h dX5_isIn_15
set_option maxHeartbeats 4000000 in
set_option maxRecDepth 100000 in
theorem czX5_isFlight (l : Launch) (X : zC) (N : zN) {x1 : Int} {g g' : zG} {r : Int} (h : sX5_isFlight x1 g = some (r, g')) : zM l yX5_isFlight cX5_isFlight 2 (some .boolean) { frames := 1, cells := 0, slots := 0, locals := 22 } X N g [z_r N 6 0, z_v x1] (zQi X N r g') := by
  refine z_ofW (own := RX5) (by decide +kernel) rfl (Nat.le_of_ble_eq_true rfl) ?_
  intro p e s m args below meth c ls hF hr hw hl
  have hl : lv_has ls 2 [(0, z_r N 6 0), (1, z_v x1)] := hl
  have hx := hF.1.1
  have hb := hF.1.2.1
  unfold sX5_isFlight at h
  generalize s.heap = H at hw ⊢
  generalize ([] : List Loc) = locs at hw ⊢
  refine lv_iload_n hx hb dX5_isFlight_0 rfl (lv_at hl 1 rfl) ?_
  refine lv_iconst hx hb dX5_isFlight_1 rfl ?_
  refine lv_aload_n hx hb dX5_isFlight_2 rfl (lv_at hl 0 rfl) ?_
  refine zr_get hF hw zEf_6_0 (by decide) zC_6 1 (by decide) qw_823 rfl dX5_isFlight_3 ?_
  refine lv_iconst hx hb dX5_isFlight_6 rfl ?_
  refine zr_isub hF dX5_isFlight_7 ?_
  obtain ⟨r1, g1, h1, h⟩ := zbd_some h
  refine zr_callSi (n := 3) (As := [z_v x1, z_v 0, z_v ((g 6 0 1) - 1)]) (rest := []) hF hw (czX5_isIn l X N h1) (z_goodS qw_922 qw_923 qw_42 qw_924) (by decide +kernel) ⟨Nat.le_of_ble_eq_true rfl, Nat.le_of_ble_eq_true rfl⟩ ⟨rfl, rfl⟩ rfl hl.1 rfl (Nat.le_of_ble_eq_true rfl) dX5_isFlight_8 ⟨Nat.le_of_ble_eq_true rfl, Nat.le_of_ble_eq_true rfl⟩ (fun H locs hw => ?_)
  clear h1
  generalize g1 = g at *
  exact zr_zret hF hr hw h dX5_isFlight_11
set_option maxHeartbeats 4000000 in
set_option maxRecDepth 100000 in
theorem czX5_isRegulation (l : Launch) (X : zC) (N : zN) {x1 : Int} {g g' : zG} {r : Int} (h : sX5_isRegulation x1 g = some (r, g')) : zM l yX5_isRegulation cX5_isRegulation 2 (some .boolean) { frames := 1, cells := 0, slots := 0, locals := 22 } X N g [z_r N 6 0, z_v x1] (zQi X N r g') := by
  refine z_ofW (own := RX5) (by decide +kernel) rfl (Nat.le_of_ble_eq_true rfl) ?_
  intro p e s m args below meth c ls hF hr hw hl
  have hl : lv_has ls 2 [(0, z_r N 6 0), (1, z_v x1)] := hl
  have hx := hF.1.1
  have hb := hF.1.2.1
  unfold sX5_isRegulation at h
  generalize s.heap = H at hw ⊢
  generalize ([] : List Loc) = locs at hw ⊢
  refine lv_iload_n hx hb dX5_isRegulation_0 rfl (lv_at hl 1 rfl) ?_
  refine lv_iconst hx hb dX5_isRegulation_1 rfl ?_
  refine lv_aload_n hx hb dX5_isRegulation_2 rfl (lv_at hl 0 rfl) ?_
  refine zr_get hF hw zEf_6_0 (by decide) zC_6 14 (by decide) qw_836 rfl dX5_isRegulation_3 ?_
  refine lv_iconst hx hb dX5_isRegulation_6 rfl ?_
  refine zr_isub hF dX5_isRegulation_7 ?_
  obtain ⟨r1, g1, h1, h⟩ := zbd_some h
  refine zr_callSi (n := 3) (As := [z_v x1, z_v 0, z_v ((g 6 0 14) - 1)]) (rest := []) hF hw (czX5_isIn l X N h1) (z_goodS qw_922 qw_923 qw_42 qw_924) (by decide +kernel) ⟨Nat.le_of_ble_eq_true rfl, Nat.le_of_ble_eq_true rfl⟩ ⟨rfl, rfl⟩ rfl hl.1 rfl (Nat.le_of_ble_eq_true rfl) dX5_isRegulation_8 ⟨Nat.le_of_ble_eq_true rfl, Nat.le_of_ble_eq_true rfl⟩ (fun H locs hw => ?_)
  clear h1
  generalize g1 = g at *
  exact zr_zret hF hr hw h dX5_isRegulation_11
set_option maxHeartbeats 4000000 in
set_option maxRecDepth 100000 in
theorem czX5_isSector (l : Launch) (X : zC) (N : zN) {x0 : Int} {g g' : zG} {r : Int} (h : sX5_isSector x0 g = some (r, g')) : zM l yX5_isSector cX5_isSector 1 (some .boolean) { frames := 1, cells := 0, slots := 0, locals := 22 } X N g [z_v x0] (zQi X N r g') := by
  refine z_ofW (own := RX5) (by decide +kernel) rfl (Nat.le_of_ble_eq_true rfl) ?_
  intro p e s m args below meth c ls hF hr hw hl
  have hl : lv_has ls 1 [(0, z_v x0)] := hl
  have hx := hF.1.1
  have hb := hF.1.2.1
  unfold sX5_isSector at h
  generalize s.heap = H at hw ⊢
  generalize ([] : List Loc) = locs at hw ⊢
  refine lv_iload_n hx hb dX5_isSector_0 rfl (lv_at hl 0 rfl) ?_
  refine lv_iconst hx hb dX5_isSector_1 rfl ?_
  refine lv_iconst hx hb dX5_isSector_2 rfl ?_
  obtain ⟨r1, g1, h1, h⟩ := zbd_some h
  refine zr_callSi (n := 3) (As := [z_v x0, z_v 0, z_v 5]) (rest := []) hF hw (czX5_isIn l X N h1) (z_goodS qw_922 qw_923 qw_42 qw_924) (by decide +kernel) ⟨Nat.le_of_ble_eq_true rfl, Nat.le_of_ble_eq_true rfl⟩ ⟨rfl, rfl⟩ rfl hl.1 rfl (Nat.le_of_ble_eq_true rfl) dX5_isSector_3 ⟨Nat.le_of_ble_eq_true rfl, Nat.le_of_ble_eq_true rfl⟩ (fun H locs hw => ?_)
  clear h1
  generalize g1 = g at *
  exact zr_zret hF hr hw h dX5_isSector_6
set_option maxHeartbeats 4000000 in
set_option maxRecDepth 100000 in
theorem wX5_flight_j43 {p : Program} {l : Launch} {e : Env} {s : State} {m : MethodId} {args : Array Value} {below : List Frame} {meth : Method} {c : Code} {X : zC} {N : zN} {r : Int} {g' : zG} {H : Heap} {locs : List Loc} {ls : Array Slot} (hF : zF p s m args meth c X cX5_flight 4 RX5) (hr : meth.sig.returnType = (some .int)) {n : Nat} {K : Nat → Int → zG → Option (Int × zG)} (hK0 : ∀ (x3 : Int) (g : zG) (H : Heap) (locs : List Loc) (ls : Array Slot), zH X N g s H locs → lv_has ls 4 [(0, z_r N 6 0), (3, z_v x3)] → K 0 x3 g = some (r, g') → W p l e { frames := 1, cells := 0, slots := 0, locals := 22 } s m args below meth c H locs 0 0 (MQ below (zQi X N r g') args s 0 0 (zA X)) (F0 m 103 ls [])) {x1 : Int} {x2 : Int} {t1 : Int} {g : zG} (hw : zH X N g s H locs) (hl : lv_has ls 4 [(0, z_r N 6 0), (1, z_v x1), (2, z_v x2)]) (h : sX5_flight_j43 n K x1 x2 t1 g = some (r, g')) : W p l e { frames := 1, cells := 0, slots := 0, locals := 22 } s m args below meth c H locs 0 0 (MQ below (zQi X N r g') args s 0 0 (zA X)) (F0 m 43 ls [z_v t1, z_r N 6 0]) := by
  have hx := hF.1.1
  have hb := hF.1.2.1
  unfold sX5_flight_j43 at h
  obtain ⟨r1, g1, h1, h⟩ := zbd_some h
  refine zr_callVi (n := 1) (As := [z_v t1]) (rest := []) hF hw (czX5_holds l X N h1) zEf_6_0 (by decide) zC_6 (z_goodV qw_925 qw_927 qw_14 qw_42 qw_928) (by decide +kernel) ⟨Nat.le_of_ble_eq_true rfl, Nat.le_of_ble_eq_true rfl⟩ ⟨rfl, rfl⟩ rfl hl.1 rfl (Nat.le_of_ble_eq_true rfl) dX5_flight_43 ⟨Nat.le_of_ble_eq_true rfl, Nat.le_of_ble_eq_true rfl⟩ (fun H locs hw => ?_)
  clear h1
  generalize g1 = g at *
  refine zr_if_ne (tgt := 51) hF h dX5_flight_46 (by decide) (fun h => ?_) (fun h => ?_)
  · refine lv_aload_n hx hb dX5_flight_51 rfl (lv_at hl 0 rfl) ?_
    refine zr_get hF hw zEf_6_0 (by decide) zC_6 2 (by decide) qw_824 rfl dX5_flight_52 ?_
    refine lv_aload_n hx hb dX5_flight_55 rfl (lv_at hl 0 rfl) ?_
    refine zr_get hF hw zEf_6_0 (by decide) zC_6 1 (by decide) qw_823 rfl dX5_flight_56 ?_
    refine lv_iload_n hx hb dX5_flight_59 rfl (lv_at hl 1 rfl) ?_
    refine zr_iast hF hw zEf_20_0 (by decide) h dX5_flight_60 (fun g H locs hw h => ?_)
    refine lv_aload_n hx hb dX5_flight_61 rfl (lv_at hl 0 rfl) ?_
    refine zr_get hF hw zEf_6_0 (by decide) zC_6 3 (by decide) qw_825 rfl dX5_flight_62 ?_
    refine lv_aload_n hx hb dX5_flight_65 rfl (lv_at hl 0 rfl) ?_
    refine zr_get hF hw zEf_6_0 (by decide) zC_6 1 (by decide) qw_823 rfl dX5_flight_66 ?_
    refine lv_iload_n hx hb dX5_flight_69 rfl (lv_at hl 2 rfl) ?_
    refine zr_iast hF hw zEf_21_0 (by decide) h dX5_flight_70 (fun g H locs hw h => ?_)
    refine lv_aload_n hx hb dX5_flight_71 rfl (lv_at hl 0 rfl) ?_
    refine zr_get hF hw zEf_6_0 (by decide) zC_6 6 (by decide) qw_828 rfl dX5_flight_72 ?_
    refine lv_aload_n hx hb dX5_flight_75 rfl (lv_at hl 0 rfl) ?_
    refine zr_get hF hw zEf_6_0 (by decide) zC_6 1 (by decide) qw_823 rfl dX5_flight_76 ?_
    refine lv_iconst hx hb dX5_flight_79 rfl ?_
    refine zr_iast hF hw zEf_24_0 (by decide) h dX5_flight_80 (fun g H locs hw h => ?_)
    refine lv_aload_n hx hb dX5_flight_81 rfl (lv_at hl 0 rfl) ?_
    refine zr_get hF hw zEf_6_0 (by decide) zC_6 7 (by decide) qw_829 rfl dX5_flight_82 ?_
    refine lv_aload_n hx hb dX5_flight_85 rfl (lv_at hl 0 rfl) ?_
    refine zr_get hF hw zEf_6_0 (by decide) zC_6 1 (by decide) qw_823 rfl dX5_flight_86 ?_
    refine lv_iconst hx hb dX5_flight_89 rfl ?_
    refine zr_iast hF hw zEf_25_0 (by decide) h dX5_flight_90 (fun g H locs hw h => ?_)
    refine lv_aload_n hx hb dX5_flight_91 rfl (lv_at hl 0 rfl) ?_
    refine zr_get hF hw zEf_6_0 (by decide) zC_6 9 (by decide) qw_831 rfl dX5_flight_92 ?_
    refine lv_aload_n hx hb dX5_flight_95 rfl (lv_at hl 0 rfl) ?_
    refine zr_get hF hw zEf_6_0 (by decide) zC_6 1 (by decide) qw_823 rfl dX5_flight_96 ?_
    refine lv_iconst hx hb dX5_flight_99 rfl ?_
    refine zr_iast hF hw zEf_27_0 (by decide) h dX5_flight_100 (fun g H locs hw h => ?_)
    refine lv_iconst hx hb dX5_flight_101 rfl ?_
    refine lv_istore_n (lv' := [(3, z_v 0), (0, z_r N 6 0), (1, z_v x1), (2, z_v x2)]) hx hb dX5_flight_102 rfl hl (by decide) rfl (fun ls hl => ?_)
    exact hK0 0 _ _ _ _  hw (lv_sub hl [1, 0] rfl) h
  · refine lv_iconst hx hb dX5_flight_49 rfl ?_
    exact zr_iret hF hr hw h dX5_flight_50
set_option maxHeartbeats 4000000 in
set_option maxRecDepth 100000 in
theorem wX5_flight_h103 {p : Program} {l : Launch} {e : Env} {s : State} {m : MethodId} {args : Array Value} {below : List Frame} {meth : Method} {c : Code} {X : zC} {N : zN} {r : Int} {g' : zG} {H : Heap} {locs : List Loc} {ls : Array Slot} (hF : zF p s m args meth c X cX5_flight 4 RX5) (hr : meth.sig.returnType = (some .int)) {n : Nat} {K : Nat → Int → zG → Option (Int × zG)} (hK0 : ∀ (x3 : Int) (g : zG) (H : Heap) (locs : List Loc) (ls : Array Slot), zH X N g s H locs → lv_has ls 4 [(0, z_r N 6 0), (3, z_v x3)] → K 0 x3 g = some (r, g') → W p l e { frames := 1, cells := 0, slots := 0, locals := 22 } s m args below meth c H locs 0 0 (MQ below (zQi X N r g') args s 0 0 (zA X)) (F0 m 103 ls [])) {x3 : Int} {g : zG} (hw : zH X N g s H locs) (hl : lv_has ls 4 [(0, z_r N 6 0), (3, z_v x3)]) (h : sX5_flight_h103 n K x3 g = some (r, g')) : W p l e { frames := 1, cells := 0, slots := 0, locals := 22 } s m args below meth c H locs 0 0 (MQ below (zQi X N r g') args s 0 0 (zA X)) (F0 m 103 ls []) := by
  have hx := hF.1.1
  have hb := hF.1.2.1
  unfold sX5_flight_h103 at h
  refine lv_iload_n hx hb dX5_flight_103 rfl (lv_at hl 1 rfl) ?_
  refine lv_bipush (v := Int32.ofInt (6)) hx hb dX5_flight_104 (by decide) ?_
  refine zr_icmp_ge (tgt := 130) hF h dX5_flight_106 (by decide) (fun h => ?_) (fun h => ?_)
  · refine lv_aload_n hx hb dX5_flight_130 rfl (lv_at hl 0 rfl) ?_
    refine lv_dup hx hb dX5_flight_131 rfl ?_
    refine zr_get hF hw zEf_6_0 (by decide) zC_6 1 (by decide) qw_823 rfl dX5_flight_132 ?_
    refine lv_iconst hx hb dX5_flight_135 rfl ?_
    refine zr_iadd hF dX5_flight_136 ?_
    refine zr_put hF hw zEf_6_0 (by decide) zC_6 1 (by decide) (by decide) qw_823 rfl (by decide +kernel) h dX5_flight_137 (fun g H locs hw h => ?_)
    refine lv_aload_n hx hb dX5_flight_140 rfl (lv_at hl 0 rfl) ?_
    refine zr_get hF hw zEf_6_0 (by decide) zC_6 1 (by decide) qw_823 rfl dX5_flight_141 ?_
    refine lv_iconst hx hb dX5_flight_144 rfl ?_
    refine zr_isub hF dX5_flight_145 ?_
    exact zr_iret hF hr hw h dX5_flight_146
  · refine lv_aload_n hx hb dX5_flight_109 rfl (lv_at hl 0 rfl) ?_
    refine zr_get hF hw zEf_6_0 (by decide) zC_6 12 (by decide) qw_834 rfl dX5_flight_110 ?_
    refine lv_bipush (v := Int32.ofInt (6)) hx hb dX5_flight_113 (by decide) ?_
    refine lv_aload_n hx hb dX5_flight_115 rfl (lv_at hl 0 rfl) ?_
    refine zr_get hF hw zEf_6_0 (by decide) zC_6 1 (by decide) qw_823 rfl dX5_flight_116 ?_
    refine zr_imul hF dX5_flight_119 ?_
    refine lv_iload_n hx hb dX5_flight_120 rfl (lv_at hl 1 rfl) ?_
    refine zr_iadd hF dX5_flight_121 ?_
    refine lv_iconst hx hb dX5_flight_122 rfl ?_
    refine zr_iast hF hw zEf_30_0 (by decide) h dX5_flight_123 (fun g H locs hw h => ?_)
    refine zr_iinc hF (lv' := fun v1 => [(3, z_v v1), (0, z_r N 6 0)]) h dX5_flight_124 hl (k := 1) rfl (by decide) (fun _ => rfl) (fun v1 ls hl h => ?_)
    refine lv_goto (tgt := 103) hx hb dX5_flight_127 (by decide) ?_
    exact hK0 v1 _ _ _ _  hw (lv_sub hl [1, 0] rfl) h
set_option maxHeartbeats 4000000 in
set_option maxRecDepth 100000 in
theorem wX5_flight_run {p : Program} {l : Launch} {e : Env} {s : State} {m : MethodId} {args : Array Value} {below : List Frame} {meth : Method} {c : Code} {X : zC} {N : zN} {r : Int} {g' : zG} (hF : zF p s m args meth c X cX5_flight 4 RX5) (hr : meth.sig.returnType = (some .int)) {n0 : Nat} : ∀ n : Nat, (∀ (x3 : Int) (g : zG) (H : Heap) (locs : List Loc) (ls : Array Slot), zH X N g s H locs → lv_has ls 4 [(0, z_r N 6 0), (3, z_v x3)] → sX5_flight_run n0 n 0 x3 g = some (r, g') → W p l e { frames := 1, cells := 0, slots := 0, locals := 22 } s m args below meth c H locs 0 0 (MQ below (zQi X N r g') args s 0 0 (zA X)) (F0 m 103 ls [])) := by
  intro n
  induction n with
  | zero => exact fun _ _ _ _ _ _ _  h => (by cases h)
  | succ n ih => exact fun x3 g H locs ls  hw hl h => wX5_flight_h103 hF hr ih  hw hl h
set_option maxHeartbeats 4000000 in
set_option maxRecDepth 100000 in
theorem czX5_flight (l : Launch) (X : zC) (N : zN) {n : Nat} {x1 : Int} {x2 : Int} {g g' : zG} {r : Int} (h : sX5_flight n x1 x2 g = some (r, g')) : zM l yX5_flight cX5_flight 4 (some .int) { frames := 1, cells := 0, slots := 0, locals := 22 } X N g [z_r N 6 0, z_v x1, z_v x2] (zQi X N r g') := by
  refine z_ofW (own := RX5) (by decide +kernel) rfl (Nat.le_of_ble_eq_true rfl) ?_
  intro p e s m args below meth c ls hF hr hw hl
  have hl : lv_has ls 4 [(0, z_r N 6 0), (1, z_v x1), (2, z_v x2)] := hl
  have hx := hF.1.1
  have hb := hF.1.2.1
  have hKK := wX5_flight_run hF hr (r := r) (g' := g') (X := X) (N := N) (n0 := n) (l := l) (e := e) (below := below) n
  have hK0 := hKK
  unfold sX5_flight at h
  generalize s.heap = H at hw ⊢
  generalize ([] : List Loc) = locs at hw ⊢
  refine lv_aload_n hx hb dX5_flight_0 rfl (lv_at hl 0 rfl) ?_
  refine lv_iload_n hx hb dX5_flight_1 rfl (lv_at hl 1 rfl) ?_
  refine lv_iconst hx hb dX5_flight_2 rfl ?_
  refine lv_iconst hx hb dX5_flight_3 rfl ?_
  obtain ⟨r1, g1, h1, h⟩ := zbd_some h
  refine zr_callSi (n := 3) (As := [z_v x1, z_v 0, z_v 3]) (rest := [z_r N 6 0]) hF hw (czX5_isIn l X N h1) (z_goodS qw_922 qw_923 qw_42 qw_924) (by decide +kernel) ⟨Nat.le_of_ble_eq_true rfl, Nat.le_of_ble_eq_true rfl⟩ ⟨rfl, rfl⟩ rfl hl.1 rfl (Nat.le_of_ble_eq_true rfl) dX5_flight_4 ⟨Nat.le_of_ble_eq_true rfl, Nat.le_of_ble_eq_true rfl⟩ (fun H locs hw => ?_)
  clear h1
  generalize g1 = g at *
  refine zr_if_ne (tgt := 14) hF h dX5_flight_7 (by decide) (fun h => ?_) (fun h => ?_)
  · refine lv_iload_n hx hb dX5_flight_14 rfl (lv_at hl 2 rfl) ?_
    refine lv_iconst hx hb dX5_flight_15 rfl ?_
    refine lv_sipush (v := Int32.ofInt (1439)) hx hb dX5_flight_16 (by decide) ?_
    obtain ⟨r2, g1, h1, h⟩ := zbd_some h
    refine zr_callSi (n := 3) (As := [z_v x2, z_v 0, z_v 1439]) (rest := [z_r N 6 0]) hF hw (czX5_isIn l X N h1) (z_goodS qw_922 qw_923 qw_42 qw_924) (by decide +kernel) ⟨Nat.le_of_ble_eq_true rfl, Nat.le_of_ble_eq_true rfl⟩ ⟨rfl, rfl⟩ rfl hl.1 rfl (Nat.le_of_ble_eq_true rfl) dX5_flight_19 ⟨Nat.le_of_ble_eq_true rfl, Nat.le_of_ble_eq_true rfl⟩ (fun H locs hw => ?_)
    clear h1
    generalize g1 = g at *
    refine zr_if_ne (tgt := 29) hF h dX5_flight_22 (by decide) (fun h => ?_) (fun h => ?_)
    · refine lv_aload_n hx hb dX5_flight_29 rfl (lv_at hl 0 rfl) ?_
      refine zr_get hF hw zEf_6_0 (by decide) zC_6 1 (by decide) qw_823 rfl dX5_flight_30 ?_
      refine lv_bipush (v := Int32.ofInt (24)) hx hb dX5_flight_33 (by decide) ?_
      refine zr_icmp_ne (tgt := 42) hF h dX5_flight_35 (by decide) (fun h => ?_) (fun h => ?_)
      · refine lv_iconst hx hb dX5_flight_42 rfl ?_
        exact wX5_flight_j43 hF hr hK0  hw (lv_sub hl [0, 1, 2] rfl) h
      · refine lv_iconst hx hb dX5_flight_38 rfl ?_
        refine lv_goto (tgt := 43) hx hb dX5_flight_39 (by decide) ?_
        exact wX5_flight_j43 hF hr hK0  hw (lv_sub hl [0, 1, 2] rfl) h
    · refine lv_iconst hx hb dX5_flight_25 rfl ?_
      refine lv_goto (tgt := 43) hx hb dX5_flight_26 (by decide) ?_
      exact wX5_flight_j43 hF hr hK0  hw (lv_sub hl [0, 1, 2] rfl) h
  · refine lv_iconst hx hb dX5_flight_10 rfl ?_
    refine lv_goto (tgt := 43) hx hb dX5_flight_11 (by decide) ?_
    exact wX5_flight_j43 hF hr hK0  hw (lv_sub hl [0, 1, 2] rfl) h
set_option maxHeartbeats 4000000 in
set_option maxRecDepth 100000 in
theorem wX5_entry_j146 {p : Program} {l : Launch} {e : Env} {s : State} {m : MethodId} {args : Array Value} {below : List Frame} {meth : Method} {c : Code} {X : zC} {N : zN} {r : Int} {g' : zG} {H : Heap} {locs : List Loc} {ls : Array Slot} (hF : zF p s m args meth c X cX5_entry 8 RX5) (hr : meth.sig.returnType = (some .int)) {x1 : Int} {x2 : Int} {x3 : Int} {x4 : Int} {t1 : Int} {g : zG} (hw : zH X N g s H locs) (hl : lv_has ls 8 [(0, z_r N 6 0), (1, z_v x1), (2, z_v x2), (3, z_v x3), (4, z_v x4)]) (h : sX5_entry_j146 x1 x2 x3 x4 t1 g = some (r, g')) : W p l e { frames := 2, cells := 0, slots := 0, locals := 43 } s m args below meth c H locs 0 0 (MQ below (zQi X N r g') args s 0 0 (zA X)) (F0 m 146 ls [z_v t1, z_r N 6 0]) := by
  have hx := hF.1.1
  have hb := hF.1.2.1
  unfold sX5_entry_j146 at h
  obtain ⟨r1, g1, h1, h⟩ := zbd_some h
  refine zr_callVi (n := 1) (As := [z_v t1]) (rest := []) hF hw (czX5_holds l X N h1) zEf_6_0 (by decide) zC_6 (z_goodV qw_925 qw_927 qw_14 qw_42 qw_928) (by decide +kernel) ⟨Nat.le_of_ble_eq_true rfl, Nat.le_of_ble_eq_true rfl⟩ ⟨rfl, rfl⟩ rfl hl.1 rfl (Nat.le_of_ble_eq_true rfl) dX5_entry_146 ⟨Nat.le_of_ble_eq_true rfl, Nat.le_of_ble_eq_true rfl⟩ (fun H locs hw => ?_)
  clear h1
  generalize g1 = g at *
  refine zr_if_ne (tgt := 154) hF h dX5_entry_149 (by decide) (fun h => ?_) (fun h => ?_)
  · refine lv_aload_n hx hb dX5_entry_154 rfl (lv_at hl 0 rfl) ?_
    refine zr_get hF hw zEf_6_0 (by decide) zC_6 12 (by decide) qw_834 rfl dX5_entry_155 ?_
    refine lv_bipush (v := Int32.ofInt (6)) hx hb dX5_entry_158 (by decide) ?_
    refine lv_iload_n hx hb dX5_entry_160 rfl (lv_at hl 1 rfl) ?_
    refine zr_imul hF dX5_entry_161 ?_
    refine lv_iload_n hx hb dX5_entry_162 rfl (lv_at hl 2 rfl) ?_
    refine zr_iadd hF dX5_entry_163 ?_
    refine lv_iload_n hx hb dX5_entry_164 rfl (lv_at hl 3 rfl) ?_
    refine zr_iast hF hw zEf_30_0 (by decide) h dX5_entry_165 (fun g H locs hw h => ?_)
    refine lv_aload_n hx hb dX5_entry_166 rfl (lv_at hl 0 rfl) ?_
    refine zr_get hF hw zEf_6_0 (by decide) zC_6 13 (by decide) qw_835 rfl dX5_entry_167 ?_
    refine lv_bipush (v := Int32.ofInt (6)) hx hb dX5_entry_170 (by decide) ?_
    refine lv_iload_n hx hb dX5_entry_172 rfl (lv_at hl 1 rfl) ?_
    refine zr_imul hF dX5_entry_173 ?_
    refine lv_iload_n hx hb dX5_entry_174 rfl (lv_at hl 2 rfl) ?_
    refine zr_iadd hF dX5_entry_175 ?_
    refine lv_iload hx hb dX5_entry_176 (lv_at hl 4 rfl) ?_
    refine zr_iast hF hw zEf_31_0 (by decide) h dX5_entry_178 (fun g H locs hw h => ?_)
    refine lv_aload_n hx hb dX5_entry_179 rfl (lv_at hl 0 rfl) ?_
    refine zr_get hF hw zEf_6_0 (by decide) zC_6 9 (by decide) qw_831 rfl dX5_entry_180 ?_
    refine lv_iload_n hx hb dX5_entry_183 rfl (lv_at hl 1 rfl) ?_
    refine lv_iload_n hx hb dX5_entry_184 rfl (lv_at hl 3 rfl) ?_
    refine zr_iast hF hw zEf_27_0 (by decide) h dX5_entry_185 (fun g H locs hw h => ?_)
    refine lv_aload_n hx hb dX5_entry_186 rfl (lv_at hl 0 rfl) ?_
    refine zr_get hF hw zEf_6_0 (by decide) zC_6 8 (by decide) qw_830 rfl dX5_entry_187 ?_
    refine lv_iload_n hx hb dX5_entry_190 rfl (lv_at hl 1 rfl) ?_
    refine lv_dup2_11 hx hb dX5_entry_191 rfl rfl ?_
    refine zr_iald hF hw zEf_26_0 (by decide) h dX5_entry_192 (fun h => ?_)
    refine lv_iconst hx hb dX5_entry_193 rfl ?_
    refine zr_iadd hF dX5_entry_194 ?_
    refine zr_iast hF hw zEf_26_0 (by decide) h dX5_entry_195 (fun g H locs hw h => ?_)
    refine lv_aload_n hx hb dX5_entry_196 rfl (lv_at hl 0 rfl) ?_
    refine zr_get hF hw zEf_6_0 (by decide) zC_6 8 (by decide) qw_830 rfl dX5_entry_197 ?_
    refine lv_iload_n hx hb dX5_entry_200 rfl (lv_at hl 1 rfl) ?_
    refine zr_iald hF hw zEf_26_0 (by decide) h dX5_entry_201 (fun h => ?_)
    exact zr_iret hF hr hw h dX5_entry_202
  · refine lv_iconst hx hb dX5_entry_152 rfl ?_
    exact zr_iret hF hr hw h dX5_entry_153
set_option maxHeartbeats 4000000 in
set_option maxRecDepth 100000 in
theorem wX5_entry_j115 {p : Program} {l : Launch} {e : Env} {s : State} {m : MethodId} {args : Array Value} {below : List Frame} {meth : Method} {c : Code} {X : zC} {N : zN} {r : Int} {g' : zG} {H : Heap} {locs : List Loc} {ls : Array Slot} (hF : zF p s m args meth c X cX5_entry 8 RX5) (hr : meth.sig.returnType = (some .int)) {x1 : Int} {x2 : Int} {x3 : Int} {x4 : Int} {x5 : Int} {x6 : Int} {t0 : Int} {g : zG} (hw : zH X N g s H locs) (hl : lv_has ls 8 [(0, z_r N 6 0), (1, z_v x1), (2, z_v x2), (3, z_v x3), (4, z_v x4), (5, z_v x5), (6, z_v x6)]) (h : sX5_entry_j115 x1 x2 x3 x4 x5 x6 t0 g = some (r, g')) : W p l e { frames := 2, cells := 0, slots := 0, locals := 43 } s m args below meth c H locs 0 0 (MQ below (zQi X N r g') args s 0 0 (zA X)) (F0 m 115 ls [z_v t0]) := by
  have hx := hF.1.1
  have hb := hF.1.2.1
  unfold sX5_entry_j115 at h
  refine lv_istore (lv' := [(7, z_v t0), (0, z_r N 6 0), (1, z_v x1), (2, z_v x2), (3, z_v x3), (4, z_v x4), (5, z_v x5), (6, z_v x6)]) hx hb dX5_entry_115 hl (by decide) rfl (fun ls hl => ?_)
  refine lv_aload_n hx hb dX5_entry_117 rfl (lv_at hl 1 rfl) ?_
  refine lv_iload hx hb dX5_entry_118 (lv_at hl 6 rfl) ?_
  refine zr_if_ne (tgt := 127) hF h dX5_entry_120 (by decide) (fun h => ?_) (fun h => ?_)
  · refine lv_iload hx hb dX5_entry_127 (lv_at hl 7 rfl) ?_
    refine zr_if_ne (tgt := 136) hF h dX5_entry_129 (by decide) (fun h => ?_) (fun h => ?_)
    · refine lv_iload hx hb dX5_entry_136 (lv_at hl 0 rfl) ?_
      refine zr_if_eq (tgt := 145) hF h dX5_entry_138 (by decide) (fun h => ?_) (fun h => ?_)
      · refine lv_iconst hx hb dX5_entry_145 rfl ?_
        exact wX5_entry_j146 hF hr  hw (lv_sub hl [1, 2, 3, 4, 5] rfl) h
      · refine lv_iconst hx hb dX5_entry_141 rfl ?_
        refine lv_goto (tgt := 146) hx hb dX5_entry_142 (by decide) ?_
        exact wX5_entry_j146 hF hr  hw (lv_sub hl [1, 2, 3, 4, 5] rfl) h
    · refine lv_iconst hx hb dX5_entry_132 rfl ?_
      refine lv_goto (tgt := 146) hx hb dX5_entry_133 (by decide) ?_
      exact wX5_entry_j146 hF hr  hw (lv_sub hl [1, 2, 3, 4, 5] rfl) h
  · refine lv_iconst hx hb dX5_entry_123 rfl ?_
    refine lv_goto (tgt := 146) hx hb dX5_entry_124 (by decide) ?_
    exact wX5_entry_j146 hF hr  hw (lv_sub hl [1, 2, 3, 4, 5] rfl) h
set_option maxHeartbeats 4000000 in
set_option maxRecDepth 100000 in
theorem wX5_entry_j114 {p : Program} {l : Launch} {e : Env} {s : State} {m : MethodId} {args : Array Value} {below : List Frame} {meth : Method} {c : Code} {X : zC} {N : zN} {r : Int} {g' : zG} {H : Heap} {locs : List Loc} {ls : Array Slot} (hF : zF p s m args meth c X cX5_entry 8 RX5) (hr : meth.sig.returnType = (some .int)) {x1 : Int} {x2 : Int} {x3 : Int} {x4 : Int} {x5 : Int} {x6 : Int} {g : zG} (hw : zH X N g s H locs) (hl : lv_has ls 8 [(0, z_r N 6 0), (1, z_v x1), (2, z_v x2), (3, z_v x3), (4, z_v x4), (5, z_v x5), (6, z_v x6)]) (h : sX5_entry_j114 x1 x2 x3 x4 x5 x6 g = some (r, g')) : W p l e { frames := 2, cells := 0, slots := 0, locals := 43 } s m args below meth c H locs 0 0 (MQ below (zQi X N r g') args s 0 0 (zA X)) (F0 m 114 ls []) := by
  have hx := hF.1.1
  have hb := hF.1.2.1
  unfold sX5_entry_j114 at h
  refine lv_iconst hx hb dX5_entry_114 rfl ?_
  exact wX5_entry_j115 hF hr  hw (lv_sub hl [0, 1, 2, 3, 4, 5, 6] rfl) h
set_option maxHeartbeats 4000000 in
set_option maxRecDepth 100000 in
theorem wX5_entry_j49 {p : Program} {l : Launch} {e : Env} {s : State} {m : MethodId} {args : Array Value} {below : List Frame} {meth : Method} {c : Code} {X : zC} {N : zN} {r : Int} {g' : zG} {H : Heap} {locs : List Loc} {ls : Array Slot} (hF : zF p s m args meth c X cX5_entry 8 RX5) (hr : meth.sig.returnType = (some .int)) {x1 : Int} {x2 : Int} {x3 : Int} {x4 : Int} {x5 : Int} {t0 : Int} {g : zG} (hw : zH X N g s H locs) (hl : lv_has ls 8 [(0, z_r N 6 0), (1, z_v x1), (2, z_v x2), (3, z_v x3), (4, z_v x4), (5, z_v x5)]) (h : sX5_entry_j49 x1 x2 x3 x4 x5 t0 g = some (r, g')) : W p l e { frames := 2, cells := 0, slots := 0, locals := 43 } s m args below meth c H locs 0 0 (MQ below (zQi X N r g') args s 0 0 (zA X)) (F0 m 49 ls [z_v t0]) := by
  have hx := hF.1.1
  have hb := hF.1.2.1
  unfold sX5_entry_j49 at h
  refine lv_istore (lv' := [(6, z_v t0), (0, z_r N 6 0), (1, z_v x1), (2, z_v x2), (3, z_v x3), (4, z_v x4), (5, z_v x5)]) hx hb dX5_entry_49 hl (by decide) rfl (fun ls hl => ?_)
  refine lv_iload hx hb dX5_entry_51 (lv_at hl 6 rfl) ?_
  refine zr_if_eq (tgt := 114) hF h dX5_entry_53 (by decide) (fun h => ?_) (fun h => ?_)
  · exact wX5_entry_j114 hF hr  hw (lv_sub hl [1, 2, 3, 4, 5, 6, 0] rfl) h
  · refine lv_aload_n hx hb dX5_entry_56 rfl (lv_at hl 1 rfl) ?_
    refine zr_get hF hw zEf_6_0 (by decide) zC_6 4 (by decide) qw_826 rfl dX5_entry_57 ?_
    refine lv_iload_n hx hb dX5_entry_60 rfl (lv_at hl 2 rfl) ?_
    refine zr_iald hF hw zEf_22_0 (by decide) h dX5_entry_61 (fun h => ?_)
    refine zr_if_ne (tgt := 114) hF h dX5_entry_62 (by decide) (fun h => ?_) (fun h => ?_)
    · exact wX5_entry_j114 hF hr  hw (lv_sub hl [1, 2, 3, 4, 5, 6, 0] rfl) h
    · refine lv_aload_n hx hb dX5_entry_65 rfl (lv_at hl 1 rfl) ?_
      refine zr_get hF hw zEf_6_0 (by decide) zC_6 6 (by decide) qw_828 rfl dX5_entry_66 ?_
      refine lv_iload_n hx hb dX5_entry_69 rfl (lv_at hl 2 rfl) ?_
      refine zr_iald hF hw zEf_24_0 (by decide) h dX5_entry_70 (fun h => ?_)
      refine lv_iconst hx hb dX5_entry_71 rfl ?_
      refine zr_icmp_ne (tgt := 114) hF h dX5_entry_72 (by decide) (fun h => ?_) (fun h => ?_)
      · exact wX5_entry_j114 hF hr  hw (lv_sub hl [1, 2, 3, 4, 5, 6, 0] rfl) h
      · refine lv_aload_n hx hb dX5_entry_75 rfl (lv_at hl 1 rfl) ?_
        refine zr_get hF hw zEf_6_0 (by decide) zC_6 8 (by decide) qw_830 rfl dX5_entry_76 ?_
        refine lv_iload_n hx hb dX5_entry_79 rfl (lv_at hl 2 rfl) ?_
        refine zr_iald hF hw zEf_26_0 (by decide) h dX5_entry_80 (fun h => ?_)
        refine lv_iconst hx hb dX5_entry_81 rfl ?_
        refine zr_icmp_ge (tgt := 114) hF h dX5_entry_82 (by decide) (fun h => ?_) (fun h => ?_)
        · exact wX5_entry_j114 hF hr  hw (lv_sub hl [1, 2, 3, 4, 5, 6, 0] rfl) h
        · refine lv_aload_n hx hb dX5_entry_85 rfl (lv_at hl 1 rfl) ?_
          refine zr_get hF hw zEf_6_0 (by decide) zC_6 12 (by decide) qw_834 rfl dX5_entry_86 ?_
          refine lv_bipush (v := Int32.ofInt (6)) hx hb dX5_entry_89 (by decide) ?_
          refine lv_iload_n hx hb dX5_entry_91 rfl (lv_at hl 2 rfl) ?_
          refine zr_imul hF dX5_entry_92 ?_
          refine lv_iload_n hx hb dX5_entry_93 rfl (lv_at hl 3 rfl) ?_
          refine zr_iadd hF dX5_entry_94 ?_
          refine zr_iald hF hw zEf_30_0 (by decide) h dX5_entry_95 (fun h => ?_)
          refine lv_iconst hx hb dX5_entry_96 rfl ?_
          refine zr_icmp_ne (tgt := 114) hF h dX5_entry_97 (by decide) (fun h => ?_) (fun h => ?_)
          · exact wX5_entry_j114 hF hr  hw (lv_sub hl [1, 2, 3, 4, 5, 6, 0] rfl) h
          · refine lv_iload_n hx hb dX5_entry_100 rfl (lv_at hl 4 rfl) ?_
            refine lv_aload_n hx hb dX5_entry_101 rfl (lv_at hl 1 rfl) ?_
            refine zr_get hF hw zEf_6_0 (by decide) zC_6 9 (by decide) qw_831 rfl dX5_entry_102 ?_
            refine lv_iload_n hx hb dX5_entry_105 rfl (lv_at hl 2 rfl) ?_
            refine zr_iald hF hw zEf_27_0 (by decide) h dX5_entry_106 (fun h => ?_)
            refine zr_icmp_le (tgt := 114) hF h dX5_entry_107 (by decide) (fun h => ?_) (fun h => ?_)
            · exact wX5_entry_j114 hF hr  hw (lv_sub hl [1, 2, 3, 4, 5, 6, 0] rfl) h
            · refine lv_iconst hx hb dX5_entry_110 rfl ?_
              refine lv_goto (tgt := 115) hx hb dX5_entry_111 (by decide) ?_
              exact wX5_entry_j115 hF hr  hw (lv_sub hl [1, 2, 3, 4, 5, 6, 0] rfl) h
set_option maxHeartbeats 4000000 in
set_option maxRecDepth 100000 in
theorem wX5_entry_j48 {p : Program} {l : Launch} {e : Env} {s : State} {m : MethodId} {args : Array Value} {below : List Frame} {meth : Method} {c : Code} {X : zC} {N : zN} {r : Int} {g' : zG} {H : Heap} {locs : List Loc} {ls : Array Slot} (hF : zF p s m args meth c X cX5_entry 8 RX5) (hr : meth.sig.returnType = (some .int)) {x1 : Int} {x2 : Int} {x3 : Int} {x4 : Int} {x5 : Int} {g : zG} (hw : zH X N g s H locs) (hl : lv_has ls 8 [(0, z_r N 6 0), (1, z_v x1), (2, z_v x2), (3, z_v x3), (4, z_v x4), (5, z_v x5)]) (h : sX5_entry_j48 x1 x2 x3 x4 x5 g = some (r, g')) : W p l e { frames := 2, cells := 0, slots := 0, locals := 43 } s m args below meth c H locs 0 0 (MQ below (zQi X N r g') args s 0 0 (zA X)) (F0 m 48 ls []) := by
  have hx := hF.1.1
  have hb := hF.1.2.1
  unfold sX5_entry_j48 at h
  refine lv_iconst hx hb dX5_entry_48 rfl ?_
  exact wX5_entry_j49 hF hr  hw (lv_sub hl [0, 1, 2, 3, 4, 5] rfl) h
set_option maxHeartbeats 4000000 in
set_option maxRecDepth 100000 in
theorem wX5_entry_j20 {p : Program} {l : Launch} {e : Env} {s : State} {m : MethodId} {args : Array Value} {below : List Frame} {meth : Method} {c : Code} {X : zC} {N : zN} {r : Int} {g' : zG} {H : Heap} {locs : List Loc} {ls : Array Slot} (hF : zF p s m args meth c X cX5_entry 8 RX5) (hr : meth.sig.returnType = (some .int)) {x1 : Int} {x2 : Int} {x3 : Int} {x4 : Int} {t0 : Int} {g : zG} (hw : zH X N g s H locs) (hl : lv_has ls 8 [(0, z_r N 6 0), (1, z_v x1), (2, z_v x2), (3, z_v x3), (4, z_v x4)]) (h : sX5_entry_j20 x1 x2 x3 x4 t0 g = some (r, g')) : W p l e { frames := 2, cells := 0, slots := 0, locals := 43 } s m args below meth c H locs 0 0 (MQ below (zQi X N r g') args s 0 0 (zA X)) (F0 m 20 ls [z_v t0]) := by
  have hx := hF.1.1
  have hb := hF.1.2.1
  unfold sX5_entry_j20 at h
  refine lv_istore (lv' := [(5, z_v t0), (0, z_r N 6 0), (1, z_v x1), (2, z_v x2), (3, z_v x3), (4, z_v x4)]) hx hb dX5_entry_20 hl (by decide) rfl (fun ls hl => ?_)
  refine lv_iload_n hx hb dX5_entry_22 rfl (lv_at hl 4 rfl) ?_
  refine lv_iconst hx hb dX5_entry_23 rfl ?_
  refine lv_sipush (v := Int32.ofInt (600)) hx hb dX5_entry_24 (by decide) ?_
  obtain ⟨r1, g1, h1, h⟩ := zbd_some h
  refine zr_callSi (n := 3) (As := [z_v x3, z_v 0, z_v 600]) (rest := []) hF hw (czX5_isIn l X N h1) (z_goodS qw_922 qw_923 qw_42 qw_924) (by decide +kernel) ⟨Nat.le_of_ble_eq_true rfl, Nat.le_of_ble_eq_true rfl⟩ ⟨rfl, rfl⟩ rfl hl.1 rfl (Nat.le_of_ble_eq_true rfl) dX5_entry_27 ⟨Nat.le_of_ble_eq_true rfl, Nat.le_of_ble_eq_true rfl⟩ (fun H locs hw => ?_)
  clear h1
  generalize g1 = g at *
  refine zr_if_eq (tgt := 48) hF h dX5_entry_30 (by decide) (fun h => ?_) (fun h => ?_)
  · exact wX5_entry_j48 hF hr  hw (lv_sub hl [1, 2, 3, 4, 5, 0] rfl) h
  · refine lv_iload hx hb dX5_entry_33 (lv_at hl 5 rfl) ?_
    refine lv_iconst hx hb dX5_entry_35 rfl ?_
    refine lv_bipush (v := Int32.ofInt (120)) hx hb dX5_entry_36 (by decide) ?_
    obtain ⟨r2, g1, h1, h⟩ := zbd_some h
    refine zr_callSi (n := 3) (As := [z_v x4, z_v 1, z_v 120]) (rest := []) hF hw (czX5_isIn l X N h1) (z_goodS qw_922 qw_923 qw_42 qw_924) (by decide +kernel) ⟨Nat.le_of_ble_eq_true rfl, Nat.le_of_ble_eq_true rfl⟩ ⟨rfl, rfl⟩ rfl hl.1 rfl (Nat.le_of_ble_eq_true rfl) dX5_entry_38 ⟨Nat.le_of_ble_eq_true rfl, Nat.le_of_ble_eq_true rfl⟩ (fun H locs hw => ?_)
    clear h1
    generalize g1 = g at *
    refine zr_if_eq (tgt := 48) hF h dX5_entry_41 (by decide) (fun h => ?_) (fun h => ?_)
    · exact wX5_entry_j48 hF hr  hw (lv_sub hl [1, 2, 3, 4, 5, 0] rfl) h
    · refine lv_iconst hx hb dX5_entry_44 rfl ?_
      refine lv_goto (tgt := 49) hx hb dX5_entry_45 (by decide) ?_
      exact wX5_entry_j49 hF hr  hw (lv_sub hl [1, 2, 3, 4, 5, 0] rfl) h
set_option maxHeartbeats 4000000 in
set_option maxRecDepth 100000 in
theorem wX5_entry_j19 {p : Program} {l : Launch} {e : Env} {s : State} {m : MethodId} {args : Array Value} {below : List Frame} {meth : Method} {c : Code} {X : zC} {N : zN} {r : Int} {g' : zG} {H : Heap} {locs : List Loc} {ls : Array Slot} (hF : zF p s m args meth c X cX5_entry 8 RX5) (hr : meth.sig.returnType = (some .int)) {x1 : Int} {x2 : Int} {x3 : Int} {x4 : Int} {g : zG} (hw : zH X N g s H locs) (hl : lv_has ls 8 [(0, z_r N 6 0), (1, z_v x1), (2, z_v x2), (3, z_v x3), (4, z_v x4)]) (h : sX5_entry_j19 x1 x2 x3 x4 g = some (r, g')) : W p l e { frames := 2, cells := 0, slots := 0, locals := 43 } s m args below meth c H locs 0 0 (MQ below (zQi X N r g') args s 0 0 (zA X)) (F0 m 19 ls []) := by
  have hx := hF.1.1
  have hb := hF.1.2.1
  unfold sX5_entry_j19 at h
  refine lv_iconst hx hb dX5_entry_19 rfl ?_
  exact wX5_entry_j20 hF hr  hw (lv_sub hl [0, 1, 2, 3, 4] rfl) h
set_option maxHeartbeats 4000000 in
set_option maxRecDepth 100000 in
theorem czX5_entry (l : Launch) (X : zC) (N : zN) {x1 : Int} {x2 : Int} {x3 : Int} {x4 : Int} {g g' : zG} {r : Int} (h : sX5_entry x1 x2 x3 x4 g = some (r, g')) : zM l yX5_entry cX5_entry 8 (some .int) { frames := 2, cells := 0, slots := 0, locals := 43 } X N g [z_r N 6 0, z_v x1, z_v x2, z_v x3, z_v x4] (zQi X N r g') := by
  refine z_ofW (own := RX5) (by decide +kernel) rfl (Nat.le_of_ble_eq_true rfl) ?_
  intro p e s m args below meth c ls hF hr hw hl
  have hl : lv_has ls 8 [(0, z_r N 6 0), (1, z_v x1), (2, z_v x2), (3, z_v x3), (4, z_v x4)] := hl
  have hx := hF.1.1
  have hb := hF.1.2.1
  unfold sX5_entry at h
  generalize s.heap = H at hw ⊢
  generalize ([] : List Loc) = locs at hw ⊢
  refine lv_aload_n hx hb dX5_entry_0 rfl (lv_at hl 0 rfl) ?_
  refine lv_iload_n hx hb dX5_entry_1 rfl (lv_at hl 1 rfl) ?_
  obtain ⟨r1, g1, h1, h⟩ := zbd_some h
  refine zr_callVi (n := 1) (As := [z_v x1]) (rest := []) hF hw (czX5_isFlight l X N h1) zEf_6_0 (by decide) zC_6 (z_goodV qw_933 qw_935 qw_15 qw_42 qw_936) (by decide +kernel) ⟨Nat.le_of_ble_eq_true rfl, Nat.le_of_ble_eq_true rfl⟩ ⟨rfl, rfl⟩ rfl hl.1 rfl (Nat.le_of_ble_eq_true rfl) dX5_entry_2 ⟨Nat.le_of_ble_eq_true rfl, Nat.le_of_ble_eq_true rfl⟩ (fun H locs hw => ?_)
  clear h1
  generalize g1 = g at *
  refine zr_if_eq (tgt := 19) hF h dX5_entry_5 (by decide) (fun h => ?_) (fun h => ?_)
  · exact wX5_entry_j19 hF hr  hw (lv_sub hl [0, 1, 2, 3, 4] rfl) h
  · refine lv_iload_n hx hb dX5_entry_8 rfl (lv_at hl 2 rfl) ?_
    obtain ⟨r2, g1, h1, h⟩ := zbd_some h
    refine zr_callSi (n := 1) (As := [z_v x2]) (rest := []) hF hw (czX5_isSector l X N h1) (z_goodS qw_937 qw_938 qw_42 qw_939) (by decide +kernel) ⟨Nat.le_of_ble_eq_true rfl, Nat.le_of_ble_eq_true rfl⟩ ⟨rfl, rfl⟩ rfl hl.1 rfl (Nat.le_of_ble_eq_true rfl) dX5_entry_9 ⟨Nat.le_of_ble_eq_true rfl, Nat.le_of_ble_eq_true rfl⟩ (fun H locs hw => ?_)
    clear h1
    generalize g1 = g at *
    refine zr_if_eq (tgt := 19) hF h dX5_entry_12 (by decide) (fun h => ?_) (fun h => ?_)
    · exact wX5_entry_j19 hF hr  hw (lv_sub hl [0, 1, 2, 3, 4] rfl) h
    · refine lv_iconst hx hb dX5_entry_15 rfl ?_
      refine lv_goto (tgt := 20) hx hb dX5_entry_16 (by decide) ?_
      exact wX5_entry_j20 hF hr  hw (lv_sub hl [0, 1, 2, 3, 4] rfl) h
set_option maxHeartbeats 4000000 in
set_option maxRecDepth 100000 in
theorem wX5_exempt_j91 {p : Program} {l : Launch} {e : Env} {s : State} {m : MethodId} {args : Array Value} {below : List Frame} {meth : Method} {c : Code} {X : zC} {N : zN} {r : Int} {g' : zG} {H : Heap} {locs : List Loc} {ls : Array Slot} (hF : zF p s m args meth c X cX5_exempt 5 RX5) (hr : meth.sig.returnType = (some .boolean)) {x4 : Int} {t1 : Int} {t2 : Int} {g : zG} (hw : zH X N g s H locs) (hl : lv_has ls 5 [(4, z_v x4)]) (h : sX5_exempt_j91 x4 t1 t2 g = some (r, g')) : W p l e { frames := 2, cells := 0, slots := 0, locals := 43 } s m args below meth c H locs 0 0 (MQ below (zQi X N r g') args s 0 0 (zA X)) (F0 m 91 ls [z_v t2, z_v t1, z_r N 25 0]) := by
  have hx := hF.1.1
  have hb := hF.1.2.1
  unfold sX5_exempt_j91 at h
  refine zr_iast hF hw zEf_25_0 (by decide) h dX5_exempt_91 (fun g H locs hw h => ?_)
  refine lv_iload hx hb dX5_exempt_92 (lv_at hl 0 rfl) ?_
  exact zr_zret hF hr hw h dX5_exempt_94
set_option maxHeartbeats 4000000 in
set_option maxRecDepth 100000 in
theorem wX5_exempt_j71 {p : Program} {l : Launch} {e : Env} {s : State} {m : MethodId} {args : Array Value} {below : List Frame} {meth : Method} {c : Code} {X : zC} {N : zN} {r : Int} {g' : zG} {H : Heap} {locs : List Loc} {ls : Array Slot} (hF : zF p s m args meth c X cX5_exempt 5 RX5) (hr : meth.sig.returnType = (some .boolean)) {x1 : Int} {x2 : Int} {x4 : Int} {t1 : Int} {t2 : Int} {g : zG} (hw : zH X N g s H locs) (hl : lv_has ls 5 [(0, z_r N 6 0), (1, z_v x1), (2, z_v x2), (4, z_v x4)]) (h : sX5_exempt_j71 x1 x2 x4 t1 t2 g = some (r, g')) : W p l e { frames := 2, cells := 0, slots := 0, locals := 43 } s m args below meth c H locs 0 0 (MQ below (zQi X N r g') args s 0 0 (zA X)) (F0 m 71 ls [z_v t2, z_v t1, z_r N 24 0]) := by
  have hx := hF.1.1
  have hb := hF.1.2.1
  unfold sX5_exempt_j71 at h
  refine zr_iast hF hw zEf_24_0 (by decide) h dX5_exempt_71 (fun g H locs hw h => ?_)
  refine lv_aload_n hx hb dX5_exempt_72 rfl (lv_at hl 0 rfl) ?_
  refine zr_get hF hw zEf_6_0 (by decide) zC_6 7 (by decide) qw_829 rfl dX5_exempt_73 ?_
  refine lv_iload_n hx hb dX5_exempt_76 rfl (lv_at hl 1 rfl) ?_
  refine lv_iload_n hx hb dX5_exempt_77 rfl (lv_at hl 2 rfl) ?_
  refine zr_if_eq (tgt := 85) hF h dX5_exempt_78 (by decide) (fun h => ?_) (fun h => ?_)
  · refine lv_aload_n hx hb dX5_exempt_85 rfl (lv_at hl 0 rfl) ?_
    refine zr_get hF hw zEf_6_0 (by decide) zC_6 7 (by decide) qw_829 rfl dX5_exempt_86 ?_
    refine lv_iload_n hx hb dX5_exempt_89 rfl (lv_at hl 1 rfl) ?_
    refine zr_iald hF hw zEf_25_0 (by decide) h dX5_exempt_90 (fun h => ?_)
    exact wX5_exempt_j91 hF hr  hw (lv_sub hl [3] rfl) h
  · refine lv_iconst hx hb dX5_exempt_81 rfl ?_
    refine lv_goto (tgt := 91) hx hb dX5_exempt_82 (by decide) ?_
    exact wX5_exempt_j91 hF hr  hw (lv_sub hl [3] rfl) h
set_option maxHeartbeats 4000000 in
set_option maxRecDepth 100000 in
theorem wX5_exempt_j29 {p : Program} {l : Launch} {e : Env} {s : State} {m : MethodId} {args : Array Value} {below : List Frame} {meth : Method} {c : Code} {X : zC} {N : zN} {r : Int} {g' : zG} {H : Heap} {locs : List Loc} {ls : Array Slot} (hF : zF p s m args meth c X cX5_exempt 5 RX5) (hr : meth.sig.returnType = (some .boolean)) {x1 : Int} {x2 : Int} {t1 : Int} {g : zG} (hw : zH X N g s H locs) (hl : lv_has ls 5 [(0, z_r N 6 0), (1, z_v x1), (2, z_v x2)]) (h : sX5_exempt_j29 x1 x2 t1 g = some (r, g')) : W p l e { frames := 2, cells := 0, slots := 0, locals := 43 } s m args below meth c H locs 0 0 (MQ below (zQi X N r g') args s 0 0 (zA X)) (F0 m 29 ls [z_v t1, z_r N 6 0]) := by
  have hx := hF.1.1
  have hb := hF.1.2.1
  unfold sX5_exempt_j29 at h
  obtain ⟨r1, g1, h1, h⟩ := zbd_some h
  refine zr_callVi (n := 1) (As := [z_v t1]) (rest := []) hF hw (czX5_holds l X N h1) zEf_6_0 (by decide) zC_6 (z_goodV qw_925 qw_927 qw_14 qw_42 qw_928) (by decide +kernel) ⟨Nat.le_of_ble_eq_true rfl, Nat.le_of_ble_eq_true rfl⟩ ⟨rfl, rfl⟩ rfl hl.1 rfl (Nat.le_of_ble_eq_true rfl) dX5_exempt_29 ⟨Nat.le_of_ble_eq_true rfl, Nat.le_of_ble_eq_true rfl⟩ (fun H locs hw => ?_)
  clear h1
  generalize g1 = g at *
  refine zr_if_ne (tgt := 37) hF h dX5_exempt_32 (by decide) (fun h => ?_) (fun h => ?_)
  · refine lv_aload_n hx hb dX5_exempt_37 rfl (lv_at hl 0 rfl) ?_
    refine zr_get hF hw zEf_6_0 (by decide) zC_6 11 (by decide) qw_833 rfl dX5_exempt_38 ?_
    refine lv_iload_n hx hb dX5_exempt_41 rfl (lv_at hl 1 rfl) ?_
    refine zr_zald hF hw zEf_29_0 (by decide) h dX5_exempt_42 (fun h => ?_)
    refine zr_let h (fun v2 h => ?_)
    refine lv_istore (lv' := [(4, z_v v2), (0, z_r N 6 0), (1, z_v x1), (2, z_v x2)]) hx hb dX5_exempt_43 hl (by decide) rfl (fun ls hl => ?_)
    refine lv_aload_n hx hb dX5_exempt_45 rfl (lv_at hl 1 rfl) ?_
    refine zr_get hF hw zEf_6_0 (by decide) zC_6 11 (by decide) qw_833 rfl dX5_exempt_46 ?_
    refine lv_iload_n hx hb dX5_exempt_49 rfl (lv_at hl 2 rfl) ?_
    refine lv_iload_n hx hb dX5_exempt_50 rfl (lv_at hl 3 rfl) ?_
    refine zr_zast hF hw zEf_29_0 (by decide) h dX5_exempt_51 (fun g H locs hw h => ?_)
    refine lv_aload_n hx hb dX5_exempt_52 rfl (lv_at hl 1 rfl) ?_
    refine zr_get hF hw zEf_6_0 (by decide) zC_6 6 (by decide) qw_828 rfl dX5_exempt_53 ?_
    refine lv_iload_n hx hb dX5_exempt_56 rfl (lv_at hl 2 rfl) ?_
    refine lv_iload_n hx hb dX5_exempt_57 rfl (lv_at hl 3 rfl) ?_
    refine zr_if_eq (tgt := 65) hF h dX5_exempt_58 (by decide) (fun h => ?_) (fun h => ?_)
    · refine lv_aload_n hx hb dX5_exempt_65 rfl (lv_at hl 1 rfl) ?_
      refine zr_get hF hw zEf_6_0 (by decide) zC_6 6 (by decide) qw_828 rfl dX5_exempt_66 ?_
      refine lv_iload_n hx hb dX5_exempt_69 rfl (lv_at hl 2 rfl) ?_
      refine zr_iald hF hw zEf_24_0 (by decide) h dX5_exempt_70 (fun h => ?_)
      exact wX5_exempt_j71 hF hr  hw (lv_sub hl [1, 2, 3, 0] rfl) h
    · refine lv_iconst hx hb dX5_exempt_61 rfl ?_
      refine lv_goto (tgt := 71) hx hb dX5_exempt_62 (by decide) ?_
      exact wX5_exempt_j71 hF hr  hw (lv_sub hl [1, 2, 3, 0] rfl) h
  · refine lv_iconst hx hb dX5_exempt_35 rfl ?_
    exact zr_zret hF hr hw h dX5_exempt_36
set_option maxHeartbeats 4000000 in
set_option maxRecDepth 100000 in
theorem czX5_exempt (l : Launch) (X : zC) (N : zN) {x1 : Int} {x2 : Int} {g g' : zG} {r : Int} (h : sX5_exempt x1 x2 g = some (r, g')) : zM l yX5_exempt cX5_exempt 5 (some .boolean) { frames := 2, cells := 0, slots := 0, locals := 43 } X N g [z_r N 6 0, z_v x1, z_v x2] (zQi X N r g') := by
  refine z_ofW (own := RX5) (by decide +kernel) rfl (Nat.le_of_ble_eq_true rfl) ?_
  intro p e s m args below meth c ls hF hr hw hl
  have hl : lv_has ls 5 [(0, z_r N 6 0), (1, z_v x1), (2, z_v x2)] := hl
  have hx := hF.1.1
  have hb := hF.1.2.1
  unfold sX5_exempt at h
  generalize s.heap = H at hw ⊢
  generalize ([] : List Loc) = locs at hw ⊢
  refine lv_aload_n hx hb dX5_exempt_0 rfl (lv_at hl 0 rfl) ?_
  refine lv_iload_n hx hb dX5_exempt_1 rfl (lv_at hl 1 rfl) ?_
  obtain ⟨r1, g1, h1, h⟩ := zbd_some h
  refine zr_callVi (n := 1) (As := [z_v x1]) (rest := []) hF hw (czX5_isFlight l X N h1) zEf_6_0 (by decide) zC_6 (z_goodV qw_933 qw_935 qw_15 qw_42 qw_936) (by decide +kernel) ⟨Nat.le_of_ble_eq_true rfl, Nat.le_of_ble_eq_true rfl⟩ ⟨rfl, rfl⟩ rfl hl.1 rfl (Nat.le_of_ble_eq_true rfl) dX5_exempt_2 ⟨Nat.le_of_ble_eq_true rfl, Nat.le_of_ble_eq_true rfl⟩ (fun H locs hw => ?_)
  clear h1
  generalize g1 = g at *
  refine lv_istore_n (lv' := [(3, z_v r1), (0, z_r N 6 0), (1, z_v x1), (2, z_v x2)]) hx hb dX5_exempt_5 rfl hl (by decide) rfl (fun ls hl => ?_)
  refine lv_aload_n hx hb dX5_exempt_6 rfl (lv_at hl 1 rfl) ?_
  refine lv_iload_n hx hb dX5_exempt_7 rfl (lv_at hl 0 rfl) ?_
  refine zr_if_ne (tgt := 15) hF h dX5_exempt_8 (by decide) (fun h => ?_) (fun h => ?_)
  · refine lv_aload_n hx hb dX5_exempt_15 rfl (lv_at hl 1 rfl) ?_
    refine zr_get hF hw zEf_6_0 (by decide) zC_6 4 (by decide) qw_826 rfl dX5_exempt_16 ?_
    refine lv_iload_n hx hb dX5_exempt_19 rfl (lv_at hl 2 rfl) ?_
    refine zr_iald hF hw zEf_22_0 (by decide) h dX5_exempt_20 (fun h => ?_)
    refine zr_if_ne (tgt := 28) hF h dX5_exempt_21 (by decide) (fun h => ?_) (fun h => ?_)
    · refine lv_iconst hx hb dX5_exempt_28 rfl ?_
      exact wX5_exempt_j29 hF hr  hw (lv_sub hl [1, 2, 3] rfl) h
    · refine lv_iconst hx hb dX5_exempt_24 rfl ?_
      refine lv_goto (tgt := 29) hx hb dX5_exempt_25 (by decide) ?_
      exact wX5_exempt_j29 hF hr  hw (lv_sub hl [1, 2, 3] rfl) h
  · refine lv_iconst hx hb dX5_exempt_11 rfl ?_
    refine lv_goto (tgt := 29) hx hb dX5_exempt_12 (by decide) ?_
    exact wX5_exempt_j29 hF hr  hw (lv_sub hl [1, 2, 3] rfl) h
set_option maxHeartbeats 4000000 in
set_option maxRecDepth 100000 in
theorem czX5_departure (l : Launch) (X : zC) (N : zN) {x1 : Int} {g g' : zG} {r : Int} (h : sX5_departure x1 g = some (r, g')) : zM l yX5_departure cX5_departure 2 (some .int) { frames := 0, cells := 0, slots := 0, locals := 0 } X N g [z_r N 6 0, z_v x1] (zQi X N r g') := by
  refine z_ofW (own := RX5) (by decide +kernel) rfl (Nat.le_of_ble_eq_true rfl) ?_
  intro p e s m args below meth c ls hF hr hw hl
  have hl : lv_has ls 2 [(0, z_r N 6 0), (1, z_v x1)] := hl
  have hx := hF.1.1
  have hb := hF.1.2.1
  unfold sX5_departure at h
  generalize s.heap = H at hw ⊢
  generalize ([] : List Loc) = locs at hw ⊢
  refine lv_aload_n hx hb dX5_departure_0 rfl (lv_at hl 0 rfl) ?_
  refine zr_get hF hw zEf_6_0 (by decide) zC_6 4 (by decide) qw_826 rfl dX5_departure_1 ?_
  refine lv_iload_n hx hb dX5_departure_4 rfl (lv_at hl 1 rfl) ?_
  refine zr_iald hF hw zEf_22_0 (by decide) h dX5_departure_5 (fun h => ?_)
  refine lv_iconst hx hb dX5_departure_6 rfl ?_
  refine zr_icmp_ne (tgt := 19) hF h dX5_departure_7 (by decide) (fun h => ?_) (fun h => ?_)
  · refine lv_aload_n hx hb dX5_departure_19 rfl (lv_at hl 0 rfl) ?_
    refine zr_get hF hw zEf_6_0 (by decide) zC_6 6 (by decide) qw_828 rfl dX5_departure_20 ?_
    refine lv_iload_n hx hb dX5_departure_23 rfl (lv_at hl 1 rfl) ?_
    refine zr_iald hF hw zEf_24_0 (by decide) h dX5_departure_24 (fun h => ?_)
    refine lv_iconst hx hb dX5_departure_25 rfl ?_
    refine zr_icmp_ne (tgt := 38) hF h dX5_departure_26 (by decide) (fun h => ?_) (fun h => ?_)
    · refine lv_aload_n hx hb dX5_departure_38 rfl (lv_at hl 0 rfl) ?_
      refine zr_get hF hw zEf_6_0 (by decide) zC_6 6 (by decide) qw_828 rfl dX5_departure_39 ?_
      refine lv_iload_n hx hb dX5_departure_42 rfl (lv_at hl 1 rfl) ?_
      refine zr_iald hF hw zEf_24_0 (by decide) h dX5_departure_43 (fun h => ?_)
      exact zr_iret hF hr hw h dX5_departure_44
    · refine lv_aload_n hx hb dX5_departure_29 rfl (lv_at hl 0 rfl) ?_
      refine zr_get hF hw zEf_6_0 (by decide) zC_6 3 (by decide) qw_825 rfl dX5_departure_30 ?_
      refine lv_iload_n hx hb dX5_departure_33 rfl (lv_at hl 1 rfl) ?_
      refine zr_iald hF hw zEf_21_0 (by decide) h dX5_departure_34 (fun h => ?_)
      refine lv_goto (tgt := 44) hx hb dX5_departure_35 (by decide) ?_
      exact zr_iret hF hr hw h dX5_departure_44
  · refine lv_aload_n hx hb dX5_departure_10 rfl (lv_at hl 0 rfl) ?_
    refine zr_get hF hw zEf_6_0 (by decide) zC_6 5 (by decide) qw_827 rfl dX5_departure_11 ?_
    refine lv_iload_n hx hb dX5_departure_14 rfl (lv_at hl 1 rfl) ?_
    refine zr_iald hF hw zEf_23_0 (by decide) h dX5_departure_15 (fun h => ?_)
    refine lv_goto (tgt := 44) hx hb dX5_departure_16 (by decide) ?_
    exact zr_iret hF hr hw h dX5_departure_44
set_option maxHeartbeats 4000000 in
set_option maxRecDepth 100000 in
theorem wX5_flightIs_j28 {p : Program} {l : Launch} {e : Env} {s : State} {m : MethodId} {args : Array Value} {below : List Frame} {meth : Method} {c : Code} {X : zC} {N : zN} {r : Int} {g' : zG} {H : Heap} {locs : List Loc} {ls : Array Slot} (hF : zF p s m args meth c X cX5_flightIs 3 RX5) (hr : meth.sig.returnType = (some .int)) {x1 : Int} {x2 : Int} {t1 : Int} {g : zG} (hw : zH X N g s H locs) (hl : lv_has ls 3 [(0, z_r N 6 0), (1, z_v x1), (2, z_v x2)]) (h : sX5_flightIs_j28 x1 x2 t1 g = some (r, g')) : W p l e { frames := 2, cells := 0, slots := 0, locals := 43 } s m args below meth c H locs 0 0 (MQ below (zQi X N r g') args s 0 0 (zA X)) (F0 m 28 ls [z_v t1, z_r N 6 0]) := by
  have hx := hF.1.1
  have hb := hF.1.2.1
  unfold sX5_flightIs_j28 at h
  obtain ⟨r1, g1, h1, h⟩ := zbd_some h
  refine zr_callVi (n := 1) (As := [z_v t1]) (rest := []) hF hw (czX5_holds l X N h1) zEf_6_0 (by decide) zC_6 (z_goodV qw_925 qw_927 qw_14 qw_42 qw_928) (by decide +kernel) ⟨Nat.le_of_ble_eq_true rfl, Nat.le_of_ble_eq_true rfl⟩ ⟨rfl, rfl⟩ rfl hl.1 rfl (Nat.le_of_ble_eq_true rfl) dX5_flightIs_28 ⟨Nat.le_of_ble_eq_true rfl, Nat.le_of_ble_eq_true rfl⟩ (fun H locs hw => ?_)
  clear h1
  generalize g1 = g at *
  refine zr_if_ne (tgt := 36) hF h dX5_flightIs_31 (by decide) (fun h => ?_) (fun h => ?_)
  · refine lv_iload_n hx hb dX5_flightIs_36 rfl (lv_at hl 2 rfl) ?_
    refine lv_iconst hx hb dX5_flightIs_37 rfl ?_
    refine zr_icmp_ge (tgt := 89) hF h dX5_flightIs_38 (by decide) (fun h => ?_) (fun h => ?_)
    · refine lv_iload_n hx hb dX5_flightIs_89 rfl (lv_at hl 2 rfl) ?_
      refine lv_iconst hx hb dX5_flightIs_90 rfl ?_
      refine zr_icmp_ne (tgt := 102) hF h dX5_flightIs_91 (by decide) (fun h => ?_) (fun h => ?_)
      · refine lv_iload_n hx hb dX5_flightIs_102 rfl (lv_at hl 2 rfl) ?_
        refine lv_iconst hx hb dX5_flightIs_103 rfl ?_
        refine zr_icmp_ne (tgt := 116) hF h dX5_flightIs_104 (by decide) (fun h => ?_) (fun h => ?_)
        · refine lv_iload_n hx hb dX5_flightIs_116 rfl (lv_at hl 2 rfl) ?_
          refine lv_bipush (v := Int32.ofInt (6)) hx hb dX5_flightIs_117 (by decide) ?_
          refine zr_icmp_ne (tgt := 131) hF h dX5_flightIs_119 (by decide) (fun h => ?_) (fun h => ?_)
          · refine lv_aload_n hx hb dX5_flightIs_131 rfl (lv_at hl 0 rfl) ?_
            refine zr_get hF hw zEf_6_0 (by decide) zC_6 11 (by decide) qw_833 rfl dX5_flightIs_132 ?_
            refine lv_iload_n hx hb dX5_flightIs_135 rfl (lv_at hl 1 rfl) ?_
            refine zr_zald hF hw zEf_29_0 (by decide) h dX5_flightIs_136 (fun h => ?_)
            refine zr_if_eq (tgt := 144) hF h dX5_flightIs_137 (by decide) (fun h => ?_) (fun h => ?_)
            · refine lv_iconst hx hb dX5_flightIs_144 rfl ?_
              exact zr_iret hF hr hw h dX5_flightIs_145
            · refine lv_iconst hx hb dX5_flightIs_140 rfl ?_
              refine lv_goto (tgt := 145) hx hb dX5_flightIs_141 (by decide) ?_
              exact zr_iret hF hr hw h dX5_flightIs_145
          · refine lv_aload_n hx hb dX5_flightIs_122 rfl (lv_at hl 0 rfl) ?_
            refine zr_get hF hw zEf_6_0 (by decide) zC_6 10 (by decide) qw_832 rfl dX5_flightIs_123 ?_
            refine lv_iload_n hx hb dX5_flightIs_126 rfl (lv_at hl 1 rfl) ?_
            refine zr_iald hF hw zEf_28_0 (by decide) h dX5_flightIs_127 (fun h => ?_)
            refine lv_goto (tgt := 145) hx hb dX5_flightIs_128 (by decide) ?_
            exact zr_iret hF hr hw h dX5_flightIs_145
        · refine lv_aload_n hx hb dX5_flightIs_107 rfl (lv_at hl 0 rfl) ?_
          refine zr_get hF hw zEf_6_0 (by decide) zC_6 8 (by decide) qw_830 rfl dX5_flightIs_108 ?_
          refine lv_iload_n hx hb dX5_flightIs_111 rfl (lv_at hl 1 rfl) ?_
          refine zr_iald hF hw zEf_26_0 (by decide) h dX5_flightIs_112 (fun h => ?_)
          refine lv_goto (tgt := 145) hx hb dX5_flightIs_113 (by decide) ?_
          exact zr_iret hF hr hw h dX5_flightIs_145
      · refine lv_aload_n hx hb dX5_flightIs_94 rfl (lv_at hl 0 rfl) ?_
        refine lv_iload_n hx hb dX5_flightIs_95 rfl (lv_at hl 1 rfl) ?_
        obtain ⟨r2, g1, h1, h⟩ := zbd_some h
        refine zr_callVi (n := 1) (As := [z_v x1]) (rest := []) hF hw (czX5_departure l X N h1) zEf_6_0 (by decide) zC_6 (z_goodV qw_948 qw_950 qw_16 qw_42 qw_951) (by decide +kernel) ⟨Nat.le_of_ble_eq_true rfl, Nat.le_of_ble_eq_true rfl⟩ ⟨rfl, rfl⟩ rfl hl.1 rfl (Nat.le_of_ble_eq_true rfl) dX5_flightIs_96 ⟨Nat.le_of_ble_eq_true rfl, Nat.le_of_ble_eq_true rfl⟩ (fun H locs hw => ?_)
        clear h1
        generalize g1 = g at *
        refine lv_goto (tgt := 145) hx hb dX5_flightIs_99 (by decide) ?_
        exact zr_iret hF hr hw h dX5_flightIs_145
    · refine lv_iload_n hx hb dX5_flightIs_41 rfl (lv_at hl 2 rfl) ?_
      refine zr_if_ne (tgt := 54) hF h dX5_flightIs_42 (by decide) (fun h => ?_) (fun h => ?_)
      · refine lv_iload_n hx hb dX5_flightIs_54 rfl (lv_at hl 2 rfl) ?_
        refine lv_iconst hx hb dX5_flightIs_55 rfl ?_
        refine zr_icmp_ne (tgt := 68) hF h dX5_flightIs_56 (by decide) (fun h => ?_) (fun h => ?_)
        · refine lv_iload_n hx hb dX5_flightIs_68 rfl (lv_at hl 2 rfl) ?_
          refine lv_iconst hx hb dX5_flightIs_69 rfl ?_
          refine zr_icmp_ne (tgt := 82) hF h dX5_flightIs_70 (by decide) (fun h => ?_) (fun h => ?_)
          · refine lv_aload_n hx hb dX5_flightIs_82 rfl (lv_at hl 0 rfl) ?_
            refine zr_get hF hw zEf_6_0 (by decide) zC_6 7 (by decide) qw_829 rfl dX5_flightIs_83 ?_
            refine lv_iload_n hx hb dX5_flightIs_86 rfl (lv_at hl 1 rfl) ?_
            refine zr_iald hF hw zEf_25_0 (by decide) h dX5_flightIs_87 (fun h => ?_)
            exact zr_iret hF hr hw h dX5_flightIs_88
          · refine lv_aload_n hx hb dX5_flightIs_73 rfl (lv_at hl 0 rfl) ?_
            refine zr_get hF hw zEf_6_0 (by decide) zC_6 6 (by decide) qw_828 rfl dX5_flightIs_74 ?_
            refine lv_iload_n hx hb dX5_flightIs_77 rfl (lv_at hl 1 rfl) ?_
            refine zr_iald hF hw zEf_24_0 (by decide) h dX5_flightIs_78 (fun h => ?_)
            refine lv_goto (tgt := 88) hx hb dX5_flightIs_79 (by decide) ?_
            exact zr_iret hF hr hw h dX5_flightIs_88
        · refine lv_aload_n hx hb dX5_flightIs_59 rfl (lv_at hl 0 rfl) ?_
          refine zr_get hF hw zEf_6_0 (by decide) zC_6 3 (by decide) qw_825 rfl dX5_flightIs_60 ?_
          refine lv_iload_n hx hb dX5_flightIs_63 rfl (lv_at hl 1 rfl) ?_
          refine zr_iald hF hw zEf_21_0 (by decide) h dX5_flightIs_64 (fun h => ?_)
          refine lv_goto (tgt := 88) hx hb dX5_flightIs_65 (by decide) ?_
          exact zr_iret hF hr hw h dX5_flightIs_88
      · refine lv_aload_n hx hb dX5_flightIs_45 rfl (lv_at hl 0 rfl) ?_
        refine zr_get hF hw zEf_6_0 (by decide) zC_6 4 (by decide) qw_826 rfl dX5_flightIs_46 ?_
        refine lv_iload_n hx hb dX5_flightIs_49 rfl (lv_at hl 1 rfl) ?_
        refine zr_iald hF hw zEf_22_0 (by decide) h dX5_flightIs_50 (fun h => ?_)
        refine lv_goto (tgt := 88) hx hb dX5_flightIs_51 (by decide) ?_
        exact zr_iret hF hr hw h dX5_flightIs_88
  · refine lv_iconst hx hb dX5_flightIs_34 rfl ?_
    exact zr_iret hF hr hw h dX5_flightIs_35
set_option maxHeartbeats 4000000 in
set_option maxRecDepth 100000 in
theorem czX5_flightIs (l : Launch) (X : zC) (N : zN) {x1 : Int} {x2 : Int} {g g' : zG} {r : Int} (h : sX5_flightIs x1 x2 g = some (r, g')) : zM l yX5_flightIs cX5_flightIs 3 (some .int) { frames := 2, cells := 0, slots := 0, locals := 43 } X N g [z_r N 6 0, z_v x1, z_v x2] (zQi X N r g') := by
  refine z_ofW (own := RX5) (by decide +kernel) rfl (Nat.le_of_ble_eq_true rfl) ?_
  intro p e s m args below meth c ls hF hr hw hl
  have hl : lv_has ls 3 [(0, z_r N 6 0), (1, z_v x1), (2, z_v x2)] := hl
  have hx := hF.1.1
  have hb := hF.1.2.1
  unfold sX5_flightIs at h
  generalize s.heap = H at hw ⊢
  generalize ([] : List Loc) = locs at hw ⊢
  refine lv_aload_n hx hb dX5_flightIs_0 rfl (lv_at hl 0 rfl) ?_
  refine lv_aload_n hx hb dX5_flightIs_1 rfl (lv_at hl 0 rfl) ?_
  refine lv_iload_n hx hb dX5_flightIs_2 rfl (lv_at hl 1 rfl) ?_
  obtain ⟨r1, g1, h1, h⟩ := zbd_some h
  refine zr_callVi (n := 1) (As := [z_v x1]) (rest := [z_r N 6 0]) hF hw (czX5_isFlight l X N h1) zEf_6_0 (by decide) zC_6 (z_goodV qw_933 qw_935 qw_15 qw_42 qw_936) (by decide +kernel) ⟨Nat.le_of_ble_eq_true rfl, Nat.le_of_ble_eq_true rfl⟩ ⟨rfl, rfl⟩ rfl hl.1 rfl (Nat.le_of_ble_eq_true rfl) dX5_flightIs_3 ⟨Nat.le_of_ble_eq_true rfl, Nat.le_of_ble_eq_true rfl⟩ (fun H locs hw => ?_)
  clear h1
  generalize g1 = g at *
  refine zr_if_ne (tgt := 13) hF h dX5_flightIs_6 (by decide) (fun h => ?_) (fun h => ?_)
  · refine lv_iload_n hx hb dX5_flightIs_13 rfl (lv_at hl 2 rfl) ?_
    refine lv_iconst hx hb dX5_flightIs_14 rfl ?_
    refine lv_bipush (v := Int32.ofInt (7)) hx hb dX5_flightIs_15 (by decide) ?_
    obtain ⟨r2, g1, h1, h⟩ := zbd_some h
    refine zr_callSi (n := 3) (As := [z_v x2, z_v 0, z_v 7]) (rest := [z_r N 6 0]) hF hw (czX5_isIn l X N h1) (z_goodS qw_922 qw_923 qw_42 qw_924) (by decide +kernel) ⟨Nat.le_of_ble_eq_true rfl, Nat.le_of_ble_eq_true rfl⟩ ⟨rfl, rfl⟩ rfl hl.1 rfl (Nat.le_of_ble_eq_true rfl) dX5_flightIs_17 ⟨Nat.le_of_ble_eq_true rfl, Nat.le_of_ble_eq_true rfl⟩ (fun H locs hw => ?_)
    clear h1
    generalize g1 = g at *
    refine zr_if_eq (tgt := 27) hF h dX5_flightIs_20 (by decide) (fun h => ?_) (fun h => ?_)
    · refine lv_iconst hx hb dX5_flightIs_27 rfl ?_
      exact wX5_flightIs_j28 hF hr  hw (lv_sub hl [0, 1, 2] rfl) h
    · refine lv_iconst hx hb dX5_flightIs_23 rfl ?_
      refine lv_goto (tgt := 28) hx hb dX5_flightIs_24 (by decide) ?_
      exact wX5_flightIs_j28 hF hr  hw (lv_sub hl [0, 1, 2] rfl) h
  · refine lv_iconst hx hb dX5_flightIs_9 rfl ?_
    refine lv_goto (tgt := 28) hx hb dX5_flightIs_10 (by decide) ?_
    exact wX5_flightIs_j28 hF hr  hw (lv_sub hl [0, 1, 2] rfl) h
set_option maxHeartbeats 4000000 in
set_option maxRecDepth 100000 in
theorem czX5_enters (l : Launch) (X : zC) (N : zN) {x1 : Int} {x2 : Int} {g g' : zG} {r : Int} (h : sX5_enters x1 x2 g = some (r, g')) : zM l yX5_enters cX5_enters 3 (some .boolean) { frames := 0, cells := 0, slots := 0, locals := 0 } X N g [z_r N 6 0, z_v x1, z_v x2] (zQi X N r g') := by
  refine z_ofW (own := RX5) (by decide +kernel) rfl (Nat.le_of_ble_eq_true rfl) ?_
  intro p e s m args below meth c ls hF hr hw hl
  have hl : lv_has ls 3 [(0, z_r N 6 0), (1, z_v x1), (2, z_v x2)] := hl
  have hx := hF.1.1
  have hb := hF.1.2.1
  unfold sX5_enters at h
  generalize s.heap = H at hw ⊢
  generalize ([] : List Loc) = locs at hw ⊢
  refine lv_aload_n hx hb dX5_enters_0 rfl (lv_at hl 0 rfl) ?_
  refine zr_get hF hw zEf_6_0 (by decide) zC_6 12 (by decide) qw_834 rfl dX5_enters_1 ?_
  refine lv_bipush (v := Int32.ofInt (6)) hx hb dX5_enters_4 (by decide) ?_
  refine lv_iload_n hx hb dX5_enters_6 rfl (lv_at hl 1 rfl) ?_
  refine zr_imul hF dX5_enters_7 ?_
  refine lv_iload_n hx hb dX5_enters_8 rfl (lv_at hl 2 rfl) ?_
  refine zr_iadd hF dX5_enters_9 ?_
  refine zr_iald hF hw zEf_30_0 (by decide) h dX5_enters_10 (fun h => ?_)
  refine lv_iconst hx hb dX5_enters_11 rfl ?_
  refine zr_icmp_eq (tgt := 19) hF h dX5_enters_12 (by decide) (fun h => ?_) (fun h => ?_)
  · refine lv_iconst hx hb dX5_enters_19 rfl ?_
    exact zr_zret hF hr hw h dX5_enters_20
  · refine lv_iconst hx hb dX5_enters_15 rfl ?_
    refine lv_goto (tgt := 20) hx hb dX5_enters_16 (by decide) ?_
    exact zr_zret hF hr hw h dX5_enters_20
set_option maxHeartbeats 4000000 in
set_option maxRecDepth 100000 in
theorem czX5_overOf (l : Launch) (X : zC) (N : zN) {x1 : Int} {x2 : Int} {g g' : zG} {r : Int} (h : sX5_overOf x1 x2 g = some (r, g')) : zM l yX5_overOf cX5_overOf 3 (some .int) { frames := 1, cells := 0, slots := 0, locals := 21 } X N g [z_r N 6 0, z_v x1, z_v x2] (zQi X N r g') := by
  refine z_ofW (own := RX5) (by decide +kernel) rfl (Nat.le_of_ble_eq_true rfl) ?_
  intro p e s m args below meth c ls hF hr hw hl
  have hl : lv_has ls 3 [(0, z_r N 6 0), (1, z_v x1), (2, z_v x2)] := hl
  have hx := hF.1.1
  have hb := hF.1.2.1
  unfold sX5_overOf at h
  generalize s.heap = H at hw ⊢
  generalize ([] : List Loc) = locs at hw ⊢
  refine lv_aload_n hx hb dX5_overOf_0 rfl (lv_at hl 0 rfl) ?_
  refine lv_iload_n hx hb dX5_overOf_1 rfl (lv_at hl 1 rfl) ?_
  obtain ⟨r1, g1, h1, h⟩ := zbd_some h
  refine zr_callVi (n := 1) (As := [z_v x1]) (rest := []) hF hw (czX5_departure l X N h1) zEf_6_0 (by decide) zC_6 (z_goodV qw_948 qw_950 qw_16 qw_42 qw_951) (by decide +kernel) ⟨Nat.le_of_ble_eq_true rfl, Nat.le_of_ble_eq_true rfl⟩ ⟨rfl, rfl⟩ rfl hl.1 rfl (Nat.le_of_ble_eq_true rfl) dX5_overOf_2 ⟨Nat.le_of_ble_eq_true rfl, Nat.le_of_ble_eq_true rfl⟩ (fun H locs hw => ?_)
  clear h1
  generalize g1 = g at *
  refine lv_aload_n hx hb dX5_overOf_5 rfl (lv_at hl 0 rfl) ?_
  refine zr_get hF hw zEf_6_0 (by decide) zC_6 12 (by decide) qw_834 rfl dX5_overOf_6 ?_
  refine lv_bipush (v := Int32.ofInt (6)) hx hb dX5_overOf_9 (by decide) ?_
  refine lv_iload_n hx hb dX5_overOf_11 rfl (lv_at hl 1 rfl) ?_
  refine zr_imul hF dX5_overOf_12 ?_
  refine lv_iload_n hx hb dX5_overOf_13 rfl (lv_at hl 2 rfl) ?_
  refine zr_iadd hF dX5_overOf_14 ?_
  refine zr_iald hF hw zEf_30_0 (by decide) h dX5_overOf_15 (fun h => ?_)
  refine zr_iadd hF dX5_overOf_16 ?_
  exact zr_iret hF hr hw h dX5_overOf_17
set_option maxHeartbeats 4000000 in
set_option maxRecDepth 100000 in
theorem czX5_plannedOver (l : Launch) (X : zC) (N : zN) {x1 : Int} {x2 : Int} {g g' : zG} {r : Int} (h : sX5_plannedOver x1 x2 g = some (r, g')) : zM l yX5_plannedOver cX5_plannedOver 3 (some .int) { frames := 0, cells := 0, slots := 0, locals := 0 } X N g [z_r N 6 0, z_v x1, z_v x2] (zQi X N r g') := by
  refine z_ofW (own := RX5) (by decide +kernel) rfl (Nat.le_of_ble_eq_true rfl) ?_
  intro p e s m args below meth c ls hF hr hw hl
  have hl : lv_has ls 3 [(0, z_r N 6 0), (1, z_v x1), (2, z_v x2)] := hl
  have hx := hF.1.1
  have hb := hF.1.2.1
  unfold sX5_plannedOver at h
  generalize s.heap = H at hw ⊢
  generalize ([] : List Loc) = locs at hw ⊢
  refine lv_aload_n hx hb dX5_plannedOver_0 rfl (lv_at hl 0 rfl) ?_
  refine zr_get hF hw zEf_6_0 (by decide) zC_6 3 (by decide) qw_825 rfl dX5_plannedOver_1 ?_
  refine lv_iload_n hx hb dX5_plannedOver_4 rfl (lv_at hl 1 rfl) ?_
  refine zr_iald hF hw zEf_21_0 (by decide) h dX5_plannedOver_5 (fun h => ?_)
  refine lv_aload_n hx hb dX5_plannedOver_6 rfl (lv_at hl 0 rfl) ?_
  refine zr_get hF hw zEf_6_0 (by decide) zC_6 12 (by decide) qw_834 rfl dX5_plannedOver_7 ?_
  refine lv_bipush (v := Int32.ofInt (6)) hx hb dX5_plannedOver_10 (by decide) ?_
  refine lv_iload_n hx hb dX5_plannedOver_12 rfl (lv_at hl 1 rfl) ?_
  refine zr_imul hF dX5_plannedOver_13 ?_
  refine lv_iload_n hx hb dX5_plannedOver_14 rfl (lv_at hl 2 rfl) ?_
  refine zr_iadd hF dX5_plannedOver_15 ?_
  refine zr_iald hF hw zEf_30_0 (by decide) h dX5_plannedOver_16 (fun h => ?_)
  refine zr_iadd hF dX5_plannedOver_17 ?_
  exact zr_iret hF hr hw h dX5_plannedOver_18
set_option maxHeartbeats 4000000 in
set_option maxRecDepth 100000 in
theorem wX5_over_j21 {p : Program} {l : Launch} {e : Env} {s : State} {m : MethodId} {args : Array Value} {below : List Frame} {meth : Method} {c : Code} {X : zC} {N : zN} {r : Int} {g' : zG} {H : Heap} {locs : List Loc} {ls : Array Slot} (hF : zF p s m args meth c X cX5_over 3 RX5) (hr : meth.sig.returnType = (some .int)) {x1 : Int} {x2 : Int} {t1 : Int} {g : zG} (hw : zH X N g s H locs) (hl : lv_has ls 3 [(0, z_r N 6 0), (1, z_v x1), (2, z_v x2)]) (h : sX5_over_j21 x1 x2 t1 g = some (r, g')) : W p l e { frames := 2, cells := 0, slots := 0, locals := 43 } s m args below meth c H locs 0 0 (MQ below (zQi X N r g') args s 0 0 (zA X)) (F0 m 21 ls [z_v t1, z_r N 6 0]) := by
  have hx := hF.1.1
  have hb := hF.1.2.1
  unfold sX5_over_j21 at h
  obtain ⟨r1, g1, h1, h⟩ := zbd_some h
  refine zr_callVi (n := 1) (As := [z_v t1]) (rest := []) hF hw (czX5_holds l X N h1) zEf_6_0 (by decide) zC_6 (z_goodV qw_925 qw_927 qw_14 qw_42 qw_928) (by decide +kernel) ⟨Nat.le_of_ble_eq_true rfl, Nat.le_of_ble_eq_true rfl⟩ ⟨rfl, rfl⟩ rfl hl.1 rfl (Nat.le_of_ble_eq_true rfl) dX5_over_21 ⟨Nat.le_of_ble_eq_true rfl, Nat.le_of_ble_eq_true rfl⟩ (fun H locs hw => ?_)
  clear h1
  generalize g1 = g at *
  refine zr_if_ne (tgt := 29) hF h dX5_over_24 (by decide) (fun h => ?_) (fun h => ?_)
  · refine lv_aload_n hx hb dX5_over_29 rfl (lv_at hl 0 rfl) ?_
    refine lv_iload_n hx hb dX5_over_30 rfl (lv_at hl 1 rfl) ?_
    refine lv_iload_n hx hb dX5_over_31 rfl (lv_at hl 2 rfl) ?_
    obtain ⟨r2, g1, h1, h⟩ := zbd_some h
    refine zr_callVi (n := 2) (As := [z_v x1, z_v x2]) (rest := []) hF hw (czX5_enters l X N h1) zEf_6_0 (by decide) zC_6 (z_goodV qw_956 qw_958 qw_17 qw_42 qw_959) (by decide +kernel) ⟨Nat.le_of_ble_eq_true rfl, Nat.le_of_ble_eq_true rfl⟩ ⟨rfl, rfl⟩ rfl hl.1 rfl (Nat.le_of_ble_eq_true rfl) dX5_over_32 ⟨Nat.le_of_ble_eq_true rfl, Nat.le_of_ble_eq_true rfl⟩ (fun H locs hw => ?_)
    clear h1
    generalize g1 = g at *
    refine zr_if_eq (tgt := 47) hF h dX5_over_35 (by decide) (fun h => ?_) (fun h => ?_)
    · refine lv_iconst hx hb dX5_over_47 rfl ?_
      exact zr_iret hF hr hw h dX5_over_48
    · refine lv_aload_n hx hb dX5_over_38 rfl (lv_at hl 0 rfl) ?_
      refine lv_iload_n hx hb dX5_over_39 rfl (lv_at hl 1 rfl) ?_
      refine lv_iload_n hx hb dX5_over_40 rfl (lv_at hl 2 rfl) ?_
      obtain ⟨r3, g1, h1, h⟩ := zbd_some h
      refine zr_callVi (n := 2) (As := [z_v x1, z_v x2]) (rest := []) hF hw (czX5_overOf l X N h1) zEf_6_0 (by decide) zC_6 (z_goodV qw_960 qw_962 qw_18 qw_42 qw_963) (by decide +kernel) ⟨Nat.le_of_ble_eq_true rfl, Nat.le_of_ble_eq_true rfl⟩ ⟨rfl, rfl⟩ rfl hl.1 rfl (Nat.le_of_ble_eq_true rfl) dX5_over_41 ⟨Nat.le_of_ble_eq_true rfl, Nat.le_of_ble_eq_true rfl⟩ (fun H locs hw => ?_)
      clear h1
      generalize g1 = g at *
      refine lv_goto (tgt := 48) hx hb dX5_over_44 (by decide) ?_
      exact zr_iret hF hr hw h dX5_over_48
  · refine lv_iconst hx hb dX5_over_27 rfl ?_
    exact zr_iret hF hr hw h dX5_over_28
set_option maxHeartbeats 4000000 in
set_option maxRecDepth 100000 in
theorem wX5_over_j20 {p : Program} {l : Launch} {e : Env} {s : State} {m : MethodId} {args : Array Value} {below : List Frame} {meth : Method} {c : Code} {X : zC} {N : zN} {r : Int} {g' : zG} {H : Heap} {locs : List Loc} {ls : Array Slot} (hF : zF p s m args meth c X cX5_over 3 RX5) (hr : meth.sig.returnType = (some .int)) {x1 : Int} {x2 : Int} {g : zG} (hw : zH X N g s H locs) (hl : lv_has ls 3 [(0, z_r N 6 0), (1, z_v x1), (2, z_v x2)]) (h : sX5_over_j20 x1 x2 g = some (r, g')) : W p l e { frames := 2, cells := 0, slots := 0, locals := 43 } s m args below meth c H locs 0 0 (MQ below (zQi X N r g') args s 0 0 (zA X)) (F0 m 20 ls [z_r N 6 0]) := by
  have hx := hF.1.1
  have hb := hF.1.2.1
  unfold sX5_over_j20 at h
  refine lv_iconst hx hb dX5_over_20 rfl ?_
  exact wX5_over_j21 hF hr  hw (lv_sub hl [0, 1, 2] rfl) h
set_option maxHeartbeats 4000000 in
set_option maxRecDepth 100000 in
theorem czX5_over (l : Launch) (X : zC) (N : zN) {x1 : Int} {x2 : Int} {g g' : zG} {r : Int} (h : sX5_over x1 x2 g = some (r, g')) : zM l yX5_over cX5_over 3 (some .int) { frames := 2, cells := 0, slots := 0, locals := 43 } X N g [z_r N 6 0, z_v x1, z_v x2] (zQi X N r g') := by
  refine z_ofW (own := RX5) (by decide +kernel) rfl (Nat.le_of_ble_eq_true rfl) ?_
  intro p e s m args below meth c ls hF hr hw hl
  have hl : lv_has ls 3 [(0, z_r N 6 0), (1, z_v x1), (2, z_v x2)] := hl
  have hx := hF.1.1
  have hb := hF.1.2.1
  unfold sX5_over at h
  generalize s.heap = H at hw ⊢
  generalize ([] : List Loc) = locs at hw ⊢
  refine lv_aload_n hx hb dX5_over_0 rfl (lv_at hl 0 rfl) ?_
  refine lv_aload_n hx hb dX5_over_1 rfl (lv_at hl 0 rfl) ?_
  refine lv_iload_n hx hb dX5_over_2 rfl (lv_at hl 1 rfl) ?_
  obtain ⟨r1, g1, h1, h⟩ := zbd_some h
  refine zr_callVi (n := 1) (As := [z_v x1]) (rest := [z_r N 6 0]) hF hw (czX5_isFlight l X N h1) zEf_6_0 (by decide) zC_6 (z_goodV qw_933 qw_935 qw_15 qw_42 qw_936) (by decide +kernel) ⟨Nat.le_of_ble_eq_true rfl, Nat.le_of_ble_eq_true rfl⟩ ⟨rfl, rfl⟩ rfl hl.1 rfl (Nat.le_of_ble_eq_true rfl) dX5_over_3 ⟨Nat.le_of_ble_eq_true rfl, Nat.le_of_ble_eq_true rfl⟩ (fun H locs hw => ?_)
  clear h1
  generalize g1 = g at *
  refine zr_if_eq (tgt := 20) hF h dX5_over_6 (by decide) (fun h => ?_) (fun h => ?_)
  · exact wX5_over_j20 hF hr  hw (lv_sub hl [0, 1, 2] rfl) h
  · refine lv_iload_n hx hb dX5_over_9 rfl (lv_at hl 2 rfl) ?_
    obtain ⟨r2, g1, h1, h⟩ := zbd_some h
    refine zr_callSi (n := 1) (As := [z_v x2]) (rest := [z_r N 6 0]) hF hw (czX5_isSector l X N h1) (z_goodS qw_937 qw_938 qw_42 qw_939) (by decide +kernel) ⟨Nat.le_of_ble_eq_true rfl, Nat.le_of_ble_eq_true rfl⟩ ⟨rfl, rfl⟩ rfl hl.1 rfl (Nat.le_of_ble_eq_true rfl) dX5_over_10 ⟨Nat.le_of_ble_eq_true rfl, Nat.le_of_ble_eq_true rfl⟩ (fun H locs hw => ?_)
    clear h1
    generalize g1 = g at *
    refine zr_if_eq (tgt := 20) hF h dX5_over_13 (by decide) (fun h => ?_) (fun h => ?_)
    · exact wX5_over_j20 hF hr  hw (lv_sub hl [0, 1, 2] rfl) h
    · refine lv_iconst hx hb dX5_over_16 rfl ?_
      refine lv_goto (tgt := 21) hx hb dX5_over_17 (by decide) ?_
      exact wX5_over_j21 hF hr  hw (lv_sub hl [0, 1, 2] rfl) h
set_option maxHeartbeats 4000000 in
set_option maxRecDepth 100000 in
theorem wX5_loadOf_j62 {p : Program} {l : Launch} {e : Env} {s : State} {m : MethodId} {args : Array Value} {below : List Frame} {meth : Method} {c : Code} {X : zC} {N : zN} {r : Int} {g' : zG} {H : Heap} {locs : List Loc} {ls : Array Slot} (hF : zF p s m args meth c X cX5_loadOf 6 RX5) (hr : meth.sig.returnType = (some .int)) {n : Nat} {K : Nat → Int → Int → Int → Int → Int → zG → Option (Int × zG)} (hK0 : ∀ (x1 : Int) (x2 : Int) (x3 : Int) (x4 : Int) (x5 : Int) (g : zG) (H : Heap) (locs : List Loc) (ls : Array Slot), zH X N g s H locs → lv_has ls 6 [(0, z_r N 6 0), (1, z_v x1), (2, z_v x2), (3, z_v x3), (4, z_v x4), (5, z_v x5)] → K 0 x1 x2 x3 x4 x5 g = some (r, g') → W p l e { frames := 2, cells := 0, slots := 0, locals := 43 } s m args below meth c H locs 0 0 (MQ below (zQi X N r g') args s 0 0 (zA X)) (F0 m 6 ls [])) {x1 : Int} {x2 : Int} {x3 : Int} {x5 : Int} {t0 : Int} {t1 : Int} {g : zG} (hw : zH X N g s H locs) (hl : lv_has ls 6 [(0, z_r N 6 0), (1, z_v x1), (2, z_v x2), (3, z_v x3), (5, z_v x5)]) (h : sX5_loadOf_j62 n K x1 x2 x3 x5 t0 t1 g = some (r, g')) : W p l e { frames := 2, cells := 0, slots := 0, locals := 43 } s m args below meth c H locs 0 0 (MQ below (zQi X N r g') args s 0 0 (zA X)) (F0 m 62 ls [z_v t1, z_v t0]) := by
  have hx := hF.1.1
  have hb := hF.1.2.1
  unfold sX5_loadOf_j62 at h
  refine zr_iadd hF dX5_loadOf_62 ?_
  refine zr_let h (fun v1 h => ?_)
  refine lv_istore (lv' := [(4, z_v v1), (0, z_r N 6 0), (1, z_v x1), (2, z_v x2), (3, z_v x3), (5, z_v x5)]) hx hb dX5_loadOf_63 hl (by decide) rfl (fun ls hl => ?_)
  refine zr_iinc hF (lv' := fun v2 => [(5, z_v v2), (4, z_v v1), (0, z_r N 6 0), (1, z_v x1), (2, z_v x2), (3, z_v x3)]) h dX5_loadOf_65 hl (k := 5) rfl (by decide) (fun _ => rfl) (fun v2 ls hl h => ?_)
  refine lv_goto (tgt := 6) hx hb dX5_loadOf_68 (by decide) ?_
  exact hK0 x1 x2 x3 v1 v2 _ _ _ _  hw (lv_sub hl [2, 3, 4, 5, 1, 0] rfl) h
set_option maxHeartbeats 4000000 in
set_option maxRecDepth 100000 in
theorem wX5_loadOf_j61 {p : Program} {l : Launch} {e : Env} {s : State} {m : MethodId} {args : Array Value} {below : List Frame} {meth : Method} {c : Code} {X : zC} {N : zN} {r : Int} {g' : zG} {H : Heap} {locs : List Loc} {ls : Array Slot} (hF : zF p s m args meth c X cX5_loadOf 6 RX5) (hr : meth.sig.returnType = (some .int)) {n : Nat} {K : Nat → Int → Int → Int → Int → Int → zG → Option (Int × zG)} (hK0 : ∀ (x1 : Int) (x2 : Int) (x3 : Int) (x4 : Int) (x5 : Int) (g : zG) (H : Heap) (locs : List Loc) (ls : Array Slot), zH X N g s H locs → lv_has ls 6 [(0, z_r N 6 0), (1, z_v x1), (2, z_v x2), (3, z_v x3), (4, z_v x4), (5, z_v x5)] → K 0 x1 x2 x3 x4 x5 g = some (r, g') → W p l e { frames := 2, cells := 0, slots := 0, locals := 43 } s m args below meth c H locs 0 0 (MQ below (zQi X N r g') args s 0 0 (zA X)) (F0 m 6 ls [])) {x1 : Int} {x2 : Int} {x3 : Int} {x5 : Int} {t0 : Int} {g : zG} (hw : zH X N g s H locs) (hl : lv_has ls 6 [(0, z_r N 6 0), (1, z_v x1), (2, z_v x2), (3, z_v x3), (5, z_v x5)]) (h : sX5_loadOf_j61 n K x1 x2 x3 x5 t0 g = some (r, g')) : W p l e { frames := 2, cells := 0, slots := 0, locals := 43 } s m args below meth c H locs 0 0 (MQ below (zQi X N r g') args s 0 0 (zA X)) (F0 m 61 ls [z_v t0]) := by
  have hx := hF.1.1
  have hb := hF.1.2.1
  unfold sX5_loadOf_j61 at h
  refine lv_iconst hx hb dX5_loadOf_61 rfl ?_
  exact wX5_loadOf_j62 hF hr hK0  hw (lv_sub hl [0, 1, 2, 3, 4] rfl) h
set_option maxHeartbeats 4000000 in
set_option maxRecDepth 100000 in
theorem wX5_loadOf_h6 {p : Program} {l : Launch} {e : Env} {s : State} {m : MethodId} {args : Array Value} {below : List Frame} {meth : Method} {c : Code} {X : zC} {N : zN} {r : Int} {g' : zG} {H : Heap} {locs : List Loc} {ls : Array Slot} (hF : zF p s m args meth c X cX5_loadOf 6 RX5) (hr : meth.sig.returnType = (some .int)) {n : Nat} {K : Nat → Int → Int → Int → Int → Int → zG → Option (Int × zG)} (hK0 : ∀ (x1 : Int) (x2 : Int) (x3 : Int) (x4 : Int) (x5 : Int) (g : zG) (H : Heap) (locs : List Loc) (ls : Array Slot), zH X N g s H locs → lv_has ls 6 [(0, z_r N 6 0), (1, z_v x1), (2, z_v x2), (3, z_v x3), (4, z_v x4), (5, z_v x5)] → K 0 x1 x2 x3 x4 x5 g = some (r, g') → W p l e { frames := 2, cells := 0, slots := 0, locals := 43 } s m args below meth c H locs 0 0 (MQ below (zQi X N r g') args s 0 0 (zA X)) (F0 m 6 ls [])) {x1 : Int} {x2 : Int} {x3 : Int} {x4 : Int} {x5 : Int} {g : zG} (hw : zH X N g s H locs) (hl : lv_has ls 6 [(0, z_r N 6 0), (1, z_v x1), (2, z_v x2), (3, z_v x3), (4, z_v x4), (5, z_v x5)]) (h : sX5_loadOf_h6 n K x1 x2 x3 x4 x5 g = some (r, g')) : W p l e { frames := 2, cells := 0, slots := 0, locals := 43 } s m args below meth c H locs 0 0 (MQ below (zQi X N r g') args s 0 0 (zA X)) (F0 m 6 ls []) := by
  have hx := hF.1.1
  have hb := hF.1.2.1
  unfold sX5_loadOf_h6 at h
  refine lv_iload hx hb dX5_loadOf_6 (lv_at hl 5 rfl) ?_
  refine lv_aload_n hx hb dX5_loadOf_8 rfl (lv_at hl 0 rfl) ?_
  refine zr_get hF hw zEf_6_0 (by decide) zC_6 1 (by decide) qw_823 rfl dX5_loadOf_9 ?_
  refine zr_icmp_ge (tgt := 71) hF h dX5_loadOf_12 (by decide) (fun h => ?_) (fun h => ?_)
  · refine lv_iload hx hb dX5_loadOf_71 (lv_at hl 4 rfl) ?_
    exact zr_iret hF hr hw h dX5_loadOf_73
  · refine lv_iload hx hb dX5_loadOf_15 (lv_at hl 4 rfl) ?_
    refine lv_aload_n hx hb dX5_loadOf_17 rfl (lv_at hl 0 rfl) ?_
    refine zr_get hF hw zEf_6_0 (by decide) zC_6 4 (by decide) qw_826 rfl dX5_loadOf_18 ?_
    refine lv_iload hx hb dX5_loadOf_21 (lv_at hl 5 rfl) ?_
    refine zr_iald hF hw zEf_22_0 (by decide) h dX5_loadOf_23 (fun h => ?_)
    refine lv_iconst hx hb dX5_loadOf_24 rfl ?_
    refine zr_icmp_eq (tgt := 61) hF h dX5_loadOf_25 (by decide) (fun h => ?_) (fun h => ?_)
    · exact wX5_loadOf_j61 hF hr hK0  hw (lv_sub hl [0, 1, 2, 3, 5] rfl) h
    · refine lv_aload_n hx hb dX5_loadOf_28 rfl (lv_at hl 0 rfl) ?_
      refine lv_iload hx hb dX5_loadOf_29 (lv_at hl 5 rfl) ?_
      refine lv_iload_n hx hb dX5_loadOf_31 rfl (lv_at hl 1 rfl) ?_
      obtain ⟨r1, g1, h1, h⟩ := zbd_some h
      refine zr_callVi (n := 2) (As := [z_v x5, z_v x1]) (rest := [z_v x4]) hF hw (czX5_enters l X N h1) zEf_6_0 (by decide) zC_6 (z_goodV qw_956 qw_958 qw_17 qw_42 qw_959) (by decide +kernel) ⟨Nat.le_of_ble_eq_true rfl, Nat.le_of_ble_eq_true rfl⟩ ⟨rfl, rfl⟩ rfl hl.1 rfl (Nat.le_of_ble_eq_true rfl) dX5_loadOf_32 ⟨Nat.le_of_ble_eq_true rfl, Nat.le_of_ble_eq_true rfl⟩ (fun H locs hw => ?_)
      clear h1
      generalize g1 = g at *
      refine zr_if_eq (tgt := 61) hF h dX5_loadOf_35 (by decide) (fun h => ?_) (fun h => ?_)
      · exact wX5_loadOf_j61 hF hr hK0  hw (lv_sub hl [0, 1, 2, 3, 5] rfl) h
      · refine lv_aload_n hx hb dX5_loadOf_38 rfl (lv_at hl 0 rfl) ?_
        refine lv_iload hx hb dX5_loadOf_39 (lv_at hl 5 rfl) ?_
        refine lv_iload_n hx hb dX5_loadOf_41 rfl (lv_at hl 1 rfl) ?_
        obtain ⟨r2, g1, h1, h⟩ := zbd_some h
        refine zr_callVi (n := 2) (As := [z_v x5, z_v x1]) (rest := [z_v x4]) hF hw (czX5_overOf l X N h1) zEf_6_0 (by decide) zC_6 (z_goodV qw_960 qw_962 qw_18 qw_42 qw_963) (by decide +kernel) ⟨Nat.le_of_ble_eq_true rfl, Nat.le_of_ble_eq_true rfl⟩ ⟨rfl, rfl⟩ rfl hl.1 rfl (Nat.le_of_ble_eq_true rfl) dX5_loadOf_42 ⟨Nat.le_of_ble_eq_true rfl, Nat.le_of_ble_eq_true rfl⟩ (fun H locs hw => ?_)
        clear h1
        generalize g1 = g at *
        refine lv_iload_n hx hb dX5_loadOf_45 rfl (lv_at hl 2 rfl) ?_
        refine lv_iload_n hx hb dX5_loadOf_46 rfl (lv_at hl 2 rfl) ?_
        refine lv_iload_n hx hb dX5_loadOf_47 rfl (lv_at hl 3 rfl) ?_
        refine zr_iadd hF dX5_loadOf_48 ?_
        refine lv_iconst hx hb dX5_loadOf_49 rfl ?_
        refine zr_isub hF dX5_loadOf_50 ?_
        obtain ⟨r3, g1, h1, h⟩ := zbd_some h
        refine zr_callSi (n := 3) (As := [z_v r2, z_v x2, z_v ((x2 + x3) - 1)]) (rest := [z_v x4]) hF hw (czX5_isIn l X N h1) (z_goodS qw_922 qw_923 qw_42 qw_924) (by decide +kernel) ⟨Nat.le_of_ble_eq_true rfl, Nat.le_of_ble_eq_true rfl⟩ ⟨rfl, rfl⟩ rfl hl.1 rfl (Nat.le_of_ble_eq_true rfl) dX5_loadOf_51 ⟨Nat.le_of_ble_eq_true rfl, Nat.le_of_ble_eq_true rfl⟩ (fun H locs hw => ?_)
        clear h1
        generalize g1 = g at *
        refine zr_if_eq (tgt := 61) hF h dX5_loadOf_54 (by decide) (fun h => ?_) (fun h => ?_)
        · exact wX5_loadOf_j61 hF hr hK0  hw (lv_sub hl [0, 1, 2, 3, 5] rfl) h
        · refine lv_iconst hx hb dX5_loadOf_57 rfl ?_
          refine lv_goto (tgt := 62) hx hb dX5_loadOf_58 (by decide) ?_
          exact wX5_loadOf_j62 hF hr hK0  hw (lv_sub hl [0, 1, 2, 3, 5] rfl) h
set_option maxHeartbeats 4000000 in
set_option maxRecDepth 100000 in
theorem wX5_loadOf_run {p : Program} {l : Launch} {e : Env} {s : State} {m : MethodId} {args : Array Value} {below : List Frame} {meth : Method} {c : Code} {X : zC} {N : zN} {r : Int} {g' : zG} (hF : zF p s m args meth c X cX5_loadOf 6 RX5) (hr : meth.sig.returnType = (some .int)) {n0 : Nat} : ∀ n : Nat, (∀ (x1 : Int) (x2 : Int) (x3 : Int) (x4 : Int) (x5 : Int) (g : zG) (H : Heap) (locs : List Loc) (ls : Array Slot), zH X N g s H locs → lv_has ls 6 [(0, z_r N 6 0), (1, z_v x1), (2, z_v x2), (3, z_v x3), (4, z_v x4), (5, z_v x5)] → sX5_loadOf_run n0 n 0 x1 x2 x3 x4 x5 g = some (r, g') → W p l e { frames := 2, cells := 0, slots := 0, locals := 43 } s m args below meth c H locs 0 0 (MQ below (zQi X N r g') args s 0 0 (zA X)) (F0 m 6 ls [])) := by
  intro n
  induction n with
  | zero => exact fun _ _ _ _ _ _ _ _ _ _ _  h => (by cases h)
  | succ n ih => exact fun x1 x2 x3 x4 x5 g H locs ls  hw hl h => wX5_loadOf_h6 hF hr ih  hw hl h
set_option maxHeartbeats 4000000 in
set_option maxRecDepth 100000 in
theorem czX5_loadOf (l : Launch) (X : zC) (N : zN) {n : Nat} {x1 : Int} {x2 : Int} {x3 : Int} {g g' : zG} {r : Int} (h : sX5_loadOf n x1 x2 x3 g = some (r, g')) : zM l yX5_loadOf cX5_loadOf 6 (some .int) { frames := 2, cells := 0, slots := 0, locals := 43 } X N g [z_r N 6 0, z_v x1, z_v x2, z_v x3] (zQi X N r g') := by
  refine z_ofW (own := RX5) (by decide +kernel) rfl (Nat.le_of_ble_eq_true rfl) ?_
  intro p e s m args below meth c ls hF hr hw hl
  have hl : lv_has ls 6 [(0, z_r N 6 0), (1, z_v x1), (2, z_v x2), (3, z_v x3)] := hl
  have hx := hF.1.1
  have hb := hF.1.2.1
  have hKK := wX5_loadOf_run hF hr (r := r) (g' := g') (X := X) (N := N) (n0 := n) (l := l) (e := e) (below := below) n
  have hK0 := hKK
  unfold sX5_loadOf at h
  generalize s.heap = H at hw ⊢
  generalize ([] : List Loc) = locs at hw ⊢
  refine lv_iconst hx hb dX5_loadOf_0 rfl ?_
  refine lv_istore (lv' := [(4, z_v 0), (0, z_r N 6 0), (1, z_v x1), (2, z_v x2), (3, z_v x3)]) hx hb dX5_loadOf_1 hl (by decide) rfl (fun ls hl => ?_)
  refine lv_iconst hx hb dX5_loadOf_3 rfl ?_
  refine lv_istore (lv' := [(5, z_v 0), (4, z_v 0), (0, z_r N 6 0), (1, z_v x1), (2, z_v x2), (3, z_v x3)]) hx hb dX5_loadOf_4 hl (by decide) rfl (fun ls hl => ?_)
  exact hK0 x1 x2 x3 0 0 _ _ _ _  hw (lv_sub hl [2, 3, 4, 5, 1, 0] rfl) h
set_option maxHeartbeats 4000000 in
set_option maxRecDepth 100000 in
theorem wX5_load_j39 {p : Program} {l : Launch} {e : Env} {s : State} {m : MethodId} {args : Array Value} {below : List Frame} {meth : Method} {c : Code} {X : zC} {N : zN} {r : Int} {g' : zG} {H : Heap} {locs : List Loc} {ls : Array Slot} (hF : zF p s m args meth c X cX5_load 4 RX5) (hr : meth.sig.returnType = (some .int)) {n : Nat} {x1 : Int} {x2 : Int} {x3 : Int} {t1 : Int} {g : zG} (hw : zH X N g s H locs) (hl : lv_has ls 4 [(0, z_r N 6 0), (1, z_v x1), (2, z_v x2), (3, z_v x3)]) (h : sX5_load_j39 n x1 x2 x3 t1 g = some (r, g')) : W p l e { frames := 3, cells := 0, slots := 0, locals := 68 } s m args below meth c H locs 0 0 (MQ below (zQi X N r g') args s 0 0 (zA X)) (F0 m 39 ls [z_v t1, z_r N 6 0]) := by
  have hx := hF.1.1
  have hb := hF.1.2.1
  unfold sX5_load_j39 at h
  obtain ⟨r1, g1, h1, h⟩ := zbd_some h
  refine zr_callVi (n := 1) (As := [z_v t1]) (rest := []) hF hw (czX5_holds l X N h1) zEf_6_0 (by decide) zC_6 (z_goodV qw_925 qw_927 qw_14 qw_42 qw_928) (by decide +kernel) ⟨Nat.le_of_ble_eq_true rfl, Nat.le_of_ble_eq_true rfl⟩ ⟨rfl, rfl⟩ rfl hl.1 rfl (Nat.le_of_ble_eq_true rfl) dX5_load_39 ⟨Nat.le_of_ble_eq_true rfl, Nat.le_of_ble_eq_true rfl⟩ (fun H locs hw => ?_)
  clear h1
  generalize g1 = g at *
  refine zr_if_eq (tgt := 55) hF h dX5_load_42 (by decide) (fun h => ?_) (fun h => ?_)
  · refine lv_iconst hx hb dX5_load_55 rfl ?_
    exact zr_iret hF hr hw h dX5_load_56
  · refine lv_aload_n hx hb dX5_load_45 rfl (lv_at hl 0 rfl) ?_
    refine lv_iload_n hx hb dX5_load_46 rfl (lv_at hl 1 rfl) ?_
    refine lv_iload_n hx hb dX5_load_47 rfl (lv_at hl 2 rfl) ?_
    refine lv_iload_n hx hb dX5_load_48 rfl (lv_at hl 3 rfl) ?_
    obtain ⟨r2, g1, h1, h⟩ := zbd_some h
    refine zr_callVi (n := 3) (As := [z_v x1, z_v x2, z_v x3]) (rest := []) hF hw (czX5_loadOf l X N h1) zEf_6_0 (by decide) zC_6 (z_goodV qw_968 qw_970 qw_19 qw_42 qw_971) (by decide +kernel) ⟨Nat.le_of_ble_eq_true rfl, Nat.le_of_ble_eq_true rfl⟩ ⟨rfl, rfl⟩ rfl hl.1 rfl (Nat.le_of_ble_eq_true rfl) dX5_load_49 ⟨Nat.le_of_ble_eq_true rfl, Nat.le_of_ble_eq_true rfl⟩ (fun H locs hw => ?_)
    clear h1
    generalize g1 = g at *
    refine lv_goto (tgt := 56) hx hb dX5_load_52 (by decide) ?_
    exact zr_iret hF hr hw h dX5_load_56
set_option maxHeartbeats 4000000 in
set_option maxRecDepth 100000 in
theorem wX5_load_j38 {p : Program} {l : Launch} {e : Env} {s : State} {m : MethodId} {args : Array Value} {below : List Frame} {meth : Method} {c : Code} {X : zC} {N : zN} {r : Int} {g' : zG} {H : Heap} {locs : List Loc} {ls : Array Slot} (hF : zF p s m args meth c X cX5_load 4 RX5) (hr : meth.sig.returnType = (some .int)) {n : Nat} {x1 : Int} {x2 : Int} {x3 : Int} {g : zG} (hw : zH X N g s H locs) (hl : lv_has ls 4 [(0, z_r N 6 0), (1, z_v x1), (2, z_v x2), (3, z_v x3)]) (h : sX5_load_j38 n x1 x2 x3 g = some (r, g')) : W p l e { frames := 3, cells := 0, slots := 0, locals := 68 } s m args below meth c H locs 0 0 (MQ below (zQi X N r g') args s 0 0 (zA X)) (F0 m 38 ls [z_r N 6 0]) := by
  have hx := hF.1.1
  have hb := hF.1.2.1
  unfold sX5_load_j38 at h
  refine lv_iconst hx hb dX5_load_38 rfl ?_
  exact wX5_load_j39 hF hr  hw (lv_sub hl [0, 1, 2, 3] rfl) h
set_option maxHeartbeats 4000000 in
set_option maxRecDepth 100000 in
theorem czX5_load (l : Launch) (X : zC) (N : zN) {n : Nat} {x1 : Int} {x2 : Int} {x3 : Int} {g g' : zG} {r : Int} (h : sX5_load n x1 x2 x3 g = some (r, g')) : zM l yX5_load cX5_load 4 (some .int) { frames := 3, cells := 0, slots := 0, locals := 68 } X N g [z_r N 6 0, z_v x1, z_v x2, z_v x3] (zQi X N r g') := by
  refine z_ofW (own := RX5) (by decide +kernel) rfl (Nat.le_of_ble_eq_true rfl) ?_
  intro p e s m args below meth c ls hF hr hw hl
  have hl : lv_has ls 4 [(0, z_r N 6 0), (1, z_v x1), (2, z_v x2), (3, z_v x3)] := hl
  have hx := hF.1.1
  have hb := hF.1.2.1
  unfold sX5_load at h
  generalize s.heap = H at hw ⊢
  generalize ([] : List Loc) = locs at hw ⊢
  refine lv_aload_n hx hb dX5_load_0 rfl (lv_at hl 0 rfl) ?_
  refine lv_iload_n hx hb dX5_load_1 rfl (lv_at hl 1 rfl) ?_
  obtain ⟨r1, g1, h1, h⟩ := zbd_some h
  refine zr_callSi (n := 1) (As := [z_v x1]) (rest := [z_r N 6 0]) hF hw (czX5_isSector l X N h1) (z_goodS qw_937 qw_938 qw_42 qw_939) (by decide +kernel) ⟨Nat.le_of_ble_eq_true rfl, Nat.le_of_ble_eq_true rfl⟩ ⟨rfl, rfl⟩ rfl hl.1 rfl (Nat.le_of_ble_eq_true rfl) dX5_load_2 ⟨Nat.le_of_ble_eq_true rfl, Nat.le_of_ble_eq_true rfl⟩ (fun H locs hw => ?_)
  clear h1
  generalize g1 = g at *
  refine zr_if_ne (tgt := 12) hF h dX5_load_5 (by decide) (fun h => ?_) (fun h => ?_)
  · refine lv_iload_n hx hb dX5_load_12 rfl (lv_at hl 2 rfl) ?_
    refine lv_iconst hx hb dX5_load_13 rfl ?_
    refine lv_sipush (v := Int32.ofInt (2999)) hx hb dX5_load_14 (by decide) ?_
    obtain ⟨r2, g1, h1, h⟩ := zbd_some h
    refine zr_callSi (n := 3) (As := [z_v x2, z_v 0, z_v 2999]) (rest := [z_r N 6 0]) hF hw (czX5_isIn l X N h1) (z_goodS qw_922 qw_923 qw_42 qw_924) (by decide +kernel) ⟨Nat.le_of_ble_eq_true rfl, Nat.le_of_ble_eq_true rfl⟩ ⟨rfl, rfl⟩ rfl hl.1 rfl (Nat.le_of_ble_eq_true rfl) dX5_load_17 ⟨Nat.le_of_ble_eq_true rfl, Nat.le_of_ble_eq_true rfl⟩ (fun H locs hw => ?_)
    clear h1
    generalize g1 = g at *
    refine zr_if_eq (tgt := 38) hF h dX5_load_20 (by decide) (fun h => ?_) (fun h => ?_)
    · exact wX5_load_j38 hF hr  hw (lv_sub hl [0, 1, 2, 3] rfl) h
    · refine lv_iload_n hx hb dX5_load_23 rfl (lv_at hl 3 rfl) ?_
      refine lv_iconst hx hb dX5_load_24 rfl ?_
      refine lv_sipush (v := Int32.ofInt (240)) hx hb dX5_load_25 (by decide) ?_
      obtain ⟨r3, g1, h1, h⟩ := zbd_some h
      refine zr_callSi (n := 3) (As := [z_v x3, z_v 1, z_v 240]) (rest := [z_r N 6 0]) hF hw (czX5_isIn l X N h1) (z_goodS qw_922 qw_923 qw_42 qw_924) (by decide +kernel) ⟨Nat.le_of_ble_eq_true rfl, Nat.le_of_ble_eq_true rfl⟩ ⟨rfl, rfl⟩ rfl hl.1 rfl (Nat.le_of_ble_eq_true rfl) dX5_load_28 ⟨Nat.le_of_ble_eq_true rfl, Nat.le_of_ble_eq_true rfl⟩ (fun H locs hw => ?_)
      clear h1
      generalize g1 = g at *
      refine zr_if_eq (tgt := 38) hF h dX5_load_31 (by decide) (fun h => ?_) (fun h => ?_)
      · exact wX5_load_j38 hF hr  hw (lv_sub hl [0, 1, 2, 3] rfl) h
      · refine lv_iconst hx hb dX5_load_34 rfl ?_
        refine lv_goto (tgt := 39) hx hb dX5_load_35 (by decide) ?_
        exact wX5_load_j39 hF hr  hw (lv_sub hl [0, 1, 2, 3] rfl) h
  · refine lv_iconst hx hb dX5_load_8 rfl ?_
    refine lv_goto (tgt := 39) hx hb dX5_load_9 (by decide) ?_
    exact wX5_load_j39 hF hr  hw (lv_sub hl [0, 1, 2, 3] rfl) h
set_option maxHeartbeats 4000000 in
set_option maxRecDepth 100000 in
theorem wX5_inside_j28 {p : Program} {l : Launch} {e : Env} {s : State} {m : MethodId} {args : Array Value} {below : List Frame} {meth : Method} {c : Code} {X : zC} {N : zN} {r : Int} {g' : zG} {H : Heap} {locs : List Loc} {ls : Array Slot} (hF : zF p s m args meth c X cX5_inside 6 RX5) (hr : meth.sig.returnType = (some .int)) {n : Nat} {K : Nat → Int → Int → Int → Int → zG → Option (Int × zG)} (hK0 : ∀ (x1 : Int) (x2 : Int) (x3 : Int) (x4 : Int) (g : zG) (H : Heap) (locs : List Loc) (ls : Array Slot), zH X N g s H locs → lv_has ls 6 [(0, z_r N 6 0), (1, z_v x1), (2, z_v x2), (3, z_v x3), (4, z_v x4)] → K 0 x1 x2 x3 x4 g = some (r, g') → W p l e { frames := 2, cells := 0, slots := 0, locals := 43 } s m args below meth c H locs 0 0 (MQ below (zQi X N r g') args s 0 0 (zA X)) (F0 m 41 ls [])) {x1 : Int} {x2 : Int} {t1 : Int} {g : zG} (hw : zH X N g s H locs) (hl : lv_has ls 6 [(0, z_r N 6 0), (1, z_v x1), (2, z_v x2)]) (h : sX5_inside_j28 n K x1 x2 t1 g = some (r, g')) : W p l e { frames := 2, cells := 0, slots := 0, locals := 43 } s m args below meth c H locs 0 0 (MQ below (zQi X N r g') args s 0 0 (zA X)) (F0 m 28 ls [z_v t1, z_r N 6 0]) := by
  have hx := hF.1.1
  have hb := hF.1.2.1
  unfold sX5_inside_j28 at h
  obtain ⟨r1, g1, h1, h⟩ := zbd_some h
  refine zr_callVi (n := 1) (As := [z_v t1]) (rest := []) hF hw (czX5_holds l X N h1) zEf_6_0 (by decide) zC_6 (z_goodV qw_925 qw_927 qw_14 qw_42 qw_928) (by decide +kernel) ⟨Nat.le_of_ble_eq_true rfl, Nat.le_of_ble_eq_true rfl⟩ ⟨rfl, rfl⟩ rfl hl.1 rfl (Nat.le_of_ble_eq_true rfl) dX5_inside_28 ⟨Nat.le_of_ble_eq_true rfl, Nat.le_of_ble_eq_true rfl⟩ (fun H locs hw => ?_)
  clear h1
  generalize g1 = g at *
  refine zr_if_ne (tgt := 36) hF h dX5_inside_31 (by decide) (fun h => ?_) (fun h => ?_)
  · refine lv_iconst hx hb dX5_inside_36 rfl ?_
    refine lv_istore_n (lv' := [(3, z_v 0), (0, z_r N 6 0), (1, z_v x1), (2, z_v x2)]) hx hb dX5_inside_37 rfl hl (by decide) rfl (fun ls hl => ?_)
    refine lv_iconst hx hb dX5_inside_38 rfl ?_
    refine lv_istore (lv' := [(4, z_v 0), (3, z_v 0), (0, z_r N 6 0), (1, z_v x1), (2, z_v x2)]) hx hb dX5_inside_39 hl (by decide) rfl (fun ls hl => ?_)
    exact hK0 x1 x2 0 0 _ _ _ _  hw (lv_sub hl [2, 3, 4, 1, 0] rfl) h
  · refine lv_iconst hx hb dX5_inside_34 rfl ?_
    exact zr_iret hF hr hw h dX5_inside_35
set_option maxHeartbeats 4000000 in
set_option maxRecDepth 100000 in
theorem wX5_inside_j124 {p : Program} {l : Launch} {e : Env} {s : State} {m : MethodId} {args : Array Value} {below : List Frame} {meth : Method} {c : Code} {X : zC} {N : zN} {r : Int} {g' : zG} {H : Heap} {locs : List Loc} {ls : Array Slot} (hF : zF p s m args meth c X cX5_inside 6 RX5) (hr : meth.sig.returnType = (some .int)) {n : Nat} {K : Nat → Int → Int → Int → Int → zG → Option (Int × zG)} (hK0 : ∀ (x1 : Int) (x2 : Int) (x3 : Int) (x4 : Int) (g : zG) (H : Heap) (locs : List Loc) (ls : Array Slot), zH X N g s H locs → lv_has ls 6 [(0, z_r N 6 0), (1, z_v x1), (2, z_v x2), (3, z_v x3), (4, z_v x4)] → K 0 x1 x2 x3 x4 g = some (r, g') → W p l e { frames := 2, cells := 0, slots := 0, locals := 43 } s m args below meth c H locs 0 0 (MQ below (zQi X N r g') args s 0 0 (zA X)) (F0 m 41 ls [])) {x1 : Int} {x2 : Int} {x4 : Int} {t0 : Int} {t1 : Int} {g : zG} (hw : zH X N g s H locs) (hl : lv_has ls 6 [(0, z_r N 6 0), (1, z_v x1), (2, z_v x2), (4, z_v x4)]) (h : sX5_inside_j124 n K x1 x2 x4 t0 t1 g = some (r, g')) : W p l e { frames := 2, cells := 0, slots := 0, locals := 43 } s m args below meth c H locs 0 0 (MQ below (zQi X N r g') args s 0 0 (zA X)) (F0 m 124 ls [z_v t1, z_v t0]) := by
  have hx := hF.1.1
  have hb := hF.1.2.1
  unfold sX5_inside_j124 at h
  refine zr_iadd hF dX5_inside_124 ?_
  refine zr_let h (fun v1 h => ?_)
  refine lv_istore_n (lv' := [(3, z_v v1), (0, z_r N 6 0), (1, z_v x1), (2, z_v x2), (4, z_v x4)]) hx hb dX5_inside_125 rfl hl (by decide) rfl (fun ls hl => ?_)
  refine zr_iinc hF (lv' := fun v2 => [(4, z_v v2), (3, z_v v1), (0, z_r N 6 0), (1, z_v x1), (2, z_v x2)]) h dX5_inside_126 hl (k := 4) rfl (by decide) (fun _ => rfl) (fun v2 ls hl h => ?_)
  refine lv_goto (tgt := 41) hx hb dX5_inside_129 (by decide) ?_
  exact hK0 x1 x2 v1 v2 _ _ _ _  hw (lv_sub hl [2, 3, 4, 1, 0] rfl) h
set_option maxHeartbeats 4000000 in
set_option maxRecDepth 100000 in
theorem wX5_inside_j123 {p : Program} {l : Launch} {e : Env} {s : State} {m : MethodId} {args : Array Value} {below : List Frame} {meth : Method} {c : Code} {X : zC} {N : zN} {r : Int} {g' : zG} {H : Heap} {locs : List Loc} {ls : Array Slot} (hF : zF p s m args meth c X cX5_inside 6 RX5) (hr : meth.sig.returnType = (some .int)) {n : Nat} {K : Nat → Int → Int → Int → Int → zG → Option (Int × zG)} (hK0 : ∀ (x1 : Int) (x2 : Int) (x3 : Int) (x4 : Int) (g : zG) (H : Heap) (locs : List Loc) (ls : Array Slot), zH X N g s H locs → lv_has ls 6 [(0, z_r N 6 0), (1, z_v x1), (2, z_v x2), (3, z_v x3), (4, z_v x4)] → K 0 x1 x2 x3 x4 g = some (r, g') → W p l e { frames := 2, cells := 0, slots := 0, locals := 43 } s m args below meth c H locs 0 0 (MQ below (zQi X N r g') args s 0 0 (zA X)) (F0 m 41 ls [])) {x1 : Int} {x2 : Int} {x4 : Int} {t0 : Int} {g : zG} (hw : zH X N g s H locs) (hl : lv_has ls 6 [(0, z_r N 6 0), (1, z_v x1), (2, z_v x2), (4, z_v x4)]) (h : sX5_inside_j123 n K x1 x2 x4 t0 g = some (r, g')) : W p l e { frames := 2, cells := 0, slots := 0, locals := 43 } s m args below meth c H locs 0 0 (MQ below (zQi X N r g') args s 0 0 (zA X)) (F0 m 123 ls [z_v t0]) := by
  have hx := hF.1.1
  have hb := hF.1.2.1
  unfold sX5_inside_j123 at h
  refine lv_iconst hx hb dX5_inside_123 rfl ?_
  exact wX5_inside_j124 hF hr hK0  hw (lv_sub hl [0, 1, 2, 3] rfl) h
set_option maxHeartbeats 4000000 in
set_option maxRecDepth 100000 in
theorem wX5_inside_j73 {p : Program} {l : Launch} {e : Env} {s : State} {m : MethodId} {args : Array Value} {below : List Frame} {meth : Method} {c : Code} {X : zC} {N : zN} {r : Int} {g' : zG} {H : Heap} {locs : List Loc} {ls : Array Slot} (hF : zF p s m args meth c X cX5_inside 6 RX5) (hr : meth.sig.returnType = (some .int)) {n : Nat} {K : Nat → Int → Int → Int → Int → zG → Option (Int × zG)} (hK0 : ∀ (x1 : Int) (x2 : Int) (x3 : Int) (x4 : Int) (g : zG) (H : Heap) (locs : List Loc) (ls : Array Slot), zH X N g s H locs → lv_has ls 6 [(0, z_r N 6 0), (1, z_v x1), (2, z_v x2), (3, z_v x3), (4, z_v x4)] → K 0 x1 x2 x3 x4 g = some (r, g') → W p l e { frames := 2, cells := 0, slots := 0, locals := 43 } s m args below meth c H locs 0 0 (MQ below (zQi X N r g') args s 0 0 (zA X)) (F0 m 41 ls [])) {x1 : Int} {x2 : Int} {x3 : Int} {x4 : Int} {t0 : Int} {g : zG} (hw : zH X N g s H locs) (hl : lv_has ls 6 [(0, z_r N 6 0), (1, z_v x1), (2, z_v x2), (3, z_v x3), (4, z_v x4)]) (h : sX5_inside_j73 n K x1 x2 x3 x4 t0 g = some (r, g')) : W p l e { frames := 2, cells := 0, slots := 0, locals := 43 } s m args below meth c H locs 0 0 (MQ below (zQi X N r g') args s 0 0 (zA X)) (F0 m 73 ls [z_v t0]) := by
  have hx := hF.1.1
  have hb := hF.1.2.1
  unfold sX5_inside_j73 at h
  refine lv_istore (lv' := [(5, z_v t0), (0, z_r N 6 0), (1, z_v x1), (2, z_v x2), (3, z_v x3), (4, z_v x4)]) hx hb dX5_inside_73 hl (by decide) rfl (fun ls hl => ?_)
  refine lv_iload_n hx hb dX5_inside_75 rfl (lv_at hl 4 rfl) ?_
  refine lv_aload_n hx hb dX5_inside_76 rfl (lv_at hl 1 rfl) ?_
  refine zr_get hF hw zEf_6_0 (by decide) zC_6 4 (by decide) qw_826 rfl dX5_inside_77 ?_
  refine lv_iload hx hb dX5_inside_80 (lv_at hl 5 rfl) ?_
  refine zr_iald hF hw zEf_22_0 (by decide) h dX5_inside_82 (fun h => ?_)
  refine lv_iconst hx hb dX5_inside_83 rfl ?_
  refine zr_icmp_eq (tgt := 123) hF h dX5_inside_84 (by decide) (fun h => ?_) (fun h => ?_)
  · exact wX5_inside_j123 hF hr hK0  hw (lv_sub hl [1, 2, 3, 5] rfl) h
  · refine lv_aload_n hx hb dX5_inside_87 rfl (lv_at hl 1 rfl) ?_
    refine lv_iload hx hb dX5_inside_88 (lv_at hl 5 rfl) ?_
    refine lv_iload_n hx hb dX5_inside_90 rfl (lv_at hl 2 rfl) ?_
    obtain ⟨r1, g1, h1, h⟩ := zbd_some h
    refine zr_callVi (n := 2) (As := [z_v x4, z_v x1]) (rest := [z_v x3]) hF hw (czX5_enters l X N h1) zEf_6_0 (by decide) zC_6 (z_goodV qw_956 qw_958 qw_17 qw_42 qw_959) (by decide +kernel) ⟨Nat.le_of_ble_eq_true rfl, Nat.le_of_ble_eq_true rfl⟩ ⟨rfl, rfl⟩ rfl hl.1 rfl (Nat.le_of_ble_eq_true rfl) dX5_inside_91 ⟨Nat.le_of_ble_eq_true rfl, Nat.le_of_ble_eq_true rfl⟩ (fun H locs hw => ?_)
    clear h1
    generalize g1 = g at *
    refine zr_if_eq (tgt := 123) hF h dX5_inside_94 (by decide) (fun h => ?_) (fun h => ?_)
    · exact wX5_inside_j123 hF hr hK0  hw (lv_sub hl [1, 2, 3, 5] rfl) h
    · refine lv_iload hx hb dX5_inside_97 (lv_at hl 0 rfl) ?_
      refine zr_if_lt (tgt := 123) hF h dX5_inside_99 (by decide) (fun h => ?_) (fun h => ?_)
      · exact wX5_inside_j123 hF hr hK0  hw (lv_sub hl [1, 2, 3, 5] rfl) h
      · refine lv_iload hx hb dX5_inside_102 (lv_at hl 0 rfl) ?_
        refine lv_aload_n hx hb dX5_inside_104 rfl (lv_at hl 1 rfl) ?_
        refine zr_get hF hw zEf_6_0 (by decide) zC_6 13 (by decide) qw_835 rfl dX5_inside_105 ?_
        refine lv_bipush (v := Int32.ofInt (6)) hx hb dX5_inside_108 (by decide) ?_
        refine lv_iload hx hb dX5_inside_110 (lv_at hl 5 rfl) ?_
        refine zr_imul hF dX5_inside_112 ?_
        refine lv_iload_n hx hb dX5_inside_113 rfl (lv_at hl 2 rfl) ?_
        refine zr_iadd hF dX5_inside_114 ?_
        refine zr_iald hF hw zEf_31_0 (by decide) h dX5_inside_115 (fun h => ?_)
        refine zr_icmp_ge (tgt := 123) hF h dX5_inside_116 (by decide) (fun h => ?_) (fun h => ?_)
        · exact wX5_inside_j123 hF hr hK0  hw (lv_sub hl [1, 2, 3, 5] rfl) h
        · refine lv_iconst hx hb dX5_inside_119 rfl ?_
          refine lv_goto (tgt := 124) hx hb dX5_inside_120 (by decide) ?_
          exact wX5_inside_j124 hF hr hK0  hw (lv_sub hl [1, 2, 3, 5] rfl) h
set_option maxHeartbeats 4000000 in
set_option maxRecDepth 100000 in
theorem wX5_inside_h41 {p : Program} {l : Launch} {e : Env} {s : State} {m : MethodId} {args : Array Value} {below : List Frame} {meth : Method} {c : Code} {X : zC} {N : zN} {r : Int} {g' : zG} {H : Heap} {locs : List Loc} {ls : Array Slot} (hF : zF p s m args meth c X cX5_inside 6 RX5) (hr : meth.sig.returnType = (some .int)) {n : Nat} {K : Nat → Int → Int → Int → Int → zG → Option (Int × zG)} (hK0 : ∀ (x1 : Int) (x2 : Int) (x3 : Int) (x4 : Int) (g : zG) (H : Heap) (locs : List Loc) (ls : Array Slot), zH X N g s H locs → lv_has ls 6 [(0, z_r N 6 0), (1, z_v x1), (2, z_v x2), (3, z_v x3), (4, z_v x4)] → K 0 x1 x2 x3 x4 g = some (r, g') → W p l e { frames := 2, cells := 0, slots := 0, locals := 43 } s m args below meth c H locs 0 0 (MQ below (zQi X N r g') args s 0 0 (zA X)) (F0 m 41 ls [])) {x1 : Int} {x2 : Int} {x3 : Int} {x4 : Int} {g : zG} (hw : zH X N g s H locs) (hl : lv_has ls 6 [(0, z_r N 6 0), (1, z_v x1), (2, z_v x2), (3, z_v x3), (4, z_v x4)]) (h : sX5_inside_h41 n K x1 x2 x3 x4 g = some (r, g')) : W p l e { frames := 2, cells := 0, slots := 0, locals := 43 } s m args below meth c H locs 0 0 (MQ below (zQi X N r g') args s 0 0 (zA X)) (F0 m 41 ls []) := by
  have hx := hF.1.1
  have hb := hF.1.2.1
  unfold sX5_inside_h41 at h
  refine lv_iload hx hb dX5_inside_41 (lv_at hl 4 rfl) ?_
  refine lv_aload_n hx hb dX5_inside_43 rfl (lv_at hl 0 rfl) ?_
  refine zr_get hF hw zEf_6_0 (by decide) zC_6 1 (by decide) qw_823 rfl dX5_inside_44 ?_
  refine zr_icmp_ge (tgt := 132) hF h dX5_inside_47 (by decide) (fun h => ?_) (fun h => ?_)
  · refine lv_iload_n hx hb dX5_inside_132 rfl (lv_at hl 3 rfl) ?_
    exact zr_iret hF hr hw h dX5_inside_133
  · refine lv_aload_n hx hb dX5_inside_50 rfl (lv_at hl 0 rfl) ?_
    refine lv_iload hx hb dX5_inside_51 (lv_at hl 4 rfl) ?_
    refine lv_iload_n hx hb dX5_inside_53 rfl (lv_at hl 1 rfl) ?_
    obtain ⟨r1, g1, h1, h⟩ := zbd_some h
    refine zr_callVi (n := 2) (As := [z_v x4, z_v x1]) (rest := []) hF hw (czX5_enters l X N h1) zEf_6_0 (by decide) zC_6 (z_goodV qw_956 qw_958 qw_17 qw_42 qw_959) (by decide +kernel) ⟨Nat.le_of_ble_eq_true rfl, Nat.le_of_ble_eq_true rfl⟩ ⟨rfl, rfl⟩ rfl hl.1 rfl (Nat.le_of_ble_eq_true rfl) dX5_inside_54 ⟨Nat.le_of_ble_eq_true rfl, Nat.le_of_ble_eq_true rfl⟩ (fun H locs hw => ?_)
    clear h1
    generalize g1 = g at *
    refine zr_if_eq (tgt := 72) hF h dX5_inside_57 (by decide) (fun h => ?_) (fun h => ?_)
    · refine lv_iconst hx hb dX5_inside_72 rfl ?_
      exact wX5_inside_j73 hF hr hK0  hw (lv_sub hl [0, 1, 2, 3, 4] rfl) h
    · refine lv_iload_n hx hb dX5_inside_60 rfl (lv_at hl 2 rfl) ?_
      refine lv_aload_n hx hb dX5_inside_61 rfl (lv_at hl 0 rfl) ?_
      refine lv_iload hx hb dX5_inside_62 (lv_at hl 4 rfl) ?_
      refine lv_iload_n hx hb dX5_inside_64 rfl (lv_at hl 1 rfl) ?_
      obtain ⟨r2, g1, h1, h⟩ := zbd_some h
      refine zr_callVi (n := 2) (As := [z_v x4, z_v x1]) (rest := [z_v x2]) hF hw (czX5_overOf l X N h1) zEf_6_0 (by decide) zC_6 (z_goodV qw_960 qw_962 qw_18 qw_42 qw_963) (by decide +kernel) ⟨Nat.le_of_ble_eq_true rfl, Nat.le_of_ble_eq_true rfl⟩ ⟨rfl, rfl⟩ rfl hl.1 rfl (Nat.le_of_ble_eq_true rfl) dX5_inside_65 ⟨Nat.le_of_ble_eq_true rfl, Nat.le_of_ble_eq_true rfl⟩ (fun H locs hw => ?_)
      clear h1
      generalize g1 = g at *
      refine zr_isub hF dX5_inside_68 ?_
      refine lv_goto (tgt := 73) hx hb dX5_inside_69 (by decide) ?_
      exact wX5_inside_j73 hF hr hK0  hw (lv_sub hl [0, 1, 2, 3, 4] rfl) h
set_option maxHeartbeats 4000000 in
set_option maxRecDepth 100000 in
theorem wX5_inside_run {p : Program} {l : Launch} {e : Env} {s : State} {m : MethodId} {args : Array Value} {below : List Frame} {meth : Method} {c : Code} {X : zC} {N : zN} {r : Int} {g' : zG} (hF : zF p s m args meth c X cX5_inside 6 RX5) (hr : meth.sig.returnType = (some .int)) {n0 : Nat} : ∀ n : Nat, (∀ (x1 : Int) (x2 : Int) (x3 : Int) (x4 : Int) (g : zG) (H : Heap) (locs : List Loc) (ls : Array Slot), zH X N g s H locs → lv_has ls 6 [(0, z_r N 6 0), (1, z_v x1), (2, z_v x2), (3, z_v x3), (4, z_v x4)] → sX5_inside_run n0 n 0 x1 x2 x3 x4 g = some (r, g') → W p l e { frames := 2, cells := 0, slots := 0, locals := 43 } s m args below meth c H locs 0 0 (MQ below (zQi X N r g') args s 0 0 (zA X)) (F0 m 41 ls [])) := by
  intro n
  induction n with
  | zero => exact fun _ _ _ _ _ _ _ _ _ _  h => (by cases h)
  | succ n ih => exact fun x1 x2 x3 x4 g H locs ls  hw hl h => wX5_inside_h41 hF hr ih  hw hl h
set_option maxHeartbeats 4000000 in
set_option maxRecDepth 100000 in
theorem czX5_inside (l : Launch) (X : zC) (N : zN) {n : Nat} {x1 : Int} {x2 : Int} {g g' : zG} {r : Int} (h : sX5_inside n x1 x2 g = some (r, g')) : zM l yX5_inside cX5_inside 6 (some .int) { frames := 2, cells := 0, slots := 0, locals := 43 } X N g [z_r N 6 0, z_v x1, z_v x2] (zQi X N r g') := by
  refine z_ofW (own := RX5) (by decide +kernel) rfl (Nat.le_of_ble_eq_true rfl) ?_
  intro p e s m args below meth c ls hF hr hw hl
  have hl : lv_has ls 6 [(0, z_r N 6 0), (1, z_v x1), (2, z_v x2)] := hl
  have hx := hF.1.1
  have hb := hF.1.2.1
  have hKK := wX5_inside_run hF hr (r := r) (g' := g') (X := X) (N := N) (n0 := n) (l := l) (e := e) (below := below) n
  have hK0 := hKK
  unfold sX5_inside at h
  generalize s.heap = H at hw ⊢
  generalize ([] : List Loc) = locs at hw ⊢
  refine lv_aload_n hx hb dX5_inside_0 rfl (lv_at hl 0 rfl) ?_
  refine lv_iload_n hx hb dX5_inside_1 rfl (lv_at hl 1 rfl) ?_
  obtain ⟨r1, g1, h1, h⟩ := zbd_some h
  refine zr_callSi (n := 1) (As := [z_v x1]) (rest := [z_r N 6 0]) hF hw (czX5_isSector l X N h1) (z_goodS qw_937 qw_938 qw_42 qw_939) (by decide +kernel) ⟨Nat.le_of_ble_eq_true rfl, Nat.le_of_ble_eq_true rfl⟩ ⟨rfl, rfl⟩ rfl hl.1 rfl (Nat.le_of_ble_eq_true rfl) dX5_inside_2 ⟨Nat.le_of_ble_eq_true rfl, Nat.le_of_ble_eq_true rfl⟩ (fun H locs hw => ?_)
  clear h1
  generalize g1 = g at *
  refine zr_if_ne (tgt := 12) hF h dX5_inside_5 (by decide) (fun h => ?_) (fun h => ?_)
  · refine lv_iload_n hx hb dX5_inside_12 rfl (lv_at hl 2 rfl) ?_
    refine lv_iconst hx hb dX5_inside_13 rfl ?_
    refine lv_sipush (v := Int32.ofInt (2999)) hx hb dX5_inside_14 (by decide) ?_
    obtain ⟨r2, g1, h1, h⟩ := zbd_some h
    refine zr_callSi (n := 3) (As := [z_v x2, z_v 0, z_v 2999]) (rest := [z_r N 6 0]) hF hw (czX5_isIn l X N h1) (z_goodS qw_922 qw_923 qw_42 qw_924) (by decide +kernel) ⟨Nat.le_of_ble_eq_true rfl, Nat.le_of_ble_eq_true rfl⟩ ⟨rfl, rfl⟩ rfl hl.1 rfl (Nat.le_of_ble_eq_true rfl) dX5_inside_17 ⟨Nat.le_of_ble_eq_true rfl, Nat.le_of_ble_eq_true rfl⟩ (fun H locs hw => ?_)
    clear h1
    generalize g1 = g at *
    refine zr_if_eq (tgt := 27) hF h dX5_inside_20 (by decide) (fun h => ?_) (fun h => ?_)
    · refine lv_iconst hx hb dX5_inside_27 rfl ?_
      exact wX5_inside_j28 hF hr hK0  hw (lv_sub hl [0, 1, 2] rfl) h
    · refine lv_iconst hx hb dX5_inside_23 rfl ?_
      refine lv_goto (tgt := 28) hx hb dX5_inside_24 (by decide) ?_
      exact wX5_inside_j28 hF hr hK0  hw (lv_sub hl [0, 1, 2] rfl) h
  · refine lv_iconst hx hb dX5_inside_8 rfl ?_
    refine lv_goto (tgt := 28) hx hb dX5_inside_9 (by decide) ?_
    exact wX5_inside_j28 hF hr hK0  hw (lv_sub hl [0, 1, 2] rfl) h
set_option maxHeartbeats 4000000 in
set_option maxRecDepth 100000 in
theorem wX5_peak_j28 {p : Program} {l : Launch} {e : Env} {s : State} {m : MethodId} {args : Array Value} {below : List Frame} {meth : Method} {c : Code} {X : zC} {N : zN} {r : Int} {g' : zG} {H : Heap} {locs : List Loc} {ls : Array Slot} (hF : zF p s m args meth c X cX5_peak 6 RX5) (hr : meth.sig.returnType = (some .int)) {n : Nat} {K : Nat → Int → Int → Int → Int → zG → Option (Int × zG)} (hK0 : ∀ (x1 : Int) (x2 : Int) (x3 : Int) (x4 : Int) (g : zG) (H : Heap) (locs : List Loc) (ls : Array Slot), zH X N g s H locs → lv_has ls 6 [(0, z_r N 6 0), (1, z_v x1), (2, z_v x2), (3, z_v x3), (4, z_v x4)] → K 0 x1 x2 x3 x4 g = some (r, g') → W p l e { frames := 3, cells := 0, slots := 0, locals := 68 } s m args below meth c H locs 0 0 (MQ below (zQi X N r g') args s 0 0 (zA X)) (F0 m 41 ls [])) {x1 : Int} {x2 : Int} {t1 : Int} {g : zG} (hw : zH X N g s H locs) (hl : lv_has ls 6 [(0, z_r N 6 0), (1, z_v x1), (2, z_v x2)]) (h : sX5_peak_j28 n K x1 x2 t1 g = some (r, g')) : W p l e { frames := 3, cells := 0, slots := 0, locals := 68 } s m args below meth c H locs 0 0 (MQ below (zQi X N r g') args s 0 0 (zA X)) (F0 m 28 ls [z_v t1, z_r N 6 0]) := by
  have hx := hF.1.1
  have hb := hF.1.2.1
  unfold sX5_peak_j28 at h
  obtain ⟨r1, g1, h1, h⟩ := zbd_some h
  refine zr_callVi (n := 1) (As := [z_v t1]) (rest := []) hF hw (czX5_holds l X N h1) zEf_6_0 (by decide) zC_6 (z_goodV qw_925 qw_927 qw_14 qw_42 qw_928) (by decide +kernel) ⟨Nat.le_of_ble_eq_true rfl, Nat.le_of_ble_eq_true rfl⟩ ⟨rfl, rfl⟩ rfl hl.1 rfl (Nat.le_of_ble_eq_true rfl) dX5_peak_28 ⟨Nat.le_of_ble_eq_true rfl, Nat.le_of_ble_eq_true rfl⟩ (fun H locs hw => ?_)
  clear h1
  generalize g1 = g at *
  refine zr_if_ne (tgt := 36) hF h dX5_peak_31 (by decide) (fun h => ?_) (fun h => ?_)
  · refine lv_iconst hx hb dX5_peak_36 rfl ?_
    refine lv_istore_n (lv' := [(3, z_v 0), (0, z_r N 6 0), (1, z_v x1), (2, z_v x2)]) hx hb dX5_peak_37 rfl hl (by decide) rfl (fun ls hl => ?_)
    refine lv_iconst hx hb dX5_peak_38 rfl ?_
    refine lv_istore (lv' := [(4, z_v 0), (3, z_v 0), (0, z_r N 6 0), (1, z_v x1), (2, z_v x2)]) hx hb dX5_peak_39 hl (by decide) rfl (fun ls hl => ?_)
    exact hK0 x1 x2 0 0 _ _ _ _  hw (lv_sub hl [2, 3, 4, 1, 0] rfl) h
  · refine lv_iconst hx hb dX5_peak_34 rfl ?_
    exact zr_iret hF hr hw h dX5_peak_35
set_option maxHeartbeats 4000000 in
set_option maxRecDepth 100000 in
theorem wX5_peak_j102 {p : Program} {l : Launch} {e : Env} {s : State} {m : MethodId} {args : Array Value} {below : List Frame} {meth : Method} {c : Code} {X : zC} {N : zN} {r : Int} {g' : zG} {H : Heap} {locs : List Loc} {ls : Array Slot} (hF : zF p s m args meth c X cX5_peak 6 RX5) (hr : meth.sig.returnType = (some .int)) {n : Nat} {K : Nat → Int → Int → Int → Int → zG → Option (Int × zG)} (hK0 : ∀ (x1 : Int) (x2 : Int) (x3 : Int) (x4 : Int) (g : zG) (H : Heap) (locs : List Loc) (ls : Array Slot), zH X N g s H locs → lv_has ls 6 [(0, z_r N 6 0), (1, z_v x1), (2, z_v x2), (3, z_v x3), (4, z_v x4)] → K 0 x1 x2 x3 x4 g = some (r, g') → W p l e { frames := 3, cells := 0, slots := 0, locals := 68 } s m args below meth c H locs 0 0 (MQ below (zQi X N r g') args s 0 0 (zA X)) (F0 m 41 ls [])) {x1 : Int} {x2 : Int} {x4 : Int} {t0 : Int} {g : zG} (hw : zH X N g s H locs) (hl : lv_has ls 6 [(0, z_r N 6 0), (1, z_v x1), (2, z_v x2), (4, z_v x4)]) (h : sX5_peak_j102 n K x1 x2 x4 t0 g = some (r, g')) : W p l e { frames := 3, cells := 0, slots := 0, locals := 68 } s m args below meth c H locs 0 0 (MQ below (zQi X N r g') args s 0 0 (zA X)) (F0 m 102 ls [z_v t0]) := by
  have hx := hF.1.1
  have hb := hF.1.2.1
  unfold sX5_peak_j102 at h
  refine lv_istore_n (lv' := [(3, z_v t0), (0, z_r N 6 0), (1, z_v x1), (2, z_v x2), (4, z_v x4)]) hx hb dX5_peak_102 rfl hl (by decide) rfl (fun ls hl => ?_)
  refine zr_iinc hF (lv' := fun v1 => [(4, z_v v1), (3, z_v t0), (0, z_r N 6 0), (1, z_v x1), (2, z_v x2)]) h dX5_peak_103 hl (k := 4) rfl (by decide) (fun _ => rfl) (fun v1 ls hl h => ?_)
  refine lv_goto (tgt := 41) hx hb dX5_peak_106 (by decide) ?_
  exact hK0 x1 x2 t0 v1 _ _ _ _  hw (lv_sub hl [2, 3, 4, 1, 0] rfl) h
set_option maxHeartbeats 4000000 in
set_option maxRecDepth 100000 in
theorem wX5_peak_j88 {p : Program} {l : Launch} {e : Env} {s : State} {m : MethodId} {args : Array Value} {below : List Frame} {meth : Method} {c : Code} {X : zC} {N : zN} {r : Int} {g' : zG} {H : Heap} {locs : List Loc} {ls : Array Slot} (hF : zF p s m args meth c X cX5_peak 6 RX5) (hr : meth.sig.returnType = (some .int)) {n : Nat} {K : Nat → Int → Int → Int → Int → zG → Option (Int × zG)} (hK0 : ∀ (x1 : Int) (x2 : Int) (x3 : Int) (x4 : Int) (g : zG) (H : Heap) (locs : List Loc) (ls : Array Slot), zH X N g s H locs → lv_has ls 6 [(0, z_r N 6 0), (1, z_v x1), (2, z_v x2), (3, z_v x3), (4, z_v x4)] → K 0 x1 x2 x3 x4 g = some (r, g') → W p l e { frames := 3, cells := 0, slots := 0, locals := 68 } s m args below meth c H locs 0 0 (MQ below (zQi X N r g') args s 0 0 (zA X)) (F0 m 41 ls [])) {x1 : Int} {x2 : Int} {x3 : Int} {x4 : Int} {t0 : Int} {g : zG} (hw : zH X N g s H locs) (hl : lv_has ls 6 [(0, z_r N 6 0), (1, z_v x1), (2, z_v x2), (3, z_v x3), (4, z_v x4)]) (h : sX5_peak_j88 n K x1 x2 x3 x4 t0 g = some (r, g')) : W p l e { frames := 3, cells := 0, slots := 0, locals := 68 } s m args below meth c H locs 0 0 (MQ below (zQi X N r g') args s 0 0 (zA X)) (F0 m 88 ls [z_v t0]) := by
  have hx := hF.1.1
  have hb := hF.1.2.1
  unfold sX5_peak_j88 at h
  refine lv_istore (lv' := [(5, z_v t0), (0, z_r N 6 0), (1, z_v x1), (2, z_v x2), (3, z_v x3), (4, z_v x4)]) hx hb dX5_peak_88 hl (by decide) rfl (fun ls hl => ?_)
  refine lv_iload hx hb dX5_peak_90 (lv_at hl 0 rfl) ?_
  refine lv_iload_n hx hb dX5_peak_92 rfl (lv_at hl 4 rfl) ?_
  refine zr_icmp_le (tgt := 101) hF h dX5_peak_93 (by decide) (fun h => ?_) (fun h => ?_)
  · refine lv_iload_n hx hb dX5_peak_101 rfl (lv_at hl 4 rfl) ?_
    exact wX5_peak_j102 hF hr hK0  hw (lv_sub hl [1, 2, 3, 5] rfl) h
  · refine lv_iload hx hb dX5_peak_96 (lv_at hl 0 rfl) ?_
    refine lv_goto (tgt := 102) hx hb dX5_peak_98 (by decide) ?_
    exact wX5_peak_j102 hF hr hK0  hw (lv_sub hl [1, 2, 3, 5] rfl) h
set_option maxHeartbeats 4000000 in
set_option maxRecDepth 100000 in
theorem wX5_peak_j87 {p : Program} {l : Launch} {e : Env} {s : State} {m : MethodId} {args : Array Value} {below : List Frame} {meth : Method} {c : Code} {X : zC} {N : zN} {r : Int} {g' : zG} {H : Heap} {locs : List Loc} {ls : Array Slot} (hF : zF p s m args meth c X cX5_peak 6 RX5) (hr : meth.sig.returnType = (some .int)) {n : Nat} {K : Nat → Int → Int → Int → Int → zG → Option (Int × zG)} (hK0 : ∀ (x1 : Int) (x2 : Int) (x3 : Int) (x4 : Int) (g : zG) (H : Heap) (locs : List Loc) (ls : Array Slot), zH X N g s H locs → lv_has ls 6 [(0, z_r N 6 0), (1, z_v x1), (2, z_v x2), (3, z_v x3), (4, z_v x4)] → K 0 x1 x2 x3 x4 g = some (r, g') → W p l e { frames := 3, cells := 0, slots := 0, locals := 68 } s m args below meth c H locs 0 0 (MQ below (zQi X N r g') args s 0 0 (zA X)) (F0 m 41 ls [])) {x1 : Int} {x2 : Int} {x3 : Int} {x4 : Int} {g : zG} (hw : zH X N g s H locs) (hl : lv_has ls 6 [(0, z_r N 6 0), (1, z_v x1), (2, z_v x2), (3, z_v x3), (4, z_v x4)]) (h : sX5_peak_j87 n K x1 x2 x3 x4 g = some (r, g')) : W p l e { frames := 3, cells := 0, slots := 0, locals := 68 } s m args below meth c H locs 0 0 (MQ below (zQi X N r g') args s 0 0 (zA X)) (F0 m 87 ls []) := by
  have hx := hF.1.1
  have hb := hF.1.2.1
  unfold sX5_peak_j87 at h
  refine lv_iconst hx hb dX5_peak_87 rfl ?_
  exact wX5_peak_j88 hF hr hK0  hw (lv_sub hl [0, 1, 2, 3, 4] rfl) h
set_option maxHeartbeats 4000000 in
set_option maxRecDepth 100000 in
theorem wX5_peak_h41 {p : Program} {l : Launch} {e : Env} {s : State} {m : MethodId} {args : Array Value} {below : List Frame} {meth : Method} {c : Code} {X : zC} {N : zN} {r : Int} {g' : zG} {H : Heap} {locs : List Loc} {ls : Array Slot} (hF : zF p s m args meth c X cX5_peak 6 RX5) (hr : meth.sig.returnType = (some .int)) {n : Nat} {K : Nat → Int → Int → Int → Int → zG → Option (Int × zG)} (hK0 : ∀ (x1 : Int) (x2 : Int) (x3 : Int) (x4 : Int) (g : zG) (H : Heap) (locs : List Loc) (ls : Array Slot), zH X N g s H locs → lv_has ls 6 [(0, z_r N 6 0), (1, z_v x1), (2, z_v x2), (3, z_v x3), (4, z_v x4)] → K 0 x1 x2 x3 x4 g = some (r, g') → W p l e { frames := 3, cells := 0, slots := 0, locals := 68 } s m args below meth c H locs 0 0 (MQ below (zQi X N r g') args s 0 0 (zA X)) (F0 m 41 ls [])) {x1 : Int} {x2 : Int} {x3 : Int} {x4 : Int} {g : zG} (hw : zH X N g s H locs) (hl : lv_has ls 6 [(0, z_r N 6 0), (1, z_v x1), (2, z_v x2), (3, z_v x3), (4, z_v x4)]) (h : sX5_peak_h41 n K x1 x2 x3 x4 g = some (r, g')) : W p l e { frames := 3, cells := 0, slots := 0, locals := 68 } s m args below meth c H locs 0 0 (MQ below (zQi X N r g') args s 0 0 (zA X)) (F0 m 41 ls []) := by
  have hx := hF.1.1
  have hb := hF.1.2.1
  unfold sX5_peak_h41 at h
  refine lv_iload hx hb dX5_peak_41 (lv_at hl 4 rfl) ?_
  refine lv_aload_n hx hb dX5_peak_43 rfl (lv_at hl 0 rfl) ?_
  refine zr_get hF hw zEf_6_0 (by decide) zC_6 1 (by decide) qw_823 rfl dX5_peak_44 ?_
  refine zr_icmp_ge (tgt := 109) hF h dX5_peak_47 (by decide) (fun h => ?_) (fun h => ?_)
  · refine lv_iload_n hx hb dX5_peak_109 rfl (lv_at hl 3 rfl) ?_
    exact zr_iret hF hr hw h dX5_peak_110
  · refine lv_aload_n hx hb dX5_peak_50 rfl (lv_at hl 0 rfl) ?_
    refine zr_get hF hw zEf_6_0 (by decide) zC_6 4 (by decide) qw_826 rfl dX5_peak_51 ?_
    refine lv_iload hx hb dX5_peak_54 (lv_at hl 4 rfl) ?_
    refine zr_iald hF hw zEf_22_0 (by decide) h dX5_peak_56 (fun h => ?_)
    refine lv_iconst hx hb dX5_peak_57 rfl ?_
    refine zr_icmp_eq (tgt := 87) hF h dX5_peak_58 (by decide) (fun h => ?_) (fun h => ?_)
    · exact wX5_peak_j87 hF hr hK0  hw (lv_sub hl [0, 1, 2, 3, 4] rfl) h
    · refine lv_aload_n hx hb dX5_peak_61 rfl (lv_at hl 0 rfl) ?_
      refine lv_iload hx hb dX5_peak_62 (lv_at hl 4 rfl) ?_
      refine lv_iload_n hx hb dX5_peak_64 rfl (lv_at hl 1 rfl) ?_
      obtain ⟨r1, g1, h1, h⟩ := zbd_some h
      refine zr_callVi (n := 2) (As := [z_v x4, z_v x1]) (rest := []) hF hw (czX5_enters l X N h1) zEf_6_0 (by decide) zC_6 (z_goodV qw_956 qw_958 qw_17 qw_42 qw_959) (by decide +kernel) ⟨Nat.le_of_ble_eq_true rfl, Nat.le_of_ble_eq_true rfl⟩ ⟨rfl, rfl⟩ rfl hl.1 rfl (Nat.le_of_ble_eq_true rfl) dX5_peak_65 ⟨Nat.le_of_ble_eq_true rfl, Nat.le_of_ble_eq_true rfl⟩ (fun H locs hw => ?_)
      clear h1
      generalize g1 = g at *
      refine zr_if_eq (tgt := 87) hF h dX5_peak_68 (by decide) (fun h => ?_) (fun h => ?_)
      · exact wX5_peak_j87 hF hr hK0  hw (lv_sub hl [0, 1, 2, 3, 4] rfl) h
      · refine lv_aload_n hx hb dX5_peak_71 rfl (lv_at hl 0 rfl) ?_
        refine lv_iload_n hx hb dX5_peak_72 rfl (lv_at hl 1 rfl) ?_
        refine lv_aload_n hx hb dX5_peak_73 rfl (lv_at hl 0 rfl) ?_
        refine lv_iload hx hb dX5_peak_74 (lv_at hl 4 rfl) ?_
        refine lv_iload_n hx hb dX5_peak_76 rfl (lv_at hl 1 rfl) ?_
        obtain ⟨r2, g1, h1, h⟩ := zbd_some h
        refine zr_callVi (n := 2) (As := [z_v x4, z_v x1]) (rest := [z_v x1, z_r N 6 0]) hF hw (czX5_overOf l X N h1) zEf_6_0 (by decide) zC_6 (z_goodV qw_960 qw_962 qw_18 qw_42 qw_963) (by decide +kernel) ⟨Nat.le_of_ble_eq_true rfl, Nat.le_of_ble_eq_true rfl⟩ ⟨rfl, rfl⟩ rfl hl.1 rfl (Nat.le_of_ble_eq_true rfl) dX5_peak_77 ⟨Nat.le_of_ble_eq_true rfl, Nat.le_of_ble_eq_true rfl⟩ (fun H locs hw => ?_)
        clear h1
        generalize g1 = g at *
        refine lv_iload_n hx hb dX5_peak_80 rfl (lv_at hl 2 rfl) ?_
        obtain ⟨r3, g1, h1, h⟩ := zbd_some h
        refine zr_callVi (n := 3) (As := [z_v x1, z_v r2, z_v x2]) (rest := []) hF hw (czX5_loadOf l X N h1) zEf_6_0 (by decide) zC_6 (z_goodV qw_968 qw_970 qw_19 qw_42 qw_971) (by decide +kernel) ⟨Nat.le_of_ble_eq_true rfl, Nat.le_of_ble_eq_true rfl⟩ ⟨rfl, rfl⟩ rfl hl.1 rfl (Nat.le_of_ble_eq_true rfl) dX5_peak_81 ⟨Nat.le_of_ble_eq_true rfl, Nat.le_of_ble_eq_true rfl⟩ (fun H locs hw => ?_)
        clear h1
        generalize g1 = g at *
        refine lv_goto (tgt := 88) hx hb dX5_peak_84 (by decide) ?_
        exact wX5_peak_j88 hF hr hK0  hw (lv_sub hl [0, 1, 2, 3, 4] rfl) h
set_option maxHeartbeats 4000000 in
set_option maxRecDepth 100000 in
theorem wX5_peak_run {p : Program} {l : Launch} {e : Env} {s : State} {m : MethodId} {args : Array Value} {below : List Frame} {meth : Method} {c : Code} {X : zC} {N : zN} {r : Int} {g' : zG} (hF : zF p s m args meth c X cX5_peak 6 RX5) (hr : meth.sig.returnType = (some .int)) {n0 : Nat} : ∀ n : Nat, (∀ (x1 : Int) (x2 : Int) (x3 : Int) (x4 : Int) (g : zG) (H : Heap) (locs : List Loc) (ls : Array Slot), zH X N g s H locs → lv_has ls 6 [(0, z_r N 6 0), (1, z_v x1), (2, z_v x2), (3, z_v x3), (4, z_v x4)] → sX5_peak_run n0 n 0 x1 x2 x3 x4 g = some (r, g') → W p l e { frames := 3, cells := 0, slots := 0, locals := 68 } s m args below meth c H locs 0 0 (MQ below (zQi X N r g') args s 0 0 (zA X)) (F0 m 41 ls [])) := by
  intro n
  induction n with
  | zero => exact fun _ _ _ _ _ _ _ _ _ _  h => (by cases h)
  | succ n ih => exact fun x1 x2 x3 x4 g H locs ls  hw hl h => wX5_peak_h41 hF hr ih  hw hl h
set_option maxHeartbeats 4000000 in
set_option maxRecDepth 100000 in
theorem czX5_peak (l : Launch) (X : zC) (N : zN) {n : Nat} {x1 : Int} {x2 : Int} {g g' : zG} {r : Int} (h : sX5_peak n x1 x2 g = some (r, g')) : zM l yX5_peak cX5_peak 6 (some .int) { frames := 3, cells := 0, slots := 0, locals := 68 } X N g [z_r N 6 0, z_v x1, z_v x2] (zQi X N r g') := by
  refine z_ofW (own := RX5) (by decide +kernel) rfl (Nat.le_of_ble_eq_true rfl) ?_
  intro p e s m args below meth c ls hF hr hw hl
  have hl : lv_has ls 6 [(0, z_r N 6 0), (1, z_v x1), (2, z_v x2)] := hl
  have hx := hF.1.1
  have hb := hF.1.2.1
  have hKK := wX5_peak_run hF hr (r := r) (g' := g') (X := X) (N := N) (n0 := n) (l := l) (e := e) (below := below) n
  have hK0 := hKK
  unfold sX5_peak at h
  generalize s.heap = H at hw ⊢
  generalize ([] : List Loc) = locs at hw ⊢
  refine lv_aload_n hx hb dX5_peak_0 rfl (lv_at hl 0 rfl) ?_
  refine lv_iload_n hx hb dX5_peak_1 rfl (lv_at hl 1 rfl) ?_
  obtain ⟨r1, g1, h1, h⟩ := zbd_some h
  refine zr_callSi (n := 1) (As := [z_v x1]) (rest := [z_r N 6 0]) hF hw (czX5_isSector l X N h1) (z_goodS qw_937 qw_938 qw_42 qw_939) (by decide +kernel) ⟨Nat.le_of_ble_eq_true rfl, Nat.le_of_ble_eq_true rfl⟩ ⟨rfl, rfl⟩ rfl hl.1 rfl (Nat.le_of_ble_eq_true rfl) dX5_peak_2 ⟨Nat.le_of_ble_eq_true rfl, Nat.le_of_ble_eq_true rfl⟩ (fun H locs hw => ?_)
  clear h1
  generalize g1 = g at *
  refine zr_if_ne (tgt := 12) hF h dX5_peak_5 (by decide) (fun h => ?_) (fun h => ?_)
  · refine lv_iload_n hx hb dX5_peak_12 rfl (lv_at hl 2 rfl) ?_
    refine lv_iconst hx hb dX5_peak_13 rfl ?_
    refine lv_sipush (v := Int32.ofInt (240)) hx hb dX5_peak_14 (by decide) ?_
    obtain ⟨r2, g1, h1, h⟩ := zbd_some h
    refine zr_callSi (n := 3) (As := [z_v x2, z_v 1, z_v 240]) (rest := [z_r N 6 0]) hF hw (czX5_isIn l X N h1) (z_goodS qw_922 qw_923 qw_42 qw_924) (by decide +kernel) ⟨Nat.le_of_ble_eq_true rfl, Nat.le_of_ble_eq_true rfl⟩ ⟨rfl, rfl⟩ rfl hl.1 rfl (Nat.le_of_ble_eq_true rfl) dX5_peak_17 ⟨Nat.le_of_ble_eq_true rfl, Nat.le_of_ble_eq_true rfl⟩ (fun H locs hw => ?_)
    clear h1
    generalize g1 = g at *
    refine zr_if_eq (tgt := 27) hF h dX5_peak_20 (by decide) (fun h => ?_) (fun h => ?_)
    · refine lv_iconst hx hb dX5_peak_27 rfl ?_
      exact wX5_peak_j28 hF hr hK0  hw (lv_sub hl [0, 1, 2] rfl) h
    · refine lv_iconst hx hb dX5_peak_23 rfl ?_
      refine lv_goto (tgt := 28) hx hb dX5_peak_24 (by decide) ?_
      exact wX5_peak_j28 hF hr hK0  hw (lv_sub hl [0, 1, 2] rfl) h
  · refine lv_iconst hx hb dX5_peak_8 rfl ?_
    refine lv_goto (tgt := 28) hx hb dX5_peak_9 (by decide) ?_
    exact wX5_peak_j28 hF hr hK0  hw (lv_sub hl [0, 1, 2] rfl) h
set_option maxHeartbeats 4000000 in
set_option maxRecDepth 100000 in
theorem czX5_peakAnew (l : Launch) (X : zC) (N : zN) {n : Nat} {x1 : Int} {x2 : Int} {g g' : zG} {r : Int} (h : sX5_peakAnew n x1 x2 g = some (r, g')) : zM l yX5_peakAnew cX5_peakAnew 3 (some .int) { frames := 4, cells := 0, slots := 0, locals := 93 } X N g [z_r N 6 0, z_v x1, z_v x2] (zQi X N r g') := by
  refine z_ofW (own := RX5) (by decide +kernel) rfl (Nat.le_of_ble_eq_true rfl) ?_
  intro p e s m args below meth c ls hF hr hw hl
  have hl : lv_has ls 3 [(0, z_r N 6 0), (1, z_v x1), (2, z_v x2)] := hl
  have hx := hF.1.1
  have hb := hF.1.2.1
  unfold sX5_peakAnew at h
  generalize s.heap = H at hw ⊢
  generalize ([] : List Loc) = locs at hw ⊢
  refine lv_aload_n hx hb dX5_peakAnew_0 rfl (lv_at hl 0 rfl) ?_
  refine lv_iload_n hx hb dX5_peakAnew_1 rfl (lv_at hl 1 rfl) ?_
  refine lv_iload_n hx hb dX5_peakAnew_2 rfl (lv_at hl 2 rfl) ?_
  obtain ⟨r1, g1, h1, h⟩ := zbd_some h
  refine zr_callVi (n := 2) (As := [z_v x1, z_v x2]) (rest := []) hF hw (czX5_peak l X N h1) zEf_6_0 (by decide) zC_6 (z_goodV qw_984 qw_977 qw_978 qw_42 qw_979) (by decide +kernel) ⟨Nat.le_of_ble_eq_true rfl, Nat.le_of_ble_eq_true rfl⟩ ⟨rfl, rfl⟩ rfl hl.1 rfl (Nat.le_of_ble_eq_true rfl) dX5_peakAnew_3 ⟨Nat.le_of_ble_eq_true rfl, Nat.le_of_ble_eq_true rfl⟩ (fun H locs hw => ?_)
  clear h1
  generalize g1 = g at *
  exact zr_iret hF hr hw h dX5_peakAnew_6
set_option maxHeartbeats 4000000 in
set_option maxRecDepth 100000 in
theorem czX5_isPart (l : Launch) (X : zC) (N : zN) {x0 : Int} {x1 : Int} {x2 : Int} {g g' : zG} {r : Int} (h : sX5_isPart x0 x1 x2 g = some (r, g')) : zM l yX5_isPart cX5_isPart 3 (some .boolean) { frames := 1, cells := 0, slots := 0, locals := 22 } X N g [z_v x0, z_v x1, z_v x2] (zQi X N r g') := by
  refine z_ofW (own := RX5) (by decide +kernel) rfl (Nat.le_of_ble_eq_true rfl) ?_
  intro p e s m args below meth c ls hF hr hw hl
  have hl : lv_has ls 3 [(0, z_v x0), (1, z_v x1), (2, z_v x2)] := hl
  have hx := hF.1.1
  have hb := hF.1.2.1
  unfold sX5_isPart at h
  generalize s.heap = H at hw ⊢
  generalize ([] : List Loc) = locs at hw ⊢
  refine lv_iload_n hx hb dX5_isPart_0 rfl (lv_at hl 0 rfl) ?_
  refine lv_iconst hx hb dX5_isPart_1 rfl ?_
  refine lv_sipush (v := Int32.ofInt (1439)) hx hb dX5_isPart_2 (by decide) ?_
  obtain ⟨r1, g1, h1, h⟩ := zbd_some h
  refine zr_callSi (n := 3) (As := [z_v x0, z_v 0, z_v 1439]) (rest := []) hF hw (czX5_isIn l X N h1) (z_goodS qw_922 qw_923 qw_42 qw_924) (by decide +kernel) ⟨Nat.le_of_ble_eq_true rfl, Nat.le_of_ble_eq_true rfl⟩ ⟨rfl, rfl⟩ rfl hl.1 rfl (Nat.le_of_ble_eq_true rfl) dX5_isPart_5 ⟨Nat.le_of_ble_eq_true rfl, Nat.le_of_ble_eq_true rfl⟩ (fun H locs hw => ?_)
  clear h1
  generalize g1 = g at *
  refine zr_if_eq (tgt := 38) hF h dX5_isPart_8 (by decide) (fun h => ?_) (fun h => ?_)
  · refine lv_iconst hx hb dX5_isPart_38 rfl ?_
    exact zr_zret hF hr hw h dX5_isPart_39
  · refine lv_iload_n hx hb dX5_isPart_11 rfl (lv_at hl 1 rfl) ?_
    refine lv_iload_n hx hb dX5_isPart_12 rfl (lv_at hl 0 rfl) ?_
    refine lv_iconst hx hb dX5_isPart_13 rfl ?_
    refine zr_iadd hF dX5_isPart_14 ?_
    refine lv_sipush (v := Int32.ofInt (1440)) hx hb dX5_isPart_15 (by decide) ?_
    obtain ⟨r2, g1, h1, h⟩ := zbd_some h
    refine zr_callSi (n := 3) (As := [z_v x1, z_v (x0 + 1), z_v 1440]) (rest := []) hF hw (czX5_isIn l X N h1) (z_goodS qw_922 qw_923 qw_42 qw_924) (by decide +kernel) ⟨Nat.le_of_ble_eq_true rfl, Nat.le_of_ble_eq_true rfl⟩ ⟨rfl, rfl⟩ rfl hl.1 rfl (Nat.le_of_ble_eq_true rfl) dX5_isPart_18 ⟨Nat.le_of_ble_eq_true rfl, Nat.le_of_ble_eq_true rfl⟩ (fun H locs hw => ?_)
    clear h1
    generalize g1 = g at *
    refine zr_if_eq (tgt := 38) hF h dX5_isPart_21 (by decide) (fun h => ?_) (fun h => ?_)
    · refine lv_iconst hx hb dX5_isPart_38 rfl ?_
      exact zr_zret hF hr hw h dX5_isPart_39
    · refine lv_iload_n hx hb dX5_isPart_24 rfl (lv_at hl 2 rfl) ?_
      refine lv_iconst hx hb dX5_isPart_25 rfl ?_
      refine lv_bipush (v := Int32.ofInt (60)) hx hb dX5_isPart_26 (by decide) ?_
      obtain ⟨r3, g1, h1, h⟩ := zbd_some h
      refine zr_callSi (n := 3) (As := [z_v x2, z_v 0, z_v 60]) (rest := []) hF hw (czX5_isIn l X N h1) (z_goodS qw_922 qw_923 qw_42 qw_924) (by decide +kernel) ⟨Nat.le_of_ble_eq_true rfl, Nat.le_of_ble_eq_true rfl⟩ ⟨rfl, rfl⟩ rfl hl.1 rfl (Nat.le_of_ble_eq_true rfl) dX5_isPart_28 ⟨Nat.le_of_ble_eq_true rfl, Nat.le_of_ble_eq_true rfl⟩ (fun H locs hw => ?_)
      clear h1
      generalize g1 = g at *
      refine zr_if_eq (tgt := 38) hF h dX5_isPart_31 (by decide) (fun h => ?_) (fun h => ?_)
      · refine lv_iconst hx hb dX5_isPart_38 rfl ?_
        exact zr_zret hF hr hw h dX5_isPart_39
      · refine lv_iconst hx hb dX5_isPart_34 rfl ?_
        refine lv_goto (tgt := 39) hx hb dX5_isPart_35 (by decide) ?_
        exact zr_zret hF hr hw h dX5_isPart_39
set_option maxHeartbeats 4000000 in
set_option maxRecDepth 100000 in
theorem czX5_lays (l : Launch) (X : zC) (N : zN) {x1 : Int} {x2 : Int} {x3 : Int} {x4 : Int} {x5 : Int} {g g' : zG} {r : Int} (h : sX5_lays x1 x2 x3 x4 x5 g = some (r, g')) : zM l yX5_lays cX5_lays 6 none { frames := 0, cells := 0, slots := 0, locals := 0 } X N g [z_r N 6 0, z_v x1, z_v x2, z_v x3, z_v x4, z_v x5] (zQv X N g') := by
  refine z_ofW (own := RX5) (by decide +kernel) rfl (Nat.le_of_ble_eq_true rfl) ?_
  intro p e s m args below meth c ls hF hr hw hl
  have hl : lv_has ls 6 [(0, z_r N 6 0), (1, z_v x1), (2, z_v x2), (3, z_v x3), (4, z_v x4), (5, z_v x5)] := hl
  have hx := hF.1.1
  have hb := hF.1.2.1
  unfold sX5_lays at h
  generalize s.heap = H at hw ⊢
  generalize ([] : List Loc) = locs at hw ⊢
  refine lv_aload_n hx hb dX5_lays_0 rfl (lv_at hl 0 rfl) ?_
  refine zr_get hF hw zEf_6_0 (by decide) zC_6 15 (by decide) qw_837 rfl dX5_lays_1 ?_
  refine lv_iload_n hx hb dX5_lays_4 rfl (lv_at hl 1 rfl) ?_
  refine lv_iload_n hx hb dX5_lays_5 rfl (lv_at hl 2 rfl) ?_
  refine zr_iast hF hw zEf_32_0 (by decide) h dX5_lays_6 (fun g H locs hw h => ?_)
  refine lv_aload_n hx hb dX5_lays_7 rfl (lv_at hl 0 rfl) ?_
  refine zr_get hF hw zEf_6_0 (by decide) zC_6 16 (by decide) qw_838 rfl dX5_lays_8 ?_
  refine lv_iload_n hx hb dX5_lays_11 rfl (lv_at hl 1 rfl) ?_
  refine lv_iload_n hx hb dX5_lays_12 rfl (lv_at hl 3 rfl) ?_
  refine zr_iast hF hw zEf_33_0 (by decide) h dX5_lays_13 (fun g H locs hw h => ?_)
  refine lv_aload_n hx hb dX5_lays_14 rfl (lv_at hl 0 rfl) ?_
  refine zr_get hF hw zEf_6_0 (by decide) zC_6 17 (by decide) qw_839 rfl dX5_lays_15 ?_
  refine lv_iload_n hx hb dX5_lays_18 rfl (lv_at hl 1 rfl) ?_
  refine lv_iload hx hb dX5_lays_19 (lv_at hl 4 rfl) ?_
  refine zr_iast hF hw zEf_34_0 (by decide) h dX5_lays_21 (fun g H locs hw h => ?_)
  refine lv_aload_n hx hb dX5_lays_22 rfl (lv_at hl 0 rfl) ?_
  refine zr_get hF hw zEf_6_0 (by decide) zC_6 18 (by decide) qw_840 rfl dX5_lays_23 ?_
  refine lv_iload_n hx hb dX5_lays_26 rfl (lv_at hl 1 rfl) ?_
  refine lv_iload hx hb dX5_lays_27 (lv_at hl 5 rfl) ?_
  refine zr_iast hF hw zEf_35_0 (by decide) h dX5_lays_29 (fun g H locs hw h => ?_)
  exact zr_vret hF hr hw h dX5_lays_30
set_option maxHeartbeats 4000000 in
set_option maxRecDepth 100000 in
theorem wX5_regulation_j40 {p : Program} {l : Launch} {e : Env} {s : State} {m : MethodId} {args : Array Value} {below : List Frame} {meth : Method} {c : Code} {X : zC} {N : zN} {r : Int} {g' : zG} {H : Heap} {locs : List Loc} {ls : Array Slot} (hF : zF p s m args meth c X cX5_regulation 5 RX5) (hr : meth.sig.returnType = (some .int)) {x1 : Int} {x2 : Int} {x3 : Int} {x4 : Int} {t1 : Int} {g : zG} (hw : zH X N g s H locs) (hl : lv_has ls 5 [(0, z_r N 6 0), (1, z_v x1), (2, z_v x2), (3, z_v x3), (4, z_v x4)]) (h : sX5_regulation_j40 x1 x2 x3 x4 t1 g = some (r, g')) : W p l e { frames := 2, cells := 0, slots := 0, locals := 44 } s m args below meth c H locs 0 0 (MQ below (zQi X N r g') args s 0 0 (zA X)) (F0 m 40 ls [z_v t1, z_r N 6 0]) := by
  have hx := hF.1.1
  have hb := hF.1.2.1
  unfold sX5_regulation_j40 at h
  obtain ⟨r1, g1, h1, h⟩ := zbd_some h
  refine zr_callVi (n := 1) (As := [z_v t1]) (rest := []) hF hw (czX5_holds l X N h1) zEf_6_0 (by decide) zC_6 (z_goodV qw_925 qw_927 qw_14 qw_42 qw_928) (by decide +kernel) ⟨Nat.le_of_ble_eq_true rfl, Nat.le_of_ble_eq_true rfl⟩ ⟨rfl, rfl⟩ rfl hl.1 rfl (Nat.le_of_ble_eq_true rfl) dX5_regulation_40 ⟨Nat.le_of_ble_eq_true rfl, Nat.le_of_ble_eq_true rfl⟩ (fun H locs hw => ?_)
  clear h1
  generalize g1 = g at *
  refine zr_if_ne (tgt := 48) hF h dX5_regulation_43 (by decide) (fun h => ?_) (fun h => ?_)
  · refine lv_aload_n hx hb dX5_regulation_48 rfl (lv_at hl 0 rfl) ?_
    refine lv_aload_n hx hb dX5_regulation_49 rfl (lv_at hl 0 rfl) ?_
    refine zr_get hF hw zEf_6_0 (by decide) zC_6 14 (by decide) qw_836 rfl dX5_regulation_50 ?_
    refine lv_iload_n hx hb dX5_regulation_53 rfl (lv_at hl 1 rfl) ?_
    refine lv_iload_n hx hb dX5_regulation_54 rfl (lv_at hl 2 rfl) ?_
    refine lv_iload_n hx hb dX5_regulation_55 rfl (lv_at hl 3 rfl) ?_
    refine lv_iload hx hb dX5_regulation_56 (lv_at hl 4 rfl) ?_
    obtain ⟨r2, g1, h1, h⟩ := zbd_some h
    refine zr_callVv (n := 5) (As := [z_v (g 6 0 14), z_v x1, z_v x2, z_v x3, z_v x4]) (rest := []) hF hw (czX5_lays l X N h1) zEf_6_0 (by decide) zC_6 (z_goodV qw_992 qw_994 qw_20 qw_42 qw_995) (by decide +kernel) ⟨Nat.le_of_ble_eq_true rfl, Nat.le_of_ble_eq_true rfl⟩ ⟨rfl, rfl⟩ rfl hl.1 rfl (Nat.le_of_ble_eq_true rfl) dX5_regulation_58 ⟨Nat.le_of_ble_eq_true rfl, Nat.le_of_ble_eq_true rfl⟩ (fun H locs hw => ?_)
    clear h1
    generalize g1 = g at *
    refine lv_aload_n hx hb dX5_regulation_61 rfl (lv_at hl 0 rfl) ?_
    refine lv_dup hx hb dX5_regulation_62 rfl ?_
    refine zr_get hF hw zEf_6_0 (by decide) zC_6 14 (by decide) qw_836 rfl dX5_regulation_63 ?_
    refine lv_iconst hx hb dX5_regulation_66 rfl ?_
    refine zr_iadd hF dX5_regulation_67 ?_
    refine zr_put hF hw zEf_6_0 (by decide) zC_6 14 (by decide) (by decide) qw_836 rfl (by decide +kernel) h dX5_regulation_68 (fun g H locs hw h => ?_)
    refine lv_aload_n hx hb dX5_regulation_71 rfl (lv_at hl 0 rfl) ?_
    refine zr_get hF hw zEf_6_0 (by decide) zC_6 14 (by decide) qw_836 rfl dX5_regulation_72 ?_
    refine lv_iconst hx hb dX5_regulation_75 rfl ?_
    refine zr_isub hF dX5_regulation_76 ?_
    exact zr_iret hF hr hw h dX5_regulation_77
  · refine lv_iconst hx hb dX5_regulation_46 rfl ?_
    exact zr_iret hF hr hw h dX5_regulation_47
set_option maxHeartbeats 4000000 in
set_option maxRecDepth 100000 in
theorem czX5_regulation (l : Launch) (X : zC) (N : zN) {x1 : Int} {x2 : Int} {x3 : Int} {x4 : Int} {g g' : zG} {r : Int} (h : sX5_regulation x1 x2 x3 x4 g = some (r, g')) : zM l yX5_regulation cX5_regulation 5 (some .int) { frames := 2, cells := 0, slots := 0, locals := 44 } X N g [z_r N 6 0, z_v x1, z_v x2, z_v x3, z_v x4] (zQi X N r g') := by
  refine z_ofW (own := RX5) (by decide +kernel) rfl (Nat.le_of_ble_eq_true rfl) ?_
  intro p e s m args below meth c ls hF hr hw hl
  have hl : lv_has ls 5 [(0, z_r N 6 0), (1, z_v x1), (2, z_v x2), (3, z_v x3), (4, z_v x4)] := hl
  have hx := hF.1.1
  have hb := hF.1.2.1
  unfold sX5_regulation at h
  generalize s.heap = H at hw ⊢
  generalize ([] : List Loc) = locs at hw ⊢
  refine lv_aload_n hx hb dX5_regulation_0 rfl (lv_at hl 0 rfl) ?_
  refine lv_iload_n hx hb dX5_regulation_1 rfl (lv_at hl 1 rfl) ?_
  obtain ⟨r1, g1, h1, h⟩ := zbd_some h
  refine zr_callSi (n := 1) (As := [z_v x1]) (rest := [z_r N 6 0]) hF hw (czX5_isSector l X N h1) (z_goodS qw_937 qw_938 qw_42 qw_939) (by decide +kernel) ⟨Nat.le_of_ble_eq_true rfl, Nat.le_of_ble_eq_true rfl⟩ ⟨rfl, rfl⟩ rfl hl.1 rfl (Nat.le_of_ble_eq_true rfl) dX5_regulation_2 ⟨Nat.le_of_ble_eq_true rfl, Nat.le_of_ble_eq_true rfl⟩ (fun H locs hw => ?_)
  clear h1
  generalize g1 = g at *
  refine zr_if_ne (tgt := 12) hF h dX5_regulation_5 (by decide) (fun h => ?_) (fun h => ?_)
  · refine lv_iload_n hx hb dX5_regulation_12 rfl (lv_at hl 2 rfl) ?_
    refine lv_iload_n hx hb dX5_regulation_13 rfl (lv_at hl 3 rfl) ?_
    refine lv_iload hx hb dX5_regulation_14 (lv_at hl 4 rfl) ?_
    obtain ⟨r2, g1, h1, h⟩ := zbd_some h
    refine zr_callSi (n := 3) (As := [z_v x2, z_v x3, z_v x4]) (rest := [z_r N 6 0]) hF hw (czX5_isPart l X N h1) (z_goodS qw_989 qw_990 qw_42 qw_991) (by decide +kernel) ⟨Nat.le_of_ble_eq_true rfl, Nat.le_of_ble_eq_true rfl⟩ ⟨rfl, rfl⟩ rfl hl.1 rfl (Nat.le_of_ble_eq_true rfl) dX5_regulation_16 ⟨Nat.le_of_ble_eq_true rfl, Nat.le_of_ble_eq_true rfl⟩ (fun H locs hw => ?_)
    clear h1
    generalize g1 = g at *
    refine zr_if_ne (tgt := 26) hF h dX5_regulation_19 (by decide) (fun h => ?_) (fun h => ?_)
    · refine lv_aload_n hx hb dX5_regulation_26 rfl (lv_at hl 0 rfl) ?_
      refine zr_get hF hw zEf_6_0 (by decide) zC_6 14 (by decide) qw_836 rfl dX5_regulation_27 ?_
      refine lv_bipush (v := Int32.ofInt (6)) hx hb dX5_regulation_30 (by decide) ?_
      refine zr_icmp_ne (tgt := 39) hF h dX5_regulation_32 (by decide) (fun h => ?_) (fun h => ?_)
      · refine lv_iconst hx hb dX5_regulation_39 rfl ?_
        exact wX5_regulation_j40 hF hr  hw (lv_sub hl [0, 1, 2, 3, 4] rfl) h
      · refine lv_iconst hx hb dX5_regulation_35 rfl ?_
        refine lv_goto (tgt := 40) hx hb dX5_regulation_36 (by decide) ?_
        exact wX5_regulation_j40 hF hr  hw (lv_sub hl [0, 1, 2, 3, 4] rfl) h
    · refine lv_iconst hx hb dX5_regulation_22 rfl ?_
      refine lv_goto (tgt := 40) hx hb dX5_regulation_23 (by decide) ?_
      exact wX5_regulation_j40 hF hr  hw (lv_sub hl [0, 1, 2, 3, 4] rfl) h
  · refine lv_iconst hx hb dX5_regulation_8 rfl ?_
    refine lv_goto (tgt := 40) hx hb dX5_regulation_9 (by decide) ?_
    exact wX5_regulation_j40 hF hr  hw (lv_sub hl [0, 1, 2, 3, 4] rfl) h
set_option maxHeartbeats 4000000 in
set_option maxRecDepth 100000 in
theorem wX5_rate_j43 {p : Program} {l : Launch} {e : Env} {s : State} {m : MethodId} {args : Array Value} {below : List Frame} {meth : Method} {c : Code} {X : zC} {N : zN} {r : Int} {g' : zG} {H : Heap} {locs : List Loc} {ls : Array Slot} (hF : zF p s m args meth c X cX5_rate 5 RX5) (hr : meth.sig.returnType = (some .int)) {x1 : Int} {x2 : Int} {t1 : Int} {g : zG} (hw : zH X N g s H locs) (hl : lv_has ls 5 [(0, z_r N 6 0), (1, z_v x1), (2, z_v x2)]) (h : sX5_rate_j43 x1 x2 t1 g = some (r, g')) : W p l e { frames := 2, cells := 0, slots := 0, locals := 43 } s m args below meth c H locs 0 0 (MQ below (zQi X N r g') args s 0 0 (zA X)) (F0 m 43 ls [z_v t1, z_r N 6 0]) := by
  have hx := hF.1.1
  have hb := hF.1.2.1
  unfold sX5_rate_j43 at h
  obtain ⟨r1, g1, h1, h⟩ := zbd_some h
  refine zr_callVi (n := 1) (As := [z_v t1]) (rest := []) hF hw (czX5_holds l X N h1) zEf_6_0 (by decide) zC_6 (z_goodV qw_925 qw_927 qw_14 qw_42 qw_928) (by decide +kernel) ⟨Nat.le_of_ble_eq_true rfl, Nat.le_of_ble_eq_true rfl⟩ ⟨rfl, rfl⟩ rfl hl.1 rfl (Nat.le_of_ble_eq_true rfl) dX5_rate_43 ⟨Nat.le_of_ble_eq_true rfl, Nat.le_of_ble_eq_true rfl⟩ (fun H locs hw => ?_)
  clear h1
  generalize g1 = g at *
  refine zr_if_ne (tgt := 51) hF h dX5_rate_46 (by decide) (fun h => ?_) (fun h => ?_)
  · refine lv_aload_n hx hb dX5_rate_51 rfl (lv_at hl 0 rfl) ?_
    refine zr_get hF hw zEf_6_0 (by decide) zC_6 18 (by decide) qw_840 rfl dX5_rate_52 ?_
    refine lv_iload_n hx hb dX5_rate_55 rfl (lv_at hl 1 rfl) ?_
    refine zr_iald hF hw zEf_35_0 (by decide) h dX5_rate_56 (fun h => ?_)
    refine zr_let h (fun v2 h => ?_)
    refine lv_istore (lv' := [(4, z_v v2), (0, z_r N 6 0), (1, z_v x1), (2, z_v x2)]) hx hb dX5_rate_57 hl (by decide) rfl (fun ls hl => ?_)
    refine lv_aload_n hx hb dX5_rate_59 rfl (lv_at hl 1 rfl) ?_
    refine zr_get hF hw zEf_6_0 (by decide) zC_6 18 (by decide) qw_840 rfl dX5_rate_60 ?_
    refine lv_iload_n hx hb dX5_rate_63 rfl (lv_at hl 2 rfl) ?_
    refine lv_iload_n hx hb dX5_rate_64 rfl (lv_at hl 3 rfl) ?_
    refine zr_iast hF hw zEf_35_0 (by decide) h dX5_rate_65 (fun g H locs hw h => ?_)
    refine lv_iload hx hb dX5_rate_66 (lv_at hl 0 rfl) ?_
    exact zr_iret hF hr hw h dX5_rate_68
  · refine lv_iconst hx hb dX5_rate_49 rfl ?_
    exact zr_iret hF hr hw h dX5_rate_50
set_option maxHeartbeats 4000000 in
set_option maxRecDepth 100000 in
theorem czX5_rate (l : Launch) (X : zC) (N : zN) {x1 : Int} {x2 : Int} {g g' : zG} {r : Int} (h : sX5_rate x1 x2 g = some (r, g')) : zM l yX5_rate cX5_rate 5 (some .int) { frames := 2, cells := 0, slots := 0, locals := 43 } X N g [z_r N 6 0, z_v x1, z_v x2] (zQi X N r g') := by
  refine z_ofW (own := RX5) (by decide +kernel) rfl (Nat.le_of_ble_eq_true rfl) ?_
  intro p e s m args below meth c ls hF hr hw hl
  have hl : lv_has ls 5 [(0, z_r N 6 0), (1, z_v x1), (2, z_v x2)] := hl
  have hx := hF.1.1
  have hb := hF.1.2.1
  unfold sX5_rate at h
  generalize s.heap = H at hw ⊢
  generalize ([] : List Loc) = locs at hw ⊢
  refine lv_aload_n hx hb dX5_rate_0 rfl (lv_at hl 0 rfl) ?_
  refine lv_iload_n hx hb dX5_rate_1 rfl (lv_at hl 1 rfl) ?_
  obtain ⟨r1, g1, h1, h⟩ := zbd_some h
  refine zr_callVi (n := 1) (As := [z_v x1]) (rest := []) hF hw (czX5_isRegulation l X N h1) zEf_6_0 (by decide) zC_6 (z_goodV qw_1000 qw_1002 qw_21 qw_42 qw_1003) (by decide +kernel) ⟨Nat.le_of_ble_eq_true rfl, Nat.le_of_ble_eq_true rfl⟩ ⟨rfl, rfl⟩ rfl hl.1 rfl (Nat.le_of_ble_eq_true rfl) dX5_rate_2 ⟨Nat.le_of_ble_eq_true rfl, Nat.le_of_ble_eq_true rfl⟩ (fun H locs hw => ?_)
  clear h1
  generalize g1 = g at *
  refine lv_istore_n (lv' := [(3, z_v r1), (0, z_r N 6 0), (1, z_v x1), (2, z_v x2)]) hx hb dX5_rate_5 rfl hl (by decide) rfl (fun ls hl => ?_)
  refine lv_aload_n hx hb dX5_rate_6 rfl (lv_at hl 1 rfl) ?_
  refine lv_iload_n hx hb dX5_rate_7 rfl (lv_at hl 0 rfl) ?_
  refine zr_if_ne (tgt := 15) hF h dX5_rate_8 (by decide) (fun h => ?_) (fun h => ?_)
  · refine lv_iload_n hx hb dX5_rate_15 rfl (lv_at hl 3 rfl) ?_
    refine lv_iconst hx hb dX5_rate_16 rfl ?_
    refine lv_bipush (v := Int32.ofInt (60)) hx hb dX5_rate_17 (by decide) ?_
    obtain ⟨r2, g1, h1, h⟩ := zbd_some h
    refine zr_callSi (n := 3) (As := [z_v x2, z_v 0, z_v 60]) (rest := [z_r N 6 0]) hF hw (czX5_isIn l X N h1) (z_goodS qw_922 qw_923 qw_42 qw_924) (by decide +kernel) ⟨Nat.le_of_ble_eq_true rfl, Nat.le_of_ble_eq_true rfl⟩ ⟨rfl, rfl⟩ rfl hl.1 rfl (Nat.le_of_ble_eq_true rfl) dX5_rate_19 ⟨Nat.le_of_ble_eq_true rfl, Nat.le_of_ble_eq_true rfl⟩ (fun H locs hw => ?_)
    clear h1
    generalize g1 = g at *
    refine zr_if_ne (tgt := 29) hF h dX5_rate_22 (by decide) (fun h => ?_) (fun h => ?_)
    · refine lv_aload_n hx hb dX5_rate_29 rfl (lv_at hl 1 rfl) ?_
      refine zr_get hF hw zEf_6_0 (by decide) zC_6 20 (by decide) qw_842 rfl dX5_rate_30 ?_
      refine lv_iload_n hx hb dX5_rate_33 rfl (lv_at hl 2 rfl) ?_
      refine zr_zald hF hw zEf_37_0 (by decide) h dX5_rate_34 (fun h => ?_)
      refine zr_if_eq (tgt := 42) hF h dX5_rate_35 (by decide) (fun h => ?_) (fun h => ?_)
      · refine lv_iconst hx hb dX5_rate_42 rfl ?_
        exact wX5_rate_j43 hF hr  hw (lv_sub hl [1, 2, 3] rfl) h
      · refine lv_iconst hx hb dX5_rate_38 rfl ?_
        refine lv_goto (tgt := 43) hx hb dX5_rate_39 (by decide) ?_
        exact wX5_rate_j43 hF hr  hw (lv_sub hl [1, 2, 3] rfl) h
    · refine lv_iconst hx hb dX5_rate_25 rfl ?_
      refine lv_goto (tgt := 43) hx hb dX5_rate_26 (by decide) ?_
      exact wX5_rate_j43 hF hr  hw (lv_sub hl [1, 2, 3] rfl) h
  · refine lv_iconst hx hb dX5_rate_11 rfl ?_
    refine lv_goto (tgt := 43) hx hb dX5_rate_12 (by decide) ?_
    exact wX5_rate_j43 hF hr  hw (lv_sub hl [1, 2, 3] rfl) h
set_option maxHeartbeats 4000000 in
set_option maxRecDepth 100000 in
theorem wX5_end_j29 {p : Program} {l : Launch} {e : Env} {s : State} {m : MethodId} {args : Array Value} {below : List Frame} {meth : Method} {c : Code} {X : zC} {N : zN} {r : Int} {g' : zG} {H : Heap} {locs : List Loc} {ls : Array Slot} (hF : zF p s m args meth c X cX5_end 3 RX5) (hr : meth.sig.returnType = none) {x1 : Int} {t1 : Int} {g : zG} (hw : zH X N g s H locs) (hl : lv_has ls 3 [(0, z_r N 6 0), (1, z_v x1)]) (h : sX5_end_j29 x1 t1 g = some (r, g')) : W p l e { frames := 2, cells := 0, slots := 0, locals := 43 } s m args below meth c H locs 0 0 (MQ below (zQv X N g') args s 0 0 (zA X)) (F0 m 29 ls [z_v t1, z_r N 6 0]) := by
  have hx := hF.1.1
  have hb := hF.1.2.1
  unfold sX5_end_j29 at h
  obtain ⟨r1, g1, h1, h⟩ := zbd_some h
  refine zr_callVi (n := 1) (As := [z_v t1]) (rest := []) hF hw (czX5_holds l X N h1) zEf_6_0 (by decide) zC_6 (z_goodV qw_925 qw_927 qw_14 qw_42 qw_928) (by decide +kernel) ⟨Nat.le_of_ble_eq_true rfl, Nat.le_of_ble_eq_true rfl⟩ ⟨rfl, rfl⟩ rfl hl.1 rfl (Nat.le_of_ble_eq_true rfl) dX5_end_29 ⟨Nat.le_of_ble_eq_true rfl, Nat.le_of_ble_eq_true rfl⟩ (fun H locs hw => ?_)
  clear h1
  generalize g1 = g at *
  refine zr_if_eq (tgt := 42) hF h dX5_end_32 (by decide) (fun h => ?_) (fun h => ?_)
  · exact zr_vret hF hr hw h dX5_end_42
  · refine lv_aload_n hx hb dX5_end_35 rfl (lv_at hl 0 rfl) ?_
    refine zr_get hF hw zEf_6_0 (by decide) zC_6 20 (by decide) qw_842 rfl dX5_end_36 ?_
    refine lv_iload_n hx hb dX5_end_39 rfl (lv_at hl 1 rfl) ?_
    refine lv_iconst hx hb dX5_end_40 rfl ?_
    refine zr_zast hF hw zEf_37_0 (by decide) h dX5_end_41 (fun g H locs hw h => ?_)
    exact zr_vret hF hr hw h dX5_end_42
set_option maxHeartbeats 4000000 in
set_option maxRecDepth 100000 in
theorem czX5_end (l : Launch) (X : zC) (N : zN) {x1 : Int} {g g' : zG} {r : Int} (h : sX5_end x1 g = some (r, g')) : zM l yX5_end cX5_end 3 none { frames := 2, cells := 0, slots := 0, locals := 43 } X N g [z_r N 6 0, z_v x1] (zQv X N g') := by
  refine z_ofW (own := RX5) (by decide +kernel) rfl (Nat.le_of_ble_eq_true rfl) ?_
  intro p e s m args below meth c ls hF hr hw hl
  have hl : lv_has ls 3 [(0, z_r N 6 0), (1, z_v x1)] := hl
  have hx := hF.1.1
  have hb := hF.1.2.1
  unfold sX5_end at h
  generalize s.heap = H at hw ⊢
  generalize ([] : List Loc) = locs at hw ⊢
  refine lv_aload_n hx hb dX5_end_0 rfl (lv_at hl 0 rfl) ?_
  refine lv_iload_n hx hb dX5_end_1 rfl (lv_at hl 1 rfl) ?_
  obtain ⟨r1, g1, h1, h⟩ := zbd_some h
  refine zr_callVi (n := 1) (As := [z_v x1]) (rest := []) hF hw (czX5_isRegulation l X N h1) zEf_6_0 (by decide) zC_6 (z_goodV qw_1000 qw_1002 qw_21 qw_42 qw_1003) (by decide +kernel) ⟨Nat.le_of_ble_eq_true rfl, Nat.le_of_ble_eq_true rfl⟩ ⟨rfl, rfl⟩ rfl hl.1 rfl (Nat.le_of_ble_eq_true rfl) dX5_end_2 ⟨Nat.le_of_ble_eq_true rfl, Nat.le_of_ble_eq_true rfl⟩ (fun H locs hw => ?_)
  clear h1
  generalize g1 = g at *
  refine lv_istore_n (lv' := [(2, z_v r1), (0, z_r N 6 0), (1, z_v x1)]) hx hb dX5_end_5 rfl hl (by decide) rfl (fun ls hl => ?_)
  refine lv_aload_n hx hb dX5_end_6 rfl (lv_at hl 1 rfl) ?_
  refine lv_iload_n hx hb dX5_end_7 rfl (lv_at hl 0 rfl) ?_
  refine zr_if_ne (tgt := 15) hF h dX5_end_8 (by decide) (fun h => ?_) (fun h => ?_)
  · refine lv_aload_n hx hb dX5_end_15 rfl (lv_at hl 1 rfl) ?_
    refine zr_get hF hw zEf_6_0 (by decide) zC_6 20 (by decide) qw_842 rfl dX5_end_16 ?_
    refine lv_iload_n hx hb dX5_end_19 rfl (lv_at hl 2 rfl) ?_
    refine zr_zald hF hw zEf_37_0 (by decide) h dX5_end_20 (fun h => ?_)
    refine zr_if_eq (tgt := 28) hF h dX5_end_21 (by decide) (fun h => ?_) (fun h => ?_)
    · refine lv_iconst hx hb dX5_end_28 rfl ?_
      exact wX5_end_j29 hF hr  hw (lv_sub hl [1, 2] rfl) h
    · refine lv_iconst hx hb dX5_end_24 rfl ?_
      refine lv_goto (tgt := 29) hx hb dX5_end_25 (by decide) ?_
      exact wX5_end_j29 hF hr  hw (lv_sub hl [1, 2] rfl) h
  · refine lv_iconst hx hb dX5_end_11 rfl ?_
    refine lv_goto (tgt := 29) hx hb dX5_end_12 (by decide) ?_
    exact wX5_end_j29 hF hr  hw (lv_sub hl [1, 2] rfl) h
set_option maxHeartbeats 4000000 in
set_option maxRecDepth 100000 in
theorem czX5_begin (l : Launch) (X : zC) (N : zN) {x1 : Int} {x2 : Int} {g g' : zG} {r : Int} (h : sX5_begin x1 x2 g = some (r, g')) : zM l yX5_begin cX5_begin 3 (some .int) { frames := 0, cells := 0, slots := 0, locals := 0 } X N g [z_r N 6 0, z_v x1, z_v x2] (zQi X N r g') := by
  refine z_ofW (own := RX5) (by decide +kernel) rfl (Nat.le_of_ble_eq_true rfl) ?_
  intro p e s m args below meth c ls hF hr hw hl
  have hl : lv_has ls 3 [(0, z_r N 6 0), (1, z_v x1), (2, z_v x2)] := hl
  have hx := hF.1.1
  have hb := hF.1.2.1
  unfold sX5_begin at h
  generalize s.heap = H at hw ⊢
  generalize ([] : List Loc) = locs at hw ⊢
  refine lv_aload_n hx hb dX5_begin_0 rfl (lv_at hl 0 rfl) ?_
  refine zr_get hF hw zEf_6_0 (by decide) zC_6 16 (by decide) qw_838 rfl dX5_begin_1 ?_
  refine lv_iload_n hx hb dX5_begin_4 rfl (lv_at hl 1 rfl) ?_
  refine zr_iald hF hw zEf_33_0 (by decide) h dX5_begin_5 (fun h => ?_)
  refine lv_bipush (v := Int32.ofInt (60)) hx hb dX5_begin_6 (by decide) ?_
  refine lv_iload_n hx hb dX5_begin_8 rfl (lv_at hl 2 rfl) ?_
  refine zr_imul hF dX5_begin_9 ?_
  refine lv_aload_n hx hb dX5_begin_10 rfl (lv_at hl 0 rfl) ?_
  refine zr_get hF hw zEf_6_0 (by decide) zC_6 18 (by decide) qw_840 rfl dX5_begin_11 ?_
  refine lv_iload_n hx hb dX5_begin_14 rfl (lv_at hl 1 rfl) ?_
  refine zr_iald hF hw zEf_35_0 (by decide) h dX5_begin_15 (fun h => ?_)
  refine zr_idiv hF h dX5_begin_16 (fun h => ?_)
  refine zr_iadd hF dX5_begin_17 ?_
  exact zr_iret hF hr hw h dX5_begin_18
set_option maxHeartbeats 4000000 in
set_option maxRecDepth 100000 in
theorem czX5_ending (l : Launch) (X : zC) (N : zN) {x1 : Int} {x2 : Int} {g g' : zG} {r : Int} (h : sX5_ending x1 x2 g = some (r, g')) : zM l yX5_ending cX5_ending 3 (some .int) { frames := 1, cells := 0, slots := 0, locals := 22 } X N g [z_r N 6 0, z_v x1, z_v x2] (zQi X N r g') := by
  refine z_ofW (own := RX5) (by decide +kernel) rfl (Nat.le_of_ble_eq_true rfl) ?_
  intro p e s m args below meth c ls hF hr hw hl
  have hl : lv_has ls 3 [(0, z_r N 6 0), (1, z_v x1), (2, z_v x2)] := hl
  have hx := hF.1.1
  have hb := hF.1.2.1
  unfold sX5_ending at h
  generalize s.heap = H at hw ⊢
  generalize ([] : List Loc) = locs at hw ⊢
  refine lv_iload_n hx hb dX5_ending_0 rfl (lv_at hl 2 rfl) ?_
  refine lv_iconst hx hb dX5_ending_1 rfl ?_
  refine zr_iadd hF dX5_ending_2 ?_
  refine lv_aload_n hx hb dX5_ending_3 rfl (lv_at hl 0 rfl) ?_
  refine zr_get hF hw zEf_6_0 (by decide) zC_6 24 (by decide) qw_846 rfl dX5_ending_4 ?_
  refine zr_icmp_ge (tgt := 21) hF h dX5_ending_7 (by decide) (fun h => ?_) (fun h => ?_)
  · refine lv_aload_n hx hb dX5_ending_21 rfl (lv_at hl 0 rfl) ?_
    refine zr_get hF hw zEf_6_0 (by decide) zC_6 17 (by decide) qw_839 rfl dX5_ending_22 ?_
    refine lv_iload_n hx hb dX5_ending_25 rfl (lv_at hl 1 rfl) ?_
    refine zr_iald hF hw zEf_34_0 (by decide) h dX5_ending_26 (fun h => ?_)
    exact zr_iret hF hr hw h dX5_ending_27
  · refine lv_aload_n hx hb dX5_ending_10 rfl (lv_at hl 0 rfl) ?_
    refine lv_iload_n hx hb dX5_ending_11 rfl (lv_at hl 1 rfl) ?_
    refine lv_iload_n hx hb dX5_ending_12 rfl (lv_at hl 2 rfl) ?_
    refine lv_iconst hx hb dX5_ending_13 rfl ?_
    refine zr_iadd hF dX5_ending_14 ?_
    obtain ⟨r1, g1, h1, h⟩ := zbd_some h
    refine zr_callVi (n := 2) (As := [z_v x1, z_v (x2 + 1)]) (rest := []) hF hw (czX5_begin l X N h1) zEf_6_0 (by decide) zC_6 (z_goodV qw_1016 qw_1018 qw_23 qw_42 qw_1019) (by decide +kernel) ⟨Nat.le_of_ble_eq_true rfl, Nat.le_of_ble_eq_true rfl⟩ ⟨rfl, rfl⟩ rfl hl.1 rfl (Nat.le_of_ble_eq_true rfl) dX5_ending_15 ⟨Nat.le_of_ble_eq_true rfl, Nat.le_of_ble_eq_true rfl⟩ (fun H locs hw => ?_)
    clear h1
    generalize g1 = g at *
    refine lv_goto (tgt := 27) hx hb dX5_ending_18 (by decide) ?_
    exact zr_iret hF hr hw h dX5_ending_27
set_option maxHeartbeats 4000000 in
set_option maxRecDepth 100000 in
theorem wX5_timeOf_j112 {p : Program} {l : Launch} {e : Env} {s : State} {m : MethodId} {args : Array Value} {below : List Frame} {meth : Method} {c : Code} {X : zC} {N : zN} {r : Int} {g' : zG} {H : Heap} {locs : List Loc} {ls : Array Slot} (hF : zF p s m args meth c X cX5_timeOf 7 RX5) (hr : meth.sig.returnType = (some .int)) {x1 : Int} {x5 : Int} {t0 : Int} {g : zG} (hw : zH X N g s H locs) (hl : lv_has ls 7 [(0, z_r N 6 0), (1, z_v x1), (5, z_v x5)]) (h : sX5_timeOf_j112 x1 x5 t0 g = some (r, g')) : W p l e { frames := 2, cells := 0, slots := 0, locals := 43 } s m args below meth c H locs 0 0 (MQ below (zQi X N r g') args s 0 0 (zA X)) (F0 m 112 ls [z_v t0]) := by
  have hx := hF.1.1
  have hb := hF.1.2.1
  unfold sX5_timeOf_j112 at h
  refine lv_istore (lv' := [(6, z_v t0), (0, z_r N 6 0), (1, z_v x1), (5, z_v x5)]) hx hb dX5_timeOf_112 hl (by decide) rfl (fun ls hl => ?_)
  refine lv_iload hx hb dX5_timeOf_114 (lv_at hl 3 rfl) ?_
  refine zr_if_eq (tgt := 146) hF h dX5_timeOf_116 (by decide) (fun h => ?_) (fun h => ?_)
  · refine lv_iconst hx hb dX5_timeOf_146 rfl ?_
    exact zr_iret hF hr hw h dX5_timeOf_147
  · refine lv_iload hx hb dX5_timeOf_119 (lv_at hl 0 rfl) ?_
    refine lv_aload_n hx hb dX5_timeOf_121 rfl (lv_at hl 1 rfl) ?_
    refine zr_get hF hw zEf_6_0 (by decide) zC_6 16 (by decide) qw_838 rfl dX5_timeOf_122 ?_
    refine lv_iload_n hx hb dX5_timeOf_125 rfl (lv_at hl 2 rfl) ?_
    refine zr_iald hF hw zEf_33_0 (by decide) h dX5_timeOf_126 (fun h => ?_)
    refine zr_icmp_lt (tgt := 146) hF h dX5_timeOf_127 (by decide) (fun h => ?_) (fun h => ?_)
    · refine lv_iconst hx hb dX5_timeOf_146 rfl ?_
      exact zr_iret hF hr hw h dX5_timeOf_147
    · refine lv_iload hx hb dX5_timeOf_130 (lv_at hl 0 rfl) ?_
      refine lv_aload_n hx hb dX5_timeOf_132 rfl (lv_at hl 1 rfl) ?_
      refine zr_get hF hw zEf_6_0 (by decide) zC_6 17 (by decide) qw_839 rfl dX5_timeOf_133 ?_
      refine lv_iload_n hx hb dX5_timeOf_136 rfl (lv_at hl 2 rfl) ?_
      refine zr_iald hF hw zEf_34_0 (by decide) h dX5_timeOf_137 (fun h => ?_)
      refine zr_icmp_ge (tgt := 146) hF h dX5_timeOf_138 (by decide) (fun h => ?_) (fun h => ?_)
      · refine lv_iconst hx hb dX5_timeOf_146 rfl ?_
        exact zr_iret hF hr hw h dX5_timeOf_147
      · refine lv_iload hx hb dX5_timeOf_141 (lv_at hl 0 rfl) ?_
        refine lv_goto (tgt := 147) hx hb dX5_timeOf_143 (by decide) ?_
        exact zr_iret hF hr hw h dX5_timeOf_147
set_option maxHeartbeats 4000000 in
set_option maxRecDepth 100000 in
theorem wX5_timeOf_j83 {p : Program} {l : Launch} {e : Env} {s : State} {m : MethodId} {args : Array Value} {below : List Frame} {meth : Method} {c : Code} {X : zC} {N : zN} {r : Int} {g' : zG} {H : Heap} {locs : List Loc} {ls : Array Slot} (hF : zF p s m args meth c X cX5_timeOf 7 RX5) (hr : meth.sig.returnType = (some .int)) {x1 : Int} {x2 : Int} {x4 : Int} {t0 : Int} {g : zG} (hw : zH X N g s H locs) (hl : lv_has ls 7 [(0, z_r N 6 0), (1, z_v x1), (2, z_v x2), (4, z_v x4)]) (h : sX5_timeOf_j83 x1 x2 x4 t0 g = some (r, g')) : W p l e { frames := 2, cells := 0, slots := 0, locals := 43 } s m args below meth c H locs 0 0 (MQ below (zQi X N r g') args s 0 0 (zA X)) (F0 m 83 ls [z_v t0]) := by
  have hx := hF.1.1
  have hb := hF.1.2.1
  unfold sX5_timeOf_j83 at h
  refine lv_istore (lv' := [(5, z_v t0), (0, z_r N 6 0), (1, z_v x1), (2, z_v x2), (4, z_v x4)]) hx hb dX5_timeOf_83 hl (by decide) rfl (fun ls hl => ?_)
  refine lv_aload_n hx hb dX5_timeOf_85 rfl (lv_at hl 1 rfl) ?_
  refine zr_get hF hw zEf_6_0 (by decide) zC_6 4 (by decide) qw_826 rfl dX5_timeOf_86 ?_
  refine lv_iload_n hx hb dX5_timeOf_89 rfl (lv_at hl 3 rfl) ?_
  refine zr_iald hF hw zEf_22_0 (by decide) h dX5_timeOf_90 (fun h => ?_)
  refine lv_iconst hx hb dX5_timeOf_91 rfl ?_
  refine zr_icmp_ne (tgt := 105) hF h dX5_timeOf_92 (by decide) (fun h => ?_) (fun h => ?_)
  · refine lv_aload_n hx hb dX5_timeOf_105 rfl (lv_at hl 1 rfl) ?_
    refine lv_iload_n hx hb dX5_timeOf_106 rfl (lv_at hl 3 rfl) ?_
    refine lv_iload hx hb dX5_timeOf_107 (lv_at hl 4 rfl) ?_
    obtain ⟨r1, g1, h1, h⟩ := zbd_some h
    refine zr_callVi (n := 2) (As := [z_v x2, z_v x4]) (rest := []) hF hw (czX5_plannedOver l X N h1) zEf_6_0 (by decide) zC_6 (z_goodV qw_1028 qw_1030 qw_26 qw_42 qw_1031) (by decide +kernel) ⟨Nat.le_of_ble_eq_true rfl, Nat.le_of_ble_eq_true rfl⟩ ⟨rfl, rfl⟩ rfl hl.1 rfl (Nat.le_of_ble_eq_true rfl) dX5_timeOf_109 ⟨Nat.le_of_ble_eq_true rfl, Nat.le_of_ble_eq_true rfl⟩ (fun H locs hw => ?_)
    clear h1
    generalize g1 = g at *
    exact wX5_timeOf_j112 hF hr  hw (lv_sub hl [1, 2, 0] rfl) h
  · refine lv_aload_n hx hb dX5_timeOf_95 rfl (lv_at hl 1 rfl) ?_
    refine lv_iload_n hx hb dX5_timeOf_96 rfl (lv_at hl 3 rfl) ?_
    refine lv_iload hx hb dX5_timeOf_97 (lv_at hl 4 rfl) ?_
    obtain ⟨r2, g1, h1, h⟩ := zbd_some h
    refine zr_callVi (n := 2) (As := [z_v x2, z_v x4]) (rest := []) hF hw (czX5_overOf l X N h1) zEf_6_0 (by decide) zC_6 (z_goodV qw_960 qw_962 qw_18 qw_42 qw_963) (by decide +kernel) ⟨Nat.le_of_ble_eq_true rfl, Nat.le_of_ble_eq_true rfl⟩ ⟨rfl, rfl⟩ rfl hl.1 rfl (Nat.le_of_ble_eq_true rfl) dX5_timeOf_99 ⟨Nat.le_of_ble_eq_true rfl, Nat.le_of_ble_eq_true rfl⟩ (fun H locs hw => ?_)
    clear h1
    generalize g1 = g at *
    refine lv_goto (tgt := 112) hx hb dX5_timeOf_102 (by decide) ?_
    exact wX5_timeOf_j112 hF hr  hw (lv_sub hl [1, 2, 0] rfl) h
set_option maxHeartbeats 4000000 in
set_option maxRecDepth 100000 in
theorem wX5_timeOf_j52 {p : Program} {l : Launch} {e : Env} {s : State} {m : MethodId} {args : Array Value} {below : List Frame} {meth : Method} {c : Code} {X : zC} {N : zN} {r : Int} {g' : zG} {H : Heap} {locs : List Loc} {ls : Array Slot} (hF : zF p s m args meth c X cX5_timeOf 7 RX5) (hr : meth.sig.returnType = (some .int)) {x1 : Int} {x2 : Int} {x4 : Int} {g : zG} (hw : zH X N g s H locs) (hl : lv_has ls 7 [(0, z_r N 6 0), (1, z_v x1), (2, z_v x2), (4, z_v x4)]) (h : sX5_timeOf_j52 x1 x2 x4 g = some (r, g')) : W p l e { frames := 2, cells := 0, slots := 0, locals := 43 } s m args below meth c H locs 0 0 (MQ below (zQi X N r g') args s 0 0 (zA X)) (F0 m 52 ls []) := by
  have hx := hF.1.1
  have hb := hF.1.2.1
  unfold sX5_timeOf_j52 at h
  refine lv_iconst hx hb dX5_timeOf_52 rfl ?_
  refine lv_goto (tgt := 83) hx hb dX5_timeOf_53 (by decide) ?_
  exact wX5_timeOf_j83 hF hr  hw (lv_sub hl [0, 1, 2, 3] rfl) h
set_option maxHeartbeats 4000000 in
set_option maxRecDepth 100000 in
theorem wX5_timeOf_j56 {p : Program} {l : Launch} {e : Env} {s : State} {m : MethodId} {args : Array Value} {below : List Frame} {meth : Method} {c : Code} {X : zC} {N : zN} {r : Int} {g' : zG} {H : Heap} {locs : List Loc} {ls : Array Slot} (hF : zF p s m args meth c X cX5_timeOf 7 RX5) (hr : meth.sig.returnType = (some .int)) {x1 : Int} {x2 : Int} {x4 : Int} {g : zG} (hw : zH X N g s H locs) (hl : lv_has ls 7 [(0, z_r N 6 0), (1, z_v x1), (2, z_v x2), (4, z_v x4)]) (h : sX5_timeOf_j56 x1 x2 x4 g = some (r, g')) : W p l e { frames := 2, cells := 0, slots := 0, locals := 43 } s m args below meth c H locs 0 0 (MQ below (zQi X N r g') args s 0 0 (zA X)) (F0 m 56 ls []) := by
  have hx := hF.1.1
  have hb := hF.1.2.1
  unfold sX5_timeOf_j56 at h
  refine lv_iconst hx hb dX5_timeOf_56 rfl ?_
  refine lv_goto (tgt := 83) hx hb dX5_timeOf_57 (by decide) ?_
  exact wX5_timeOf_j83 hF hr  hw (lv_sub hl [0, 1, 2, 3] rfl) h
set_option maxHeartbeats 4000000 in
set_option maxRecDepth 100000 in
theorem wX5_timeOf_j82 {p : Program} {l : Launch} {e : Env} {s : State} {m : MethodId} {args : Array Value} {below : List Frame} {meth : Method} {c : Code} {X : zC} {N : zN} {r : Int} {g' : zG} {H : Heap} {locs : List Loc} {ls : Array Slot} (hF : zF p s m args meth c X cX5_timeOf 7 RX5) (hr : meth.sig.returnType = (some .int)) {x1 : Int} {x2 : Int} {x4 : Int} {g : zG} (hw : zH X N g s H locs) (hl : lv_has ls 7 [(0, z_r N 6 0), (1, z_v x1), (2, z_v x2), (4, z_v x4)]) (h : sX5_timeOf_j82 x1 x2 x4 g = some (r, g')) : W p l e { frames := 2, cells := 0, slots := 0, locals := 43 } s m args below meth c H locs 0 0 (MQ below (zQi X N r g') args s 0 0 (zA X)) (F0 m 82 ls []) := by
  have hx := hF.1.1
  have hb := hF.1.2.1
  unfold sX5_timeOf_j82 at h
  refine lv_iconst hx hb dX5_timeOf_82 rfl ?_
  exact wX5_timeOf_j83 hF hr  hw (lv_sub hl [0, 1, 2, 3] rfl) h
set_option maxHeartbeats 4000000 in
set_option maxRecDepth 100000 in
theorem czX5_timeOf (l : Launch) (X : zC) (N : zN) {x1 : Int} {x2 : Int} {x3 : Int} {g g' : zG} {r : Int} (h : sX5_timeOf x1 x2 x3 g = some (r, g')) : zM l yX5_timeOf cX5_timeOf 7 (some .int) { frames := 2, cells := 0, slots := 0, locals := 43 } X N g [z_r N 6 0, z_v x1, z_v x2, z_v x3] (zQi X N r g') := by
  refine z_ofW (own := RX5) (by decide +kernel) rfl (Nat.le_of_ble_eq_true rfl) ?_
  intro p e s m args below meth c ls hF hr hw hl
  have hl : lv_has ls 7 [(0, z_r N 6 0), (1, z_v x1), (2, z_v x2), (3, z_v x3)] := hl
  have hx := hF.1.1
  have hb := hF.1.2.1
  unfold sX5_timeOf at h
  generalize s.heap = H at hw ⊢
  generalize ([] : List Loc) = locs at hw ⊢
  refine lv_aload_n hx hb dX5_timeOf_0 rfl (lv_at hl 0 rfl) ?_
  refine zr_get hF hw zEf_6_0 (by decide) zC_6 15 (by decide) qw_837 rfl dX5_timeOf_1 ?_
  refine lv_iload_n hx hb dX5_timeOf_4 rfl (lv_at hl 1 rfl) ?_
  refine zr_iald hF hw zEf_32_0 (by decide) h dX5_timeOf_5 (fun h => ?_)
  refine zr_let h (fun v1 h => ?_)
  refine lv_istore (lv' := [(4, z_v v1), (0, z_r N 6 0), (1, z_v x1), (2, z_v x2), (3, z_v x3)]) hx hb dX5_timeOf_6 hl (by decide) rfl (fun ls hl => ?_)
  refine lv_aload_n hx hb dX5_timeOf_8 rfl (lv_at hl 1 rfl) ?_
  refine lv_iload_n hx hb dX5_timeOf_9 rfl (lv_at hl 3 rfl) ?_
  refine lv_iload hx hb dX5_timeOf_10 (lv_at hl 0 rfl) ?_
  obtain ⟨r2, g1, h1, h⟩ := zbd_some h
  refine zr_callVi (n := 2) (As := [z_v x2, z_v v1]) (rest := []) hF hw (czX5_enters l X N h1) zEf_6_0 (by decide) zC_6 (z_goodV qw_956 qw_958 qw_17 qw_42 qw_959) (by decide +kernel) ⟨Nat.le_of_ble_eq_true rfl, Nat.le_of_ble_eq_true rfl⟩ ⟨rfl, rfl⟩ rfl hl.1 rfl (Nat.le_of_ble_eq_true rfl) dX5_timeOf_12 ⟨Nat.le_of_ble_eq_true rfl, Nat.le_of_ble_eq_true rfl⟩ (fun H locs hw => ?_)
  clear h1
  generalize g1 = g at *
  refine zr_if_ne (tgt := 20) hF h dX5_timeOf_15 (by decide) (fun h => ?_) (fun h => ?_)
  · refine lv_iload_n hx hb dX5_timeOf_20 rfl (lv_at hl 4 rfl) ?_
    refine zr_if_eq (tgt := 60) hF h dX5_timeOf_21 (by decide) (fun h => ?_) (fun h => ?_)
    · refine lv_aload_n hx hb dX5_timeOf_60 rfl (lv_at hl 1 rfl) ?_
      refine zr_get hF hw zEf_6_0 (by decide) zC_6 4 (by decide) qw_826 rfl dX5_timeOf_61 ?_
      refine lv_iload_n hx hb dX5_timeOf_64 rfl (lv_at hl 3 rfl) ?_
      refine zr_iald hF hw zEf_22_0 (by decide) h dX5_timeOf_65 (fun h => ?_)
      refine zr_if_ne (tgt := 82) hF h dX5_timeOf_66 (by decide) (fun h => ?_) (fun h => ?_)
      · exact wX5_timeOf_j82 hF hr  hw (lv_sub hl [1, 2, 3, 0] rfl) h
      · refine lv_aload_n hx hb dX5_timeOf_69 rfl (lv_at hl 1 rfl) ?_
        refine zr_get hF hw zEf_6_0 (by decide) zC_6 11 (by decide) qw_833 rfl dX5_timeOf_70 ?_
        refine lv_iload_n hx hb dX5_timeOf_73 rfl (lv_at hl 3 rfl) ?_
        refine zr_zald hF hw zEf_29_0 (by decide) h dX5_timeOf_74 (fun h => ?_)
        refine zr_if_ne (tgt := 82) hF h dX5_timeOf_75 (by decide) (fun h => ?_) (fun h => ?_)
        · exact wX5_timeOf_j82 hF hr  hw (lv_sub hl [1, 2, 3, 0] rfl) h
        · refine lv_iconst hx hb dX5_timeOf_78 rfl ?_
          refine lv_goto (tgt := 83) hx hb dX5_timeOf_79 (by decide) ?_
          exact wX5_timeOf_j83 hF hr  hw (lv_sub hl [1, 2, 3, 0] rfl) h
    · refine lv_aload_n hx hb dX5_timeOf_24 rfl (lv_at hl 1 rfl) ?_
      refine zr_get hF hw zEf_6_0 (by decide) zC_6 4 (by decide) qw_826 rfl dX5_timeOf_25 ?_
      refine lv_iload_n hx hb dX5_timeOf_28 rfl (lv_at hl 3 rfl) ?_
      refine zr_iald hF hw zEf_22_0 (by decide) h dX5_timeOf_29 (fun h => ?_)
      refine lv_iconst hx hb dX5_timeOf_30 rfl ?_
      refine zr_icmp_eq (tgt := 52) hF h dX5_timeOf_31 (by decide) (fun h => ?_) (fun h => ?_)
      · exact wX5_timeOf_j52 hF hr  hw (lv_sub hl [1, 2, 3, 0] rfl) h
      · refine lv_aload_n hx hb dX5_timeOf_34 rfl (lv_at hl 1 rfl) ?_
        refine zr_get hF hw zEf_6_0 (by decide) zC_6 4 (by decide) qw_826 rfl dX5_timeOf_35 ?_
        refine lv_iload_n hx hb dX5_timeOf_38 rfl (lv_at hl 3 rfl) ?_
        refine zr_iald hF hw zEf_22_0 (by decide) h dX5_timeOf_39 (fun h => ?_)
        refine zr_if_ne (tgt := 56) hF h dX5_timeOf_40 (by decide) (fun h => ?_) (fun h => ?_)
        · exact wX5_timeOf_j56 hF hr  hw (lv_sub hl [1, 2, 3, 0] rfl) h
        · refine lv_aload_n hx hb dX5_timeOf_43 rfl (lv_at hl 1 rfl) ?_
          refine zr_get hF hw zEf_6_0 (by decide) zC_6 11 (by decide) qw_833 rfl dX5_timeOf_44 ?_
          refine lv_iload_n hx hb dX5_timeOf_47 rfl (lv_at hl 3 rfl) ?_
          refine zr_zald hF hw zEf_29_0 (by decide) h dX5_timeOf_48 (fun h => ?_)
          refine zr_if_eq (tgt := 56) hF h dX5_timeOf_49 (by decide) (fun h => ?_) (fun h => ?_)
          · exact wX5_timeOf_j56 hF hr  hw (lv_sub hl [1, 2, 3, 0] rfl) h
          · exact wX5_timeOf_j52 hF hr  hw (lv_sub hl [1, 2, 3, 0] rfl) h
  · refine lv_iconst hx hb dX5_timeOf_18 rfl ?_
    exact zr_iret hF hr hw h dX5_timeOf_19
set_option maxHeartbeats 4000000 in
set_option maxRecDepth 100000 in
theorem wX5_nextOf_j81 {p : Program} {l : Launch} {e : Env} {s : State} {m : MethodId} {args : Array Value} {below : List Frame} {meth : Method} {c : Code} {X : zC} {N : zN} {r : Int} {g' : zG} {H : Heap} {locs : List Loc} {ls : Array Slot} (hF : zF p s m args meth c X cX5_nextOf 8 RX5) (hr : meth.sig.returnType = (some .int)) {n : Nat} {K : Nat → Int → Int → Int → Int → Int → zG → Option (Int × zG)} (hK0 : ∀ (x1 : Int) (x2 : Int) (x3 : Int) (x4 : Int) (x5 : Int) (g : zG) (H : Heap) (locs : List Loc) (ls : Array Slot), zH X N g s H locs → lv_has ls 8 [(0, z_r N 6 0), (1, z_v x1), (2, z_v x2), (3, z_v x3), (4, z_v x4), (5, z_v x5)] → K 0 x1 x2 x3 x4 x5 g = some (r, g') → W p l e { frames := 3, cells := 0, slots := 0, locals := 69 } s m args below meth c H locs 0 0 (MQ below (zQi X N r g') args s 0 0 (zA X)) (F0 m 6 ls [])) {x1 : Int} {x2 : Int} {x3 : Int} {x5 : Int} {t0 : Int} {g : zG} (hw : zH X N g s H locs) (hl : lv_has ls 8 [(0, z_r N 6 0), (1, z_v x1), (2, z_v x2), (3, z_v x3), (5, z_v x5)]) (h : sX5_nextOf_j81 n K x1 x2 x3 x5 t0 g = some (r, g')) : W p l e { frames := 3, cells := 0, slots := 0, locals := 69 } s m args below meth c H locs 0 0 (MQ below (zQi X N r g') args s 0 0 (zA X)) (F0 m 81 ls [z_v t0]) := by
  have hx := hF.1.1
  have hb := hF.1.2.1
  unfold sX5_nextOf_j81 at h
  refine lv_istore (lv' := [(4, z_v t0), (0, z_r N 6 0), (1, z_v x1), (2, z_v x2), (3, z_v x3), (5, z_v x5)]) hx hb dX5_nextOf_81 hl (by decide) rfl (fun ls hl => ?_)
  refine zr_iinc hF (lv' := fun v1 => [(5, z_v v1), (4, z_v t0), (0, z_r N 6 0), (1, z_v x1), (2, z_v x2), (3, z_v x3)]) h dX5_nextOf_83 hl (k := 5) rfl (by decide) (fun _ => rfl) (fun v1 ls hl h => ?_)
  refine lv_goto (tgt := 6) hx hb dX5_nextOf_86 (by decide) ?_
  exact hK0 x1 x2 x3 t0 v1 _ _ _ _  hw (lv_sub hl [2, 3, 4, 5, 1, 0] rfl) h
set_option maxHeartbeats 4000000 in
set_option maxRecDepth 100000 in
theorem wX5_nextOf_j74 {p : Program} {l : Launch} {e : Env} {s : State} {m : MethodId} {args : Array Value} {below : List Frame} {meth : Method} {c : Code} {X : zC} {N : zN} {r : Int} {g' : zG} {H : Heap} {locs : List Loc} {ls : Array Slot} (hF : zF p s m args meth c X cX5_nextOf 8 RX5) (hr : meth.sig.returnType = (some .int)) {n : Nat} {K : Nat → Int → Int → Int → Int → Int → zG → Option (Int × zG)} (hK0 : ∀ (x1 : Int) (x2 : Int) (x3 : Int) (x4 : Int) (x5 : Int) (g : zG) (H : Heap) (locs : List Loc) (ls : Array Slot), zH X N g s H locs → lv_has ls 8 [(0, z_r N 6 0), (1, z_v x1), (2, z_v x2), (3, z_v x3), (4, z_v x4), (5, z_v x5)] → K 0 x1 x2 x3 x4 x5 g = some (r, g') → W p l e { frames := 3, cells := 0, slots := 0, locals := 69 } s m args below meth c H locs 0 0 (MQ below (zQi X N r g') args s 0 0 (zA X)) (F0 m 6 ls [])) {x1 : Int} {x2 : Int} {x3 : Int} {x5 : Int} {g : zG} (hw : zH X N g s H locs) (hl : lv_has ls 8 [(0, z_r N 6 0), (1, z_v x1), (2, z_v x2), (3, z_v x3), (5, z_v x5)]) (h : sX5_nextOf_j74 n K x1 x2 x3 x5 g = some (r, g')) : W p l e { frames := 3, cells := 0, slots := 0, locals := 69 } s m args below meth c H locs 0 0 (MQ below (zQi X N r g') args s 0 0 (zA X)) (F0 m 74 ls []) := by
  have hx := hF.1.1
  have hb := hF.1.2.1
  unfold sX5_nextOf_j74 at h
  refine lv_iload hx hb dX5_nextOf_74 (lv_at hl 4 rfl) ?_
  refine lv_goto (tgt := 81) hx hb dX5_nextOf_76 (by decide) ?_
  exact wX5_nextOf_j81 hF hr hK0  hw (lv_sub hl [0, 1, 2, 3, 4] rfl) h
set_option maxHeartbeats 4000000 in
set_option maxRecDepth 100000 in
theorem wX5_nextOf_j79 {p : Program} {l : Launch} {e : Env} {s : State} {m : MethodId} {args : Array Value} {below : List Frame} {meth : Method} {c : Code} {X : zC} {N : zN} {r : Int} {g' : zG} {H : Heap} {locs : List Loc} {ls : Array Slot} (hF : zF p s m args meth c X cX5_nextOf 8 RX5) (hr : meth.sig.returnType = (some .int)) {n : Nat} {K : Nat → Int → Int → Int → Int → Int → zG → Option (Int × zG)} (hK0 : ∀ (x1 : Int) (x2 : Int) (x3 : Int) (x4 : Int) (x5 : Int) (g : zG) (H : Heap) (locs : List Loc) (ls : Array Slot), zH X N g s H locs → lv_has ls 8 [(0, z_r N 6 0), (1, z_v x1), (2, z_v x2), (3, z_v x3), (4, z_v x4), (5, z_v x5)] → K 0 x1 x2 x3 x4 x5 g = some (r, g') → W p l e { frames := 3, cells := 0, slots := 0, locals := 69 } s m args below meth c H locs 0 0 (MQ below (zQi X N r g') args s 0 0 (zA X)) (F0 m 6 ls [])) {x1 : Int} {x2 : Int} {x3 : Int} {x4 : Int} {x5 : Int} {g : zG} (hw : zH X N g s H locs) (hl : lv_has ls 8 [(0, z_r N 6 0), (1, z_v x1), (2, z_v x2), (3, z_v x3), (4, z_v x4), (5, z_v x5)]) (h : sX5_nextOf_j79 n K x1 x2 x3 x4 x5 g = some (r, g')) : W p l e { frames := 3, cells := 0, slots := 0, locals := 69 } s m args below meth c H locs 0 0 (MQ below (zQi X N r g') args s 0 0 (zA X)) (F0 m 79 ls []) := by
  have hx := hF.1.1
  have hb := hF.1.2.1
  unfold sX5_nextOf_j79 at h
  refine lv_iload hx hb dX5_nextOf_79 (lv_at hl 4 rfl) ?_
  exact wX5_nextOf_j81 hF hr hK0  hw (lv_sub hl [0, 1, 2, 3, 5] rfl) h
set_option maxHeartbeats 4000000 in
set_option maxRecDepth 100000 in
theorem wX5_nextOf_j48 {p : Program} {l : Launch} {e : Env} {s : State} {m : MethodId} {args : Array Value} {below : List Frame} {meth : Method} {c : Code} {X : zC} {N : zN} {r : Int} {g' : zG} {H : Heap} {locs : List Loc} {ls : Array Slot} (hF : zF p s m args meth c X cX5_nextOf 8 RX5) (hr : meth.sig.returnType = (some .int)) {n : Nat} {K : Nat → Int → Int → Int → Int → Int → zG → Option (Int × zG)} (hK0 : ∀ (x1 : Int) (x2 : Int) (x3 : Int) (x4 : Int) (x5 : Int) (g : zG) (H : Heap) (locs : List Loc) (ls : Array Slot), zH X N g s H locs → lv_has ls 8 [(0, z_r N 6 0), (1, z_v x1), (2, z_v x2), (3, z_v x3), (4, z_v x4), (5, z_v x5)] → K 0 x1 x2 x3 x4 x5 g = some (r, g') → W p l e { frames := 3, cells := 0, slots := 0, locals := 69 } s m args below meth c H locs 0 0 (MQ below (zQi X N r g') args s 0 0 (zA X)) (F0 m 6 ls [])) {x1 : Int} {x2 : Int} {x3 : Int} {x4 : Int} {x5 : Int} {x6 : Int} {t0 : Int} {g : zG} (hw : zH X N g s H locs) (hl : lv_has ls 8 [(0, z_r N 6 0), (1, z_v x1), (2, z_v x2), (3, z_v x3), (4, z_v x4), (5, z_v x5), (6, z_v x6)]) (h : sX5_nextOf_j48 n K x1 x2 x3 x4 x5 x6 t0 g = some (r, g')) : W p l e { frames := 3, cells := 0, slots := 0, locals := 69 } s m args below meth c H locs 0 0 (MQ below (zQi X N r g') args s 0 0 (zA X)) (F0 m 48 ls [z_v t0]) := by
  have hx := hF.1.1
  have hb := hF.1.2.1
  unfold sX5_nextOf_j48 at h
  refine lv_istore (lv' := [(7, z_v t0), (0, z_r N 6 0), (1, z_v x1), (2, z_v x2), (3, z_v x3), (4, z_v x4), (5, z_v x5), (6, z_v x6)]) hx hb dX5_nextOf_48 hl (by decide) rfl (fun ls hl => ?_)
  refine lv_iload hx hb dX5_nextOf_50 (lv_at hl 0 rfl) ?_
  refine zr_if_eq (tgt := 79) hF h dX5_nextOf_52 (by decide) (fun h => ?_) (fun h => ?_)
  · exact wX5_nextOf_j79 hF hr hK0  hw (lv_sub hl [1, 2, 3, 4, 5, 6] rfl) h
  · refine lv_iload hx hb dX5_nextOf_55 (lv_at hl 5 rfl) ?_
    refine lv_iconst hx hb dX5_nextOf_57 rfl ?_
    refine zr_icmp_eq (tgt := 74) hF h dX5_nextOf_58 (by decide) (fun h => ?_) (fun h => ?_)
    · exact wX5_nextOf_j74 hF hr hK0  hw (lv_sub hl [1, 2, 3, 4, 6] rfl) h
    · refine lv_iload hx hb dX5_nextOf_61 (lv_at hl 7 rfl) ?_
      refine lv_aload_n hx hb dX5_nextOf_63 rfl (lv_at hl 1 rfl) ?_
      refine lv_iload_n hx hb dX5_nextOf_64 rfl (lv_at hl 2 rfl) ?_
      refine lv_iload hx hb dX5_nextOf_65 (lv_at hl 5 rfl) ?_
      refine lv_iload_n hx hb dX5_nextOf_67 rfl (lv_at hl 4 rfl) ?_
      obtain ⟨r1, g1, h1, h⟩ := zbd_some h
      refine zr_callVi (n := 3) (As := [z_v x1, z_v x4, z_v x3]) (rest := [z_v x6]) hF hw (czX5_timeOf l X N h1) zEf_6_0 (by decide) zC_6 (z_goodV qw_1024 qw_1026 qw_25 qw_42 qw_1027) (by decide +kernel) ⟨Nat.le_of_ble_eq_true rfl, Nat.le_of_ble_eq_true rfl⟩ ⟨rfl, rfl⟩ rfl hl.1 rfl (Nat.le_of_ble_eq_true rfl) dX5_nextOf_68 ⟨Nat.le_of_ble_eq_true rfl, Nat.le_of_ble_eq_true rfl⟩ (fun H locs hw => ?_)
      clear h1
      generalize g1 = g at *
      refine zr_icmp_ge (tgt := 79) hF h dX5_nextOf_71 (by decide) (fun h => ?_) (fun h => ?_)
      · exact wX5_nextOf_j79 hF hr hK0  hw (lv_sub hl [1, 2, 3, 4, 5, 6] rfl) h
      · exact wX5_nextOf_j74 hF hr hK0  hw (lv_sub hl [1, 2, 3, 4, 6] rfl) h
set_option maxHeartbeats 4000000 in
set_option maxRecDepth 100000 in
theorem wX5_nextOf_j47 {p : Program} {l : Launch} {e : Env} {s : State} {m : MethodId} {args : Array Value} {below : List Frame} {meth : Method} {c : Code} {X : zC} {N : zN} {r : Int} {g' : zG} {H : Heap} {locs : List Loc} {ls : Array Slot} (hF : zF p s m args meth c X cX5_nextOf 8 RX5) (hr : meth.sig.returnType = (some .int)) {n : Nat} {K : Nat → Int → Int → Int → Int → Int → zG → Option (Int × zG)} (hK0 : ∀ (x1 : Int) (x2 : Int) (x3 : Int) (x4 : Int) (x5 : Int) (g : zG) (H : Heap) (locs : List Loc) (ls : Array Slot), zH X N g s H locs → lv_has ls 8 [(0, z_r N 6 0), (1, z_v x1), (2, z_v x2), (3, z_v x3), (4, z_v x4), (5, z_v x5)] → K 0 x1 x2 x3 x4 x5 g = some (r, g') → W p l e { frames := 3, cells := 0, slots := 0, locals := 69 } s m args below meth c H locs 0 0 (MQ below (zQi X N r g') args s 0 0 (zA X)) (F0 m 6 ls [])) {x1 : Int} {x2 : Int} {x3 : Int} {x4 : Int} {x5 : Int} {x6 : Int} {g : zG} (hw : zH X N g s H locs) (hl : lv_has ls 8 [(0, z_r N 6 0), (1, z_v x1), (2, z_v x2), (3, z_v x3), (4, z_v x4), (5, z_v x5), (6, z_v x6)]) (h : sX5_nextOf_j47 n K x1 x2 x3 x4 x5 x6 g = some (r, g')) : W p l e { frames := 3, cells := 0, slots := 0, locals := 69 } s m args below meth c H locs 0 0 (MQ below (zQi X N r g') args s 0 0 (zA X)) (F0 m 47 ls []) := by
  have hx := hF.1.1
  have hb := hF.1.2.1
  unfold sX5_nextOf_j47 at h
  refine lv_iconst hx hb dX5_nextOf_47 rfl ?_
  exact wX5_nextOf_j48 hF hr hK0  hw (lv_sub hl [0, 1, 2, 3, 4, 5, 6] rfl) h
set_option maxHeartbeats 4000000 in
set_option maxRecDepth 100000 in
theorem wX5_nextOf_h6 {p : Program} {l : Launch} {e : Env} {s : State} {m : MethodId} {args : Array Value} {below : List Frame} {meth : Method} {c : Code} {X : zC} {N : zN} {r : Int} {g' : zG} {H : Heap} {locs : List Loc} {ls : Array Slot} (hF : zF p s m args meth c X cX5_nextOf 8 RX5) (hr : meth.sig.returnType = (some .int)) {n : Nat} {K : Nat → Int → Int → Int → Int → Int → zG → Option (Int × zG)} (hK0 : ∀ (x1 : Int) (x2 : Int) (x3 : Int) (x4 : Int) (x5 : Int) (g : zG) (H : Heap) (locs : List Loc) (ls : Array Slot), zH X N g s H locs → lv_has ls 8 [(0, z_r N 6 0), (1, z_v x1), (2, z_v x2), (3, z_v x3), (4, z_v x4), (5, z_v x5)] → K 0 x1 x2 x3 x4 x5 g = some (r, g') → W p l e { frames := 3, cells := 0, slots := 0, locals := 69 } s m args below meth c H locs 0 0 (MQ below (zQi X N r g') args s 0 0 (zA X)) (F0 m 6 ls [])) {x1 : Int} {x2 : Int} {x3 : Int} {x4 : Int} {x5 : Int} {g : zG} (hw : zH X N g s H locs) (hl : lv_has ls 8 [(0, z_r N 6 0), (1, z_v x1), (2, z_v x2), (3, z_v x3), (4, z_v x4), (5, z_v x5)]) (h : sX5_nextOf_h6 n K x1 x2 x3 x4 x5 g = some (r, g')) : W p l e { frames := 3, cells := 0, slots := 0, locals := 69 } s m args below meth c H locs 0 0 (MQ below (zQi X N r g') args s 0 0 (zA X)) (F0 m 6 ls []) := by
  have hx := hF.1.1
  have hb := hF.1.2.1
  unfold sX5_nextOf_h6 at h
  refine lv_iload hx hb dX5_nextOf_6 (lv_at hl 5 rfl) ?_
  refine lv_aload_n hx hb dX5_nextOf_8 rfl (lv_at hl 0 rfl) ?_
  refine zr_get hF hw zEf_6_0 (by decide) zC_6 1 (by decide) qw_823 rfl dX5_nextOf_9 ?_
  refine zr_icmp_ge (tgt := 89) hF h dX5_nextOf_12 (by decide) (fun h => ?_) (fun h => ?_)
  · refine lv_iload hx hb dX5_nextOf_89 (lv_at hl 4 rfl) ?_
    exact zr_iret hF hr hw h dX5_nextOf_91
  · refine lv_aload_n hx hb dX5_nextOf_15 rfl (lv_at hl 0 rfl) ?_
    refine lv_iload_n hx hb dX5_nextOf_16 rfl (lv_at hl 1 rfl) ?_
    refine lv_iload hx hb dX5_nextOf_17 (lv_at hl 5 rfl) ?_
    refine lv_iload_n hx hb dX5_nextOf_19 rfl (lv_at hl 3 rfl) ?_
    obtain ⟨r1, g1, h1, h⟩ := zbd_some h
    refine zr_callVi (n := 3) (As := [z_v x1, z_v x5, z_v x3]) (rest := []) hF hw (czX5_timeOf l X N h1) zEf_6_0 (by decide) zC_6 (z_goodV qw_1024 qw_1026 qw_25 qw_42 qw_1027) (by decide +kernel) ⟨Nat.le_of_ble_eq_true rfl, Nat.le_of_ble_eq_true rfl⟩ ⟨rfl, rfl⟩ rfl hl.1 rfl (Nat.le_of_ble_eq_true rfl) dX5_nextOf_20 ⟨Nat.le_of_ble_eq_true rfl, Nat.le_of_ble_eq_true rfl⟩ (fun H locs hw => ?_)
    clear h1
    generalize g1 = g at *
    refine lv_istore (lv' := [(6, z_v r1), (0, z_r N 6 0), (1, z_v x1), (2, z_v x2), (3, z_v x3), (4, z_v x4), (5, z_v x5)]) hx hb dX5_nextOf_23 hl (by decide) rfl (fun ls hl => ?_)
    refine lv_iload hx hb dX5_nextOf_25 (lv_at hl 0 rfl) ?_
    refine lv_iconst hx hb dX5_nextOf_27 rfl ?_
    refine zr_icmp_eq (tgt := 47) hF h dX5_nextOf_28 (by decide) (fun h => ?_) (fun h => ?_)
    · exact wX5_nextOf_j47 hF hr hK0  hw (lv_sub hl [1, 2, 3, 4, 5, 6, 0] rfl) h
    · refine lv_bipush (v := Int32.ofInt (24)) hx hb dX5_nextOf_31 (by decide) ?_
      refine lv_iload hx hb dX5_nextOf_33 (lv_at hl 0 rfl) ?_
      refine zr_imul hF dX5_nextOf_35 ?_
      refine lv_iload hx hb dX5_nextOf_36 (lv_at hl 6 rfl) ?_
      refine zr_iadd hF dX5_nextOf_38 ?_
      refine lv_iload_n hx hb dX5_nextOf_39 rfl (lv_at hl 3 rfl) ?_
      refine zr_icmp_le (tgt := 47) hF h dX5_nextOf_40 (by decide) (fun h => ?_) (fun h => ?_)
      · exact wX5_nextOf_j47 hF hr hK0  hw (lv_sub hl [1, 2, 3, 4, 5, 6, 0] rfl) h
      · refine lv_iconst hx hb dX5_nextOf_43 rfl ?_
        refine lv_goto (tgt := 48) hx hb dX5_nextOf_44 (by decide) ?_
        exact wX5_nextOf_j48 hF hr hK0  hw (lv_sub hl [1, 2, 3, 4, 5, 6, 0] rfl) h
set_option maxHeartbeats 4000000 in
set_option maxRecDepth 100000 in
theorem wX5_nextOf_run {p : Program} {l : Launch} {e : Env} {s : State} {m : MethodId} {args : Array Value} {below : List Frame} {meth : Method} {c : Code} {X : zC} {N : zN} {r : Int} {g' : zG} (hF : zF p s m args meth c X cX5_nextOf 8 RX5) (hr : meth.sig.returnType = (some .int)) {n0 : Nat} : ∀ n : Nat, (∀ (x1 : Int) (x2 : Int) (x3 : Int) (x4 : Int) (x5 : Int) (g : zG) (H : Heap) (locs : List Loc) (ls : Array Slot), zH X N g s H locs → lv_has ls 8 [(0, z_r N 6 0), (1, z_v x1), (2, z_v x2), (3, z_v x3), (4, z_v x4), (5, z_v x5)] → sX5_nextOf_run n0 n 0 x1 x2 x3 x4 x5 g = some (r, g') → W p l e { frames := 3, cells := 0, slots := 0, locals := 69 } s m args below meth c H locs 0 0 (MQ below (zQi X N r g') args s 0 0 (zA X)) (F0 m 6 ls [])) := by
  intro n
  induction n with
  | zero => exact fun _ _ _ _ _ _ _ _ _ _ _  h => (by cases h)
  | succ n ih => exact fun x1 x2 x3 x4 x5 g H locs ls  hw hl h => wX5_nextOf_h6 hF hr ih  hw hl h
set_option maxHeartbeats 4000000 in
set_option maxRecDepth 100000 in
theorem czX5_nextOf (l : Launch) (X : zC) (N : zN) {n : Nat} {x1 : Int} {x2 : Int} {x3 : Int} {g g' : zG} {r : Int} (h : sX5_nextOf n x1 x2 x3 g = some (r, g')) : zM l yX5_nextOf cX5_nextOf 8 (some .int) { frames := 3, cells := 0, slots := 0, locals := 69 } X N g [z_r N 6 0, z_v x1, z_v x2, z_v x3] (zQi X N r g') := by
  refine z_ofW (own := RX5) (by decide +kernel) rfl (Nat.le_of_ble_eq_true rfl) ?_
  intro p e s m args below meth c ls hF hr hw hl
  have hl : lv_has ls 8 [(0, z_r N 6 0), (1, z_v x1), (2, z_v x2), (3, z_v x3)] := hl
  have hx := hF.1.1
  have hb := hF.1.2.1
  have hKK := wX5_nextOf_run hF hr (r := r) (g' := g') (X := X) (N := N) (n0 := n) (l := l) (e := e) (below := below) n
  have hK0 := hKK
  unfold sX5_nextOf at h
  generalize s.heap = H at hw ⊢
  generalize ([] : List Loc) = locs at hw ⊢
  refine lv_iconst hx hb dX5_nextOf_0 rfl ?_
  refine lv_istore (lv' := [(4, z_v ((-1))), (0, z_r N 6 0), (1, z_v x1), (2, z_v x2), (3, z_v x3)]) hx hb dX5_nextOf_1 hl (by decide) rfl (fun ls hl => ?_)
  refine lv_iconst hx hb dX5_nextOf_3 rfl ?_
  refine lv_istore (lv' := [(5, z_v 0), (4, z_v ((-1))), (0, z_r N 6 0), (1, z_v x1), (2, z_v x2), (3, z_v x3)]) hx hb dX5_nextOf_4 hl (by decide) rfl (fun ls hl => ?_)
  exact hK0 x1 x2 x3 (-1) 0 _ _ _ _  hw (lv_sub hl [2, 3, 4, 5, 1, 0] rfl) h
set_option maxHeartbeats 4000000 in
set_option maxRecDepth 100000 in
theorem wX5_takes_h2 {p : Program} {l : Launch} {e : Env} {s : State} {m : MethodId} {args : Array Value} {below : List Frame} {meth : Method} {c : Code} {X : zC} {N : zN} {r : Int} {g' : zG} {H : Heap} {locs : List Loc} {ls : Array Slot} (hF : zF p s m args meth c X cX5_takes 4 RX5) (hr : meth.sig.returnType = (some .int)) {n : Nat} {K : Nat → Int → Int → Int → zG → Option (Int × zG)} (hK0 : ∀ (x1 : Int) (x2 : Int) (x3 : Int) (g : zG) (H : Heap) (locs : List Loc) (ls : Array Slot), zH X N g s H locs → lv_has ls 4 [(0, z_r N 6 0), (1, z_v x1), (2, z_v x2), (3, z_v x3)] → K 0 x1 x2 x3 g = some (r, g') → W p l e { frames := 2, cells := 0, slots := 0, locals := 44 } s m args below meth c H locs 0 0 (MQ below (zQi X N r g') args s 0 0 (zA X)) (F0 m 2 ls [])) {x1 : Int} {x2 : Int} {x3 : Int} {g : zG} (hw : zH X N g s H locs) (hl : lv_has ls 4 [(0, z_r N 6 0), (1, z_v x1), (2, z_v x2), (3, z_v x3)]) (h : sX5_takes_h2 n K x1 x2 x3 g = some (r, g')) : W p l e { frames := 2, cells := 0, slots := 0, locals := 44 } s m args below meth c H locs 0 0 (MQ below (zQi X N r g') args s 0 0 (zA X)) (F0 m 2 ls []) := by
  have hx := hF.1.1
  have hb := hF.1.2.1
  unfold sX5_takes_h2 at h
  refine lv_iload_n hx hb dX5_takes_2 rfl (lv_at hl 3 rfl) ?_
  refine lv_aload_n hx hb dX5_takes_3 rfl (lv_at hl 0 rfl) ?_
  refine zr_get hF hw zEf_6_0 (by decide) zC_6 24 (by decide) qw_846 rfl dX5_takes_4 ?_
  refine zr_icmp_ge (tgt := 54) hF h dX5_takes_7 (by decide) (fun h => ?_) (fun h => ?_)
  · refine lv_iconst hx hb dX5_takes_54 rfl ?_
    exact zr_iret hF hr hw h dX5_takes_55
  · refine lv_aload_n hx hb dX5_takes_10 rfl (lv_at hl 0 rfl) ?_
    refine zr_get hF hw zEf_6_0 (by decide) zC_6 23 (by decide) qw_845 rfl dX5_takes_11 ?_
    refine lv_iload_n hx hb dX5_takes_14 rfl (lv_at hl 3 rfl) ?_
    refine zr_zald hF hw zEf_40_0 (by decide) h dX5_takes_15 (fun h => ?_)
    refine zr_if_ne (tgt := 48) hF h dX5_takes_16 (by decide) (fun h => ?_) (fun h => ?_)
    · refine zr_iinc hF (lv' := fun v1 => [(3, z_v v1), (0, z_r N 6 0), (1, z_v x1), (2, z_v x2)]) h dX5_takes_48 hl (k := 3) rfl (by decide) (fun _ => rfl) (fun v1 ls hl h => ?_)
      refine lv_goto (tgt := 2) hx hb dX5_takes_51 (by decide) ?_
      exact hK0 x1 x2 v1 _ _ _ _  hw (lv_sub hl [1, 2, 3, 0] rfl) h
    · refine lv_aload_n hx hb dX5_takes_19 rfl (lv_at hl 0 rfl) ?_
      refine lv_iload_n hx hb dX5_takes_20 rfl (lv_at hl 1 rfl) ?_
      refine lv_iload_n hx hb dX5_takes_21 rfl (lv_at hl 3 rfl) ?_
      obtain ⟨r2, g1, h1, h⟩ := zbd_some h
      refine zr_callVi (n := 2) (As := [z_v x1, z_v x3]) (rest := []) hF hw (czX5_ending l X N h1) zEf_6_0 (by decide) zC_6 (z_goodV qw_1036 qw_1038 qw_28 qw_42 qw_1039) (by decide +kernel) ⟨Nat.le_of_ble_eq_true rfl, Nat.le_of_ble_eq_true rfl⟩ ⟨rfl, rfl⟩ rfl hl.1 rfl (Nat.le_of_ble_eq_true rfl) dX5_takes_22 ⟨Nat.le_of_ble_eq_true rfl, Nat.le_of_ble_eq_true rfl⟩ (fun H locs hw => ?_)
      clear h1
      generalize g1 = g at *
      refine lv_iload_n hx hb dX5_takes_25 rfl (lv_at hl 2 rfl) ?_
      refine zr_icmp_le (tgt := 48) hF h dX5_takes_26 (by decide) (fun h => ?_) (fun h => ?_)
      · refine zr_iinc hF (lv' := fun v3 => [(3, z_v v3), (0, z_r N 6 0), (1, z_v x1), (2, z_v x2)]) h dX5_takes_48 hl (k := 3) rfl (by decide) (fun _ => rfl) (fun v3 ls hl h => ?_)
        refine lv_goto (tgt := 2) hx hb dX5_takes_51 (by decide) ?_
        exact hK0 x1 x2 v3 _ _ _ _  hw (lv_sub hl [1, 2, 3, 0] rfl) h
      · refine lv_aload_n hx hb dX5_takes_29 rfl (lv_at hl 0 rfl) ?_
        refine zr_get hF hw zEf_6_0 (by decide) zC_6 23 (by decide) qw_845 rfl dX5_takes_30 ?_
        refine lv_iload_n hx hb dX5_takes_33 rfl (lv_at hl 3 rfl) ?_
        refine lv_iconst hx hb dX5_takes_34 rfl ?_
        refine zr_zast hF hw zEf_40_0 (by decide) h dX5_takes_35 (fun g H locs hw h => ?_)
        refine lv_aload_n hx hb dX5_takes_36 rfl (lv_at hl 0 rfl) ?_
        refine lv_dup hx hb dX5_takes_37 rfl ?_
        refine zr_get hF hw zEf_6_0 (by decide) zC_6 25 (by decide) qw_847 rfl dX5_takes_38 ?_
        refine lv_iconst hx hb dX5_takes_41 rfl ?_
        refine zr_isub hF dX5_takes_42 ?_
        refine zr_put hF hw zEf_6_0 (by decide) zC_6 25 (by decide) (by decide) qw_847 rfl (by decide +kernel) h dX5_takes_43 (fun g H locs hw h => ?_)
        refine lv_iload_n hx hb dX5_takes_46 rfl (lv_at hl 3 rfl) ?_
        exact zr_iret hF hr hw h dX5_takes_47
set_option maxHeartbeats 4000000 in
set_option maxRecDepth 100000 in
theorem wX5_takes_run {p : Program} {l : Launch} {e : Env} {s : State} {m : MethodId} {args : Array Value} {below : List Frame} {meth : Method} {c : Code} {X : zC} {N : zN} {r : Int} {g' : zG} (hF : zF p s m args meth c X cX5_takes 4 RX5) (hr : meth.sig.returnType = (some .int)) {n0 : Nat} : ∀ n : Nat, (∀ (x1 : Int) (x2 : Int) (x3 : Int) (g : zG) (H : Heap) (locs : List Loc) (ls : Array Slot), zH X N g s H locs → lv_has ls 4 [(0, z_r N 6 0), (1, z_v x1), (2, z_v x2), (3, z_v x3)] → sX5_takes_run n0 n 0 x1 x2 x3 g = some (r, g') → W p l e { frames := 2, cells := 0, slots := 0, locals := 44 } s m args below meth c H locs 0 0 (MQ below (zQi X N r g') args s 0 0 (zA X)) (F0 m 2 ls [])) := by
  intro n
  induction n with
  | zero => exact fun _ _ _ _ _ _ _ _ _  h => (by cases h)
  | succ n ih => exact fun x1 x2 x3 g H locs ls  hw hl h => wX5_takes_h2 hF hr ih  hw hl h
set_option maxHeartbeats 4000000 in
set_option maxRecDepth 100000 in
theorem czX5_takes (l : Launch) (X : zC) (N : zN) {n : Nat} {x1 : Int} {x2 : Int} {g g' : zG} {r : Int} (h : sX5_takes n x1 x2 g = some (r, g')) : zM l yX5_takes cX5_takes 4 (some .int) { frames := 2, cells := 0, slots := 0, locals := 44 } X N g [z_r N 6 0, z_v x1, z_v x2] (zQi X N r g') := by
  refine z_ofW (own := RX5) (by decide +kernel) rfl (Nat.le_of_ble_eq_true rfl) ?_
  intro p e s m args below meth c ls hF hr hw hl
  have hl : lv_has ls 4 [(0, z_r N 6 0), (1, z_v x1), (2, z_v x2)] := hl
  have hx := hF.1.1
  have hb := hF.1.2.1
  have hKK := wX5_takes_run hF hr (r := r) (g' := g') (X := X) (N := N) (n0 := n) (l := l) (e := e) (below := below) n
  have hK0 := hKK
  unfold sX5_takes at h
  generalize s.heap = H at hw ⊢
  generalize ([] : List Loc) = locs at hw ⊢
  refine lv_iconst hx hb dX5_takes_0 rfl ?_
  refine lv_istore_n (lv' := [(3, z_v 0), (0, z_r N 6 0), (1, z_v x1), (2, z_v x2)]) hx hb dX5_takes_1 rfl hl (by decide) rfl (fun ls hl => ?_)
  exact hK0 x1 x2 0 _ _ _ _  hw (lv_sub hl [1, 2, 3, 0] rfl) h
set_option maxHeartbeats 4000000 in
set_option maxRecDepth 100000 in
theorem wX5_dealt_j55 {p : Program} {l : Launch} {e : Env} {s : State} {m : MethodId} {args : Array Value} {below : List Frame} {meth : Method} {c : Code} {X : zC} {N : zN} {r : Int} {g' : zG} {H : Heap} {locs : List Loc} {ls : Array Slot} (hF : zF p s m args meth c X cX5_dealt 6 RX5) (hr : meth.sig.returnType = none) {n : Nat} {K : Nat → Int → Int → zG → Option (Int × zG)} (hK0 : ∀ (x1 : Int) (x2 : Int) (g : zG) (H : Heap) (locs : List Loc) (ls : Array Slot), zH X N g s H locs → lv_has ls 6 [(0, z_r N 6 0), (1, z_v x1)] → K 0 x1 x2 g = some (r, g') → W p l e { frames := 4, cells := 0, slots := 0, locals := 96 } s m args below meth c H locs 0 0 (MQ below (zQv X N g') args s 0 0 (zA X)) (F0 m 5 ls [])) (hK1 : ∀ (x1 : Int) (x2 : Int) (g : zG) (H : Heap) (locs : List Loc) (ls : Array Slot), zH X N g s H locs → lv_has ls 6 [(0, z_r N 6 0), (1, z_v x1), (2, z_v x2)] → K 1 x1 x2 g = some (r, g') → W p l e { frames := 4, cells := 0, slots := 0, locals := 96 } s m args below meth c H locs 0 0 (MQ below (zQv X N g') args s 0 0 (zA X)) (F0 m 80 ls [])) (hK2 : ∀ (x1 : Int) (x2 : Int) (g : zG) (H : Heap) (locs : List Loc) (ls : Array Slot), zH X N g s H locs → lv_has ls 6 [(0, z_r N 6 0), (1, z_v x1), (2, z_v x2)] → K 2 x1 x2 g = some (r, g') → W p l e { frames := 4, cells := 0, slots := 0, locals := 96 } s m args below meth c H locs 0 0 (MQ below (zQv X N g') args s 0 0 (zA X)) (F0 m 112 ls [])) (hK3 : ∀ (x1 : Int) (x2 : Int) (g : zG) (H : Heap) (locs : List Loc) (ls : Array Slot), zH X N g s H locs → lv_has ls 6 [(0, z_r N 6 0), (1, z_v x1), (2, z_v x2)] → K 3 x1 x2 g = some (r, g') → W p l e { frames := 4, cells := 0, slots := 0, locals := 96 } s m args below meth c H locs 0 0 (MQ below (zQv X N g') args s 0 0 (zA X)) (F0 m 166 ls [])) {x1 : Int} {g : zG} (hw : zH X N g s H locs) (hl : lv_has ls 6 [(0, z_r N 6 0), (1, z_v x1)]) (h : sX5_dealt_j55 n K x1 g = some (r, g')) : W p l e { frames := 4, cells := 0, slots := 0, locals := 96 } s m args below meth c H locs 0 0 (MQ below (zQv X N g') args s 0 0 (zA X)) (F0 m 55 ls []) := by
  have hx := hF.1.1
  have hb := hF.1.2.1
  unfold sX5_dealt_j55 at h
  refine lv_aload_n hx hb dX5_dealt_55 rfl (lv_at hl 0 rfl) ?_
  refine lv_aload_n hx hb dX5_dealt_56 rfl (lv_at hl 0 rfl) ?_
  refine zr_get hF hw zEf_6_0 (by decide) zC_6 24 (by decide) qw_846 rfl dX5_dealt_57 ?_
  refine zr_put hF hw zEf_6_0 (by decide) zC_6 25 (by decide) (by decide) qw_847 rfl (by decide +kernel) h dX5_dealt_60 (fun g H locs hw h => ?_)
  refine lv_aload_n hx hb dX5_dealt_63 rfl (lv_at hl 0 rfl) ?_
  refine lv_iconst hx hb dX5_dealt_64 rfl ?_
  refine zr_put hF hw zEf_6_0 (by decide) zC_6 26 (by decide) (by decide) qw_848 rfl (by decide +kernel) h dX5_dealt_65 (fun g H locs hw h => ?_)
  refine lv_aload_n hx hb dX5_dealt_68 rfl (lv_at hl 0 rfl) ?_
  refine lv_iconst hx hb dX5_dealt_69 rfl ?_
  refine zr_put hF hw zEf_6_0 (by decide) zC_6 27 (by decide) (by decide) qw_849 rfl (by decide +kernel) h dX5_dealt_70 (fun g H locs hw h => ?_)
  refine lv_aload_n hx hb dX5_dealt_73 rfl (lv_at hl 0 rfl) ?_
  refine lv_iconst hx hb dX5_dealt_74 rfl ?_
  refine zr_put hF hw zEf_6_0 (by decide) zC_6 28 (by decide) (by decide) qw_850 rfl (by decide +kernel) h dX5_dealt_75 (fun g H locs hw h => ?_)
  refine lv_iconst hx hb dX5_dealt_78 rfl ?_
  refine lv_istore_n (lv' := [(2, z_v 0), (0, z_r N 6 0), (1, z_v x1)]) hx hb dX5_dealt_79 rfl hl (by decide) rfl (fun ls hl => ?_)
  exact hK1 x1 0 _ _ _ _  hw (lv_sub hl [1, 2, 0] rfl) h
set_option maxHeartbeats 4000000 in
set_option maxRecDepth 100000 in
theorem wX5_dealt_j252 {p : Program} {l : Launch} {e : Env} {s : State} {m : MethodId} {args : Array Value} {below : List Frame} {meth : Method} {c : Code} {X : zC} {N : zN} {r : Int} {g' : zG} {H : Heap} {locs : List Loc} {ls : Array Slot} (hF : zF p s m args meth c X cX5_dealt 6 RX5) (hr : meth.sig.returnType = none) {n : Nat} {K : Nat → Int → Int → zG → Option (Int × zG)} (hK0 : ∀ (x1 : Int) (x2 : Int) (g : zG) (H : Heap) (locs : List Loc) (ls : Array Slot), zH X N g s H locs → lv_has ls 6 [(0, z_r N 6 0), (1, z_v x1)] → K 0 x1 x2 g = some (r, g') → W p l e { frames := 4, cells := 0, slots := 0, locals := 96 } s m args below meth c H locs 0 0 (MQ below (zQv X N g') args s 0 0 (zA X)) (F0 m 5 ls [])) (hK1 : ∀ (x1 : Int) (x2 : Int) (g : zG) (H : Heap) (locs : List Loc) (ls : Array Slot), zH X N g s H locs → lv_has ls 6 [(0, z_r N 6 0), (1, z_v x1), (2, z_v x2)] → K 1 x1 x2 g = some (r, g') → W p l e { frames := 4, cells := 0, slots := 0, locals := 96 } s m args below meth c H locs 0 0 (MQ below (zQv X N g') args s 0 0 (zA X)) (F0 m 80 ls [])) (hK2 : ∀ (x1 : Int) (x2 : Int) (g : zG) (H : Heap) (locs : List Loc) (ls : Array Slot), zH X N g s H locs → lv_has ls 6 [(0, z_r N 6 0), (1, z_v x1), (2, z_v x2)] → K 2 x1 x2 g = some (r, g') → W p l e { frames := 4, cells := 0, slots := 0, locals := 96 } s m args below meth c H locs 0 0 (MQ below (zQv X N g') args s 0 0 (zA X)) (F0 m 112 ls [])) (hK3 : ∀ (x1 : Int) (x2 : Int) (g : zG) (H : Heap) (locs : List Loc) (ls : Array Slot), zH X N g s H locs → lv_has ls 6 [(0, z_r N 6 0), (1, z_v x1), (2, z_v x2)] → K 3 x1 x2 g = some (r, g') → W p l e { frames := 4, cells := 0, slots := 0, locals := 96 } s m args below meth c H locs 0 0 (MQ below (zQv X N g') args s 0 0 (zA X)) (F0 m 166 ls [])) {x1 : Int} {x2 : Int} {x3 : Int} {x5 : Int} {t1 : Int} {t2 : Int} {g : zG} (hw : zH X N g s H locs) (hl : lv_has ls 6 [(0, z_r N 6 0), (1, z_v x1), (2, z_v x2), (3, z_v x3), (5, z_v x5)]) (h : sX5_dealt_j252 n K x1 x2 x3 x5 t1 t2 g = some (r, g')) : W p l e { frames := 4, cells := 0, slots := 0, locals := 96 } s m args below meth c H locs 0 0 (MQ below (zQv X N g') args s 0 0 (zA X)) (F0 m 252 ls [z_v t2, z_v t1, z_r N 6 0]) := by
  have hx := hF.1.1
  have hb := hF.1.2.1
  unfold sX5_dealt_j252 at h
  refine zr_iadd hF dX5_dealt_252 ?_
  refine zr_put hF hw zEf_6_0 (by decide) zC_6 28 (by decide) (by decide) qw_850 rfl (by decide +kernel) h dX5_dealt_253 (fun g H locs hw h => ?_)
  refine lv_aload_n hx hb dX5_dealt_256 rfl (lv_at hl 0 rfl) ?_
  refine zr_get hF hw zEf_6_0 (by decide) zC_6 29 (by decide) qw_851 rfl dX5_dealt_257 ?_
  refine lv_bipush (v := Int32.ofInt (24)) hx hb dX5_dealt_260 (by decide) ?_
  refine lv_iload_n hx hb dX5_dealt_262 rfl (lv_at hl 1 rfl) ?_
  refine zr_imul hF dX5_dealt_263 ?_
  refine lv_iload_n hx hb dX5_dealt_264 rfl (lv_at hl 2 rfl) ?_
  refine zr_iadd hF dX5_dealt_265 ?_
  refine lv_iload hx hb dX5_dealt_266 (lv_at hl 4 rfl) ?_
  refine lv_iload_n hx hb dX5_dealt_268 rfl (lv_at hl 3 rfl) ?_
  refine zr_isub hF dX5_dealt_269 ?_
  refine zr_iast hF hw zEf_41_0 (by decide) h dX5_dealt_270 (fun g H locs hw h => ?_)
  refine lv_aload_n hx hb dX5_dealt_271 rfl (lv_at hl 0 rfl) ?_
  refine lv_iload_n hx hb dX5_dealt_272 rfl (lv_at hl 1 rfl) ?_
  refine lv_bipush (v := Int32.ofInt (24)) hx hb dX5_dealt_273 (by decide) ?_
  refine lv_iload_n hx hb dX5_dealt_275 rfl (lv_at hl 3 rfl) ?_
  refine zr_imul hF dX5_dealt_276 ?_
  refine lv_iload_n hx hb dX5_dealt_277 rfl (lv_at hl 2 rfl) ?_
  refine zr_iadd hF dX5_dealt_278 ?_
  refine lv_iconst hx hb dX5_dealt_279 rfl ?_
  obtain ⟨r1, g1, h1, h⟩ := zbd_some h
  refine zr_callVi (n := 3) (As := [z_v x1, z_v ((24 * x3) + x2), z_v 0]) (rest := []) hF hw (czX5_nextOf l X N h1) zEf_6_0 (by decide) zC_6 (z_goodV qw_1020 qw_1022 qw_24 qw_42 qw_1023) (by decide +kernel) ⟨Nat.le_of_ble_eq_true rfl, Nat.le_of_ble_eq_true rfl⟩ ⟨rfl, rfl⟩ rfl hl.1 rfl (Nat.le_of_ble_eq_true rfl) dX5_dealt_280 ⟨Nat.le_of_ble_eq_true rfl, Nat.le_of_ble_eq_true rfl⟩ (fun H locs hw => ?_)
  clear h1
  generalize g1 = g at *
  refine lv_istore_n (lv' := [(2, z_v r1), (0, z_r N 6 0), (1, z_v x1), (3, z_v x3), (5, z_v x5)]) hx hb dX5_dealt_283 rfl hl (by decide) rfl (fun ls hl => ?_)
  refine lv_goto (tgt := 166) hx hb dX5_dealt_284 (by decide) ?_
  exact hK3 x1 r1 _ _ _ _  hw (lv_sub hl [1, 2, 0] rfl) h
set_option maxHeartbeats 4000000 in
set_option maxRecDepth 100000 in
theorem wX5_dealt_j224 {p : Program} {l : Launch} {e : Env} {s : State} {m : MethodId} {args : Array Value} {below : List Frame} {meth : Method} {c : Code} {X : zC} {N : zN} {r : Int} {g' : zG} {H : Heap} {locs : List Loc} {ls : Array Slot} (hF : zF p s m args meth c X cX5_dealt 6 RX5) (hr : meth.sig.returnType = none) {n : Nat} {K : Nat → Int → Int → zG → Option (Int × zG)} (hK0 : ∀ (x1 : Int) (x2 : Int) (g : zG) (H : Heap) (locs : List Loc) (ls : Array Slot), zH X N g s H locs → lv_has ls 6 [(0, z_r N 6 0), (1, z_v x1)] → K 0 x1 x2 g = some (r, g') → W p l e { frames := 4, cells := 0, slots := 0, locals := 96 } s m args below meth c H locs 0 0 (MQ below (zQv X N g') args s 0 0 (zA X)) (F0 m 5 ls [])) (hK1 : ∀ (x1 : Int) (x2 : Int) (g : zG) (H : Heap) (locs : List Loc) (ls : Array Slot), zH X N g s H locs → lv_has ls 6 [(0, z_r N 6 0), (1, z_v x1), (2, z_v x2)] → K 1 x1 x2 g = some (r, g') → W p l e { frames := 4, cells := 0, slots := 0, locals := 96 } s m args below meth c H locs 0 0 (MQ below (zQv X N g') args s 0 0 (zA X)) (F0 m 80 ls [])) (hK2 : ∀ (x1 : Int) (x2 : Int) (g : zG) (H : Heap) (locs : List Loc) (ls : Array Slot), zH X N g s H locs → lv_has ls 6 [(0, z_r N 6 0), (1, z_v x1), (2, z_v x2)] → K 2 x1 x2 g = some (r, g') → W p l e { frames := 4, cells := 0, slots := 0, locals := 96 } s m args below meth c H locs 0 0 (MQ below (zQv X N g') args s 0 0 (zA X)) (F0 m 112 ls [])) (hK3 : ∀ (x1 : Int) (x2 : Int) (g : zG) (H : Heap) (locs : List Loc) (ls : Array Slot), zH X N g s H locs → lv_has ls 6 [(0, z_r N 6 0), (1, z_v x1), (2, z_v x2)] → K 3 x1 x2 g = some (r, g') → W p l e { frames := 4, cells := 0, slots := 0, locals := 96 } s m args below meth c H locs 0 0 (MQ below (zQv X N g') args s 0 0 (zA X)) (F0 m 166 ls [])) {x1 : Int} {x2 : Int} {x3 : Int} {x4 : Int} {t0 : Int} {g : zG} (hw : zH X N g s H locs) (hl : lv_has ls 6 [(0, z_r N 6 0), (1, z_v x1), (2, z_v x2), (3, z_v x3), (4, z_v x4)]) (h : sX5_dealt_j224 n K x1 x2 x3 x4 t0 g = some (r, g')) : W p l e { frames := 4, cells := 0, slots := 0, locals := 96 } s m args below meth c H locs 0 0 (MQ below (zQv X N g') args s 0 0 (zA X)) (F0 m 224 ls [z_v t0]) := by
  have hx := hF.1.1
  have hb := hF.1.2.1
  unfold sX5_dealt_j224 at h
  refine lv_istore (lv' := [(5, z_v t0), (0, z_r N 6 0), (1, z_v x1), (2, z_v x2), (3, z_v x3), (4, z_v x4)]) hx hb dX5_dealt_224 hl (by decide) rfl (fun ls hl => ?_)
  refine lv_aload_n hx hb dX5_dealt_226 rfl (lv_at hl 1 rfl) ?_
  refine lv_dup hx hb dX5_dealt_227 rfl ?_
  refine zr_get hF hw zEf_6_0 (by decide) zC_6 27 (by decide) qw_849 rfl dX5_dealt_228 ?_
  refine lv_iconst hx hb dX5_dealt_231 rfl ?_
  refine zr_iadd hF dX5_dealt_232 ?_
  refine zr_put hF hw zEf_6_0 (by decide) zC_6 27 (by decide) (by decide) qw_849 rfl (by decide +kernel) h dX5_dealt_233 (fun g H locs hw h => ?_)
  refine lv_aload_n hx hb dX5_dealt_236 rfl (lv_at hl 1 rfl) ?_
  refine lv_dup hx hb dX5_dealt_237 rfl ?_
  refine zr_get hF hw zEf_6_0 (by decide) zC_6 28 (by decide) qw_850 rfl dX5_dealt_238 ?_
  refine lv_iload hx hb dX5_dealt_241 (lv_at hl 5 rfl) ?_
  refine lv_iconst hx hb dX5_dealt_243 rfl ?_
  refine zr_icmp_ne (tgt := 251) hF h dX5_dealt_244 (by decide) (fun h => ?_) (fun h => ?_)
  · refine lv_iconst hx hb dX5_dealt_251 rfl ?_
    exact wX5_dealt_j252 hF hr hK0 hK1 hK2 hK3  hw (lv_sub hl [1, 2, 3, 4, 0] rfl) h
  · refine lv_iconst hx hb dX5_dealt_247 rfl ?_
    refine lv_goto (tgt := 252) hx hb dX5_dealt_248 (by decide) ?_
    exact wX5_dealt_j252 hF hr hK0 hK1 hK2 hK3  hw (lv_sub hl [1, 2, 3, 4, 0] rfl) h
set_option maxHeartbeats 4000000 in
set_option maxRecDepth 100000 in
theorem wX5_dealt_h5 {p : Program} {l : Launch} {e : Env} {s : State} {m : MethodId} {args : Array Value} {below : List Frame} {meth : Method} {c : Code} {X : zC} {N : zN} {r : Int} {g' : zG} {H : Heap} {locs : List Loc} {ls : Array Slot} (hF : zF p s m args meth c X cX5_dealt 6 RX5) (hr : meth.sig.returnType = none) {n : Nat} {K : Nat → Int → Int → zG → Option (Int × zG)} (hK0 : ∀ (x1 : Int) (x2 : Int) (g : zG) (H : Heap) (locs : List Loc) (ls : Array Slot), zH X N g s H locs → lv_has ls 6 [(0, z_r N 6 0), (1, z_v x1)] → K 0 x1 x2 g = some (r, g') → W p l e { frames := 4, cells := 0, slots := 0, locals := 96 } s m args below meth c H locs 0 0 (MQ below (zQv X N g') args s 0 0 (zA X)) (F0 m 5 ls [])) (hK1 : ∀ (x1 : Int) (x2 : Int) (g : zG) (H : Heap) (locs : List Loc) (ls : Array Slot), zH X N g s H locs → lv_has ls 6 [(0, z_r N 6 0), (1, z_v x1), (2, z_v x2)] → K 1 x1 x2 g = some (r, g') → W p l e { frames := 4, cells := 0, slots := 0, locals := 96 } s m args below meth c H locs 0 0 (MQ below (zQv X N g') args s 0 0 (zA X)) (F0 m 80 ls [])) (hK2 : ∀ (x1 : Int) (x2 : Int) (g : zG) (H : Heap) (locs : List Loc) (ls : Array Slot), zH X N g s H locs → lv_has ls 6 [(0, z_r N 6 0), (1, z_v x1), (2, z_v x2)] → K 2 x1 x2 g = some (r, g') → W p l e { frames := 4, cells := 0, slots := 0, locals := 96 } s m args below meth c H locs 0 0 (MQ below (zQv X N g') args s 0 0 (zA X)) (F0 m 112 ls [])) (hK3 : ∀ (x1 : Int) (x2 : Int) (g : zG) (H : Heap) (locs : List Loc) (ls : Array Slot), zH X N g s H locs → lv_has ls 6 [(0, z_r N 6 0), (1, z_v x1), (2, z_v x2)] → K 3 x1 x2 g = some (r, g') → W p l e { frames := 4, cells := 0, slots := 0, locals := 96 } s m args below meth c H locs 0 0 (MQ below (zQv X N g') args s 0 0 (zA X)) (F0 m 166 ls [])) {x1 : Int} {x2 : Int} {g : zG} (hw : zH X N g s H locs) (hl : lv_has ls 6 [(0, z_r N 6 0), (1, z_v x1)]) (h : sX5_dealt_h5 n K x1 x2 g = some (r, g')) : W p l e { frames := 4, cells := 0, slots := 0, locals := 96 } s m args below meth c H locs 0 0 (MQ below (zQv X N g') args s 0 0 (zA X)) (F0 m 5 ls []) := by
  have hx := hF.1.1
  have hb := hF.1.2.1
  unfold sX5_dealt_h5 at h
  refine lv_aload_n hx hb dX5_dealt_5 rfl (lv_at hl 0 rfl) ?_
  refine zr_get hF hw zEf_6_0 (by decide) zC_6 18 (by decide) qw_840 rfl dX5_dealt_6 ?_
  refine lv_iload_n hx hb dX5_dealt_9 rfl (lv_at hl 1 rfl) ?_
  refine zr_iald hF hw zEf_35_0 (by decide) h dX5_dealt_10 (fun h => ?_)
  refine zr_if_le (tgt := 55) hF h dX5_dealt_11 (by decide) (fun h => ?_) (fun h => ?_)
  · exact wX5_dealt_j55 hF hr hK0 hK1 hK2 hK3  hw (lv_sub hl [0, 1] rfl) h
  · refine lv_aload_n hx hb dX5_dealt_14 rfl (lv_at hl 0 rfl) ?_
    refine lv_iload_n hx hb dX5_dealt_15 rfl (lv_at hl 1 rfl) ?_
    refine lv_aload_n hx hb dX5_dealt_16 rfl (lv_at hl 0 rfl) ?_
    refine zr_get hF hw zEf_6_0 (by decide) zC_6 24 (by decide) qw_846 rfl dX5_dealt_17 ?_
    obtain ⟨r1, g1, h1, h⟩ := zbd_some h
    refine zr_callVi (n := 2) (As := [z_v x1, z_v (g 6 0 24)]) (rest := []) hF hw (czX5_begin l X N h1) zEf_6_0 (by decide) zC_6 (z_goodV qw_1016 qw_1018 qw_23 qw_42 qw_1019) (by decide +kernel) ⟨Nat.le_of_ble_eq_true rfl, Nat.le_of_ble_eq_true rfl⟩ ⟨rfl, rfl⟩ rfl hl.1 rfl (Nat.le_of_ble_eq_true rfl) dX5_dealt_20 ⟨Nat.le_of_ble_eq_true rfl, Nat.le_of_ble_eq_true rfl⟩ (fun H locs hw => ?_)
    clear h1
    generalize g1 = g at *
    refine lv_aload_n hx hb dX5_dealt_23 rfl (lv_at hl 0 rfl) ?_
    refine zr_get hF hw zEf_6_0 (by decide) zC_6 17 (by decide) qw_839 rfl dX5_dealt_24 ?_
    refine lv_iload_n hx hb dX5_dealt_27 rfl (lv_at hl 1 rfl) ?_
    refine zr_iald hF hw zEf_34_0 (by decide) h dX5_dealt_28 (fun h => ?_)
    refine zr_icmp_ge (tgt := 55) hF h dX5_dealt_29 (by decide) (fun h => ?_) (fun h => ?_)
    · exact wX5_dealt_j55 hF hr hK0 hK1 hK2 hK3  hw (lv_sub hl [0, 1] rfl) h
    · refine lv_aload_n hx hb dX5_dealt_32 rfl (lv_at hl 0 rfl) ?_
      refine zr_get hF hw zEf_6_0 (by decide) zC_6 23 (by decide) qw_845 rfl dX5_dealt_33 ?_
      refine lv_aload_n hx hb dX5_dealt_36 rfl (lv_at hl 0 rfl) ?_
      refine zr_get hF hw zEf_6_0 (by decide) zC_6 24 (by decide) qw_846 rfl dX5_dealt_37 ?_
      refine lv_iconst hx hb dX5_dealt_40 rfl ?_
      refine zr_zast hF hw zEf_40_0 (by decide) h dX5_dealt_41 (fun g H locs hw h => ?_)
      refine lv_aload_n hx hb dX5_dealt_42 rfl (lv_at hl 0 rfl) ?_
      refine lv_dup hx hb dX5_dealt_43 rfl ?_
      refine zr_get hF hw zEf_6_0 (by decide) zC_6 24 (by decide) qw_846 rfl dX5_dealt_44 ?_
      refine lv_iconst hx hb dX5_dealt_47 rfl ?_
      refine zr_iadd hF dX5_dealt_48 ?_
      refine zr_put hF hw zEf_6_0 (by decide) zC_6 24 (by decide) (by decide) qw_846 rfl (by decide +kernel) h dX5_dealt_49 (fun g H locs hw h => ?_)
      refine lv_goto (tgt := 5) hx hb dX5_dealt_52 (by decide) ?_
      exact hK0 x1 0 _ _ _ _  hw (lv_sub hl [0, 1] rfl) h
set_option maxHeartbeats 4000000 in
set_option maxRecDepth 100000 in
theorem wX5_dealt_h80 {p : Program} {l : Launch} {e : Env} {s : State} {m : MethodId} {args : Array Value} {below : List Frame} {meth : Method} {c : Code} {X : zC} {N : zN} {r : Int} {g' : zG} {H : Heap} {locs : List Loc} {ls : Array Slot} (hF : zF p s m args meth c X cX5_dealt 6 RX5) (hr : meth.sig.returnType = none) {n : Nat} {K : Nat → Int → Int → zG → Option (Int × zG)} (hK0 : ∀ (x1 : Int) (x2 : Int) (g : zG) (H : Heap) (locs : List Loc) (ls : Array Slot), zH X N g s H locs → lv_has ls 6 [(0, z_r N 6 0), (1, z_v x1)] → K 0 x1 x2 g = some (r, g') → W p l e { frames := 4, cells := 0, slots := 0, locals := 96 } s m args below meth c H locs 0 0 (MQ below (zQv X N g') args s 0 0 (zA X)) (F0 m 5 ls [])) (hK1 : ∀ (x1 : Int) (x2 : Int) (g : zG) (H : Heap) (locs : List Loc) (ls : Array Slot), zH X N g s H locs → lv_has ls 6 [(0, z_r N 6 0), (1, z_v x1), (2, z_v x2)] → K 1 x1 x2 g = some (r, g') → W p l e { frames := 4, cells := 0, slots := 0, locals := 96 } s m args below meth c H locs 0 0 (MQ below (zQv X N g') args s 0 0 (zA X)) (F0 m 80 ls [])) (hK2 : ∀ (x1 : Int) (x2 : Int) (g : zG) (H : Heap) (locs : List Loc) (ls : Array Slot), zH X N g s H locs → lv_has ls 6 [(0, z_r N 6 0), (1, z_v x1), (2, z_v x2)] → K 2 x1 x2 g = some (r, g') → W p l e { frames := 4, cells := 0, slots := 0, locals := 96 } s m args below meth c H locs 0 0 (MQ below (zQv X N g') args s 0 0 (zA X)) (F0 m 112 ls [])) (hK3 : ∀ (x1 : Int) (x2 : Int) (g : zG) (H : Heap) (locs : List Loc) (ls : Array Slot), zH X N g s H locs → lv_has ls 6 [(0, z_r N 6 0), (1, z_v x1), (2, z_v x2)] → K 3 x1 x2 g = some (r, g') → W p l e { frames := 4, cells := 0, slots := 0, locals := 96 } s m args below meth c H locs 0 0 (MQ below (zQv X N g') args s 0 0 (zA X)) (F0 m 166 ls [])) {x1 : Int} {x2 : Int} {g : zG} (hw : zH X N g s H locs) (hl : lv_has ls 6 [(0, z_r N 6 0), (1, z_v x1), (2, z_v x2)]) (h : sX5_dealt_h80 n K x1 x2 g = some (r, g')) : W p l e { frames := 4, cells := 0, slots := 0, locals := 96 } s m args below meth c H locs 0 0 (MQ below (zQv X N g') args s 0 0 (zA X)) (F0 m 80 ls []) := by
  have hx := hF.1.1
  have hb := hF.1.2.1
  unfold sX5_dealt_h80 at h
  refine lv_iload_n hx hb dX5_dealt_80 rfl (lv_at hl 2 rfl) ?_
  refine lv_bipush (v := Int32.ofInt (24)) hx hb dX5_dealt_81 (by decide) ?_
  refine zr_icmp_ge (tgt := 104) hF h dX5_dealt_83 (by decide) (fun h => ?_) (fun h => ?_)
  · refine lv_aload_n hx hb dX5_dealt_104 rfl (lv_at hl 0 rfl) ?_
    refine lv_iload_n hx hb dX5_dealt_105 rfl (lv_at hl 1 rfl) ?_
    refine lv_iconst hx hb dX5_dealt_106 rfl ?_
    refine lv_iconst hx hb dX5_dealt_107 rfl ?_
    obtain ⟨r1, g1, h1, h⟩ := zbd_some h
    refine zr_callVi (n := 3) (As := [z_v x1, z_v ((-1)), z_v 1]) (rest := []) hF hw (czX5_nextOf l X N h1) zEf_6_0 (by decide) zC_6 (z_goodV qw_1020 qw_1022 qw_24 qw_42 qw_1023) (by decide +kernel) ⟨Nat.le_of_ble_eq_true rfl, Nat.le_of_ble_eq_true rfl⟩ ⟨rfl, rfl⟩ rfl hl.1 rfl (Nat.le_of_ble_eq_true rfl) dX5_dealt_108 ⟨Nat.le_of_ble_eq_true rfl, Nat.le_of_ble_eq_true rfl⟩ (fun H locs hw => ?_)
    clear h1
    generalize g1 = g at *
    refine lv_istore_n (lv' := [(2, z_v r1), (0, z_r N 6 0), (1, z_v x1)]) hx hb dX5_dealt_111 rfl hl (by decide) rfl (fun ls hl => ?_)
    exact hK2 x1 r1 _ _ _ _  hw (lv_sub hl [1, 2, 0] rfl) h
  · refine lv_aload_n hx hb dX5_dealt_86 rfl (lv_at hl 0 rfl) ?_
    refine zr_get hF hw zEf_6_0 (by decide) zC_6 29 (by decide) qw_851 rfl dX5_dealt_87 ?_
    refine lv_bipush (v := Int32.ofInt (24)) hx hb dX5_dealt_90 (by decide) ?_
    refine lv_iload_n hx hb dX5_dealt_92 rfl (lv_at hl 1 rfl) ?_
    refine zr_imul hF dX5_dealt_93 ?_
    refine lv_iload_n hx hb dX5_dealt_94 rfl (lv_at hl 2 rfl) ?_
    refine zr_iadd hF dX5_dealt_95 ?_
    refine lv_iconst hx hb dX5_dealt_96 rfl ?_
    refine zr_iast hF hw zEf_41_0 (by decide) h dX5_dealt_97 (fun g H locs hw h => ?_)
    refine zr_iinc hF (lv' := fun v2 => [(2, z_v v2), (0, z_r N 6 0), (1, z_v x1)]) h dX5_dealt_98 hl (k := 2) rfl (by decide) (fun _ => rfl) (fun v2 ls hl h => ?_)
    refine lv_goto (tgt := 80) hx hb dX5_dealt_101 (by decide) ?_
    exact hK1 x1 v2 _ _ _ _  hw (lv_sub hl [1, 2, 0] rfl) h
set_option maxHeartbeats 4000000 in
set_option maxRecDepth 100000 in
theorem wX5_dealt_h112 {p : Program} {l : Launch} {e : Env} {s : State} {m : MethodId} {args : Array Value} {below : List Frame} {meth : Method} {c : Code} {X : zC} {N : zN} {r : Int} {g' : zG} {H : Heap} {locs : List Loc} {ls : Array Slot} (hF : zF p s m args meth c X cX5_dealt 6 RX5) (hr : meth.sig.returnType = none) {n : Nat} {K : Nat → Int → Int → zG → Option (Int × zG)} (hK0 : ∀ (x1 : Int) (x2 : Int) (g : zG) (H : Heap) (locs : List Loc) (ls : Array Slot), zH X N g s H locs → lv_has ls 6 [(0, z_r N 6 0), (1, z_v x1)] → K 0 x1 x2 g = some (r, g') → W p l e { frames := 4, cells := 0, slots := 0, locals := 96 } s m args below meth c H locs 0 0 (MQ below (zQv X N g') args s 0 0 (zA X)) (F0 m 5 ls [])) (hK1 : ∀ (x1 : Int) (x2 : Int) (g : zG) (H : Heap) (locs : List Loc) (ls : Array Slot), zH X N g s H locs → lv_has ls 6 [(0, z_r N 6 0), (1, z_v x1), (2, z_v x2)] → K 1 x1 x2 g = some (r, g') → W p l e { frames := 4, cells := 0, slots := 0, locals := 96 } s m args below meth c H locs 0 0 (MQ below (zQv X N g') args s 0 0 (zA X)) (F0 m 80 ls [])) (hK2 : ∀ (x1 : Int) (x2 : Int) (g : zG) (H : Heap) (locs : List Loc) (ls : Array Slot), zH X N g s H locs → lv_has ls 6 [(0, z_r N 6 0), (1, z_v x1), (2, z_v x2)] → K 2 x1 x2 g = some (r, g') → W p l e { frames := 4, cells := 0, slots := 0, locals := 96 } s m args below meth c H locs 0 0 (MQ below (zQv X N g') args s 0 0 (zA X)) (F0 m 112 ls [])) (hK3 : ∀ (x1 : Int) (x2 : Int) (g : zG) (H : Heap) (locs : List Loc) (ls : Array Slot), zH X N g s H locs → lv_has ls 6 [(0, z_r N 6 0), (1, z_v x1), (2, z_v x2)] → K 3 x1 x2 g = some (r, g') → W p l e { frames := 4, cells := 0, slots := 0, locals := 96 } s m args below meth c H locs 0 0 (MQ below (zQv X N g') args s 0 0 (zA X)) (F0 m 166 ls [])) {x1 : Int} {x2 : Int} {g : zG} (hw : zH X N g s H locs) (hl : lv_has ls 6 [(0, z_r N 6 0), (1, z_v x1), (2, z_v x2)]) (h : sX5_dealt_h112 n K x1 x2 g = some (r, g')) : W p l e { frames := 4, cells := 0, slots := 0, locals := 96 } s m args below meth c H locs 0 0 (MQ below (zQv X N g') args s 0 0 (zA X)) (F0 m 112 ls []) := by
  have hx := hF.1.1
  have hb := hF.1.2.1
  unfold sX5_dealt_h112 at h
  refine lv_iload_n hx hb dX5_dealt_112 rfl (lv_at hl 2 rfl) ?_
  refine lv_iconst hx hb dX5_dealt_113 rfl ?_
  refine zr_icmp_eq (tgt := 158) hF h dX5_dealt_114 (by decide) (fun h => ?_) (fun h => ?_)
  · refine lv_aload_n hx hb dX5_dealt_158 rfl (lv_at hl 0 rfl) ?_
    refine lv_iload_n hx hb dX5_dealt_159 rfl (lv_at hl 1 rfl) ?_
    refine lv_iconst hx hb dX5_dealt_160 rfl ?_
    refine lv_iconst hx hb dX5_dealt_161 rfl ?_
    obtain ⟨r1, g1, h1, h⟩ := zbd_some h
    refine zr_callVi (n := 3) (As := [z_v x1, z_v ((-1)), z_v 0]) (rest := []) hF hw (czX5_nextOf l X N h1) zEf_6_0 (by decide) zC_6 (z_goodV qw_1020 qw_1022 qw_24 qw_42 qw_1023) (by decide +kernel) ⟨Nat.le_of_ble_eq_true rfl, Nat.le_of_ble_eq_true rfl⟩ ⟨rfl, rfl⟩ rfl hl.1 rfl (Nat.le_of_ble_eq_true rfl) dX5_dealt_162 ⟨Nat.le_of_ble_eq_true rfl, Nat.le_of_ble_eq_true rfl⟩ (fun H locs hw => ?_)
    clear h1
    generalize g1 = g at *
    refine lv_istore_n (lv' := [(2, z_v r1), (0, z_r N 6 0), (1, z_v x1)]) hx hb dX5_dealt_165 rfl hl (by decide) rfl (fun ls hl => ?_)
    exact hK3 x1 r1 _ _ _ _  hw (lv_sub hl [1, 2, 0] rfl) h
  · refine lv_aload_n hx hb dX5_dealt_117 rfl (lv_at hl 0 rfl) ?_
    refine lv_iload_n hx hb dX5_dealt_118 rfl (lv_at hl 1 rfl) ?_
    refine lv_iload_n hx hb dX5_dealt_119 rfl (lv_at hl 2 rfl) ?_
    refine lv_iconst hx hb dX5_dealt_120 rfl ?_
    obtain ⟨r2, g1, h1, h⟩ := zbd_some h
    refine zr_callVi (n := 3) (As := [z_v x1, z_v x2, z_v 1]) (rest := []) hF hw (czX5_timeOf l X N h1) zEf_6_0 (by decide) zC_6 (z_goodV qw_1024 qw_1026 qw_25 qw_42 qw_1027) (by decide +kernel) ⟨Nat.le_of_ble_eq_true rfl, Nat.le_of_ble_eq_true rfl⟩ ⟨rfl, rfl⟩ rfl hl.1 rfl (Nat.le_of_ble_eq_true rfl) dX5_dealt_121 ⟨Nat.le_of_ble_eq_true rfl, Nat.le_of_ble_eq_true rfl⟩ (fun H locs hw => ?_)
    clear h1
    generalize g1 = g at *
    refine lv_istore_n (lv' := [(3, z_v r2), (0, z_r N 6 0), (1, z_v x1), (2, z_v x2)]) hx hb dX5_dealt_124 rfl hl (by decide) rfl (fun ls hl => ?_)
    refine lv_aload_n hx hb dX5_dealt_125 rfl (lv_at hl 1 rfl) ?_
    refine lv_dup hx hb dX5_dealt_126 rfl ?_
    refine zr_get hF hw zEf_6_0 (by decide) zC_6 26 (by decide) qw_848 rfl dX5_dealt_127 ?_
    refine lv_iconst hx hb dX5_dealt_130 rfl ?_
    refine zr_iadd hF dX5_dealt_131 ?_
    refine zr_put hF hw zEf_6_0 (by decide) zC_6 26 (by decide) (by decide) qw_848 rfl (by decide +kernel) h dX5_dealt_132 (fun g H locs hw h => ?_)
    refine lv_aload_n hx hb dX5_dealt_135 rfl (lv_at hl 1 rfl) ?_
    refine lv_iload_n hx hb dX5_dealt_136 rfl (lv_at hl 2 rfl) ?_
    refine lv_iload_n hx hb dX5_dealt_137 rfl (lv_at hl 0 rfl) ?_
    obtain ⟨r3, g1, h1, h⟩ := zbd_some h
    refine zr_callVi (n := 2) (As := [z_v x1, z_v r2]) (rest := []) hF hw (czX5_takes l X N h1) zEf_6_0 (by decide) zC_6 (z_goodV qw_1032 qw_1034 qw_27 qw_42 qw_1035) (by decide +kernel) ⟨Nat.le_of_ble_eq_true rfl, Nat.le_of_ble_eq_true rfl⟩ ⟨rfl, rfl⟩ rfl hl.1 rfl (Nat.le_of_ble_eq_true rfl) dX5_dealt_138 ⟨Nat.le_of_ble_eq_true rfl, Nat.le_of_ble_eq_true rfl⟩ (fun H locs hw => ?_)
    clear h1
    generalize g1 = g at *
    refine lv_pop hx hb dX5_dealt_141 rfl ?_
    refine lv_aload_n hx hb dX5_dealt_142 rfl (lv_at hl 1 rfl) ?_
    refine lv_iload_n hx hb dX5_dealt_143 rfl (lv_at hl 2 rfl) ?_
    refine lv_bipush (v := Int32.ofInt (24)) hx hb dX5_dealt_144 (by decide) ?_
    refine lv_iload_n hx hb dX5_dealt_146 rfl (lv_at hl 0 rfl) ?_
    refine zr_imul hF dX5_dealt_147 ?_
    refine lv_iload_n hx hb dX5_dealt_148 rfl (lv_at hl 3 rfl) ?_
    refine zr_iadd hF dX5_dealt_149 ?_
    refine lv_iconst hx hb dX5_dealt_150 rfl ?_
    obtain ⟨r4, g1, h1, h⟩ := zbd_some h
    refine zr_callVi (n := 3) (As := [z_v x1, z_v ((24 * r2) + x2), z_v 1]) (rest := []) hF hw (czX5_nextOf l X N h1) zEf_6_0 (by decide) zC_6 (z_goodV qw_1020 qw_1022 qw_24 qw_42 qw_1023) (by decide +kernel) ⟨Nat.le_of_ble_eq_true rfl, Nat.le_of_ble_eq_true rfl⟩ ⟨rfl, rfl⟩ rfl hl.1 rfl (Nat.le_of_ble_eq_true rfl) dX5_dealt_151 ⟨Nat.le_of_ble_eq_true rfl, Nat.le_of_ble_eq_true rfl⟩ (fun H locs hw => ?_)
    clear h1
    generalize g1 = g at *
    refine lv_istore_n (lv' := [(2, z_v r4), (3, z_v r2), (0, z_r N 6 0), (1, z_v x1)]) hx hb dX5_dealt_154 rfl hl (by decide) rfl (fun ls hl => ?_)
    refine lv_goto (tgt := 112) hx hb dX5_dealt_155 (by decide) ?_
    exact hK2 x1 r4 _ _ _ _  hw (lv_sub hl [2, 3, 0] rfl) h
set_option maxHeartbeats 4000000 in
set_option maxRecDepth 100000 in
theorem wX5_dealt_h166 {p : Program} {l : Launch} {e : Env} {s : State} {m : MethodId} {args : Array Value} {below : List Frame} {meth : Method} {c : Code} {X : zC} {N : zN} {r : Int} {g' : zG} {H : Heap} {locs : List Loc} {ls : Array Slot} (hF : zF p s m args meth c X cX5_dealt 6 RX5) (hr : meth.sig.returnType = none) {n : Nat} {K : Nat → Int → Int → zG → Option (Int × zG)} (hK0 : ∀ (x1 : Int) (x2 : Int) (g : zG) (H : Heap) (locs : List Loc) (ls : Array Slot), zH X N g s H locs → lv_has ls 6 [(0, z_r N 6 0), (1, z_v x1)] → K 0 x1 x2 g = some (r, g') → W p l e { frames := 4, cells := 0, slots := 0, locals := 96 } s m args below meth c H locs 0 0 (MQ below (zQv X N g') args s 0 0 (zA X)) (F0 m 5 ls [])) (hK1 : ∀ (x1 : Int) (x2 : Int) (g : zG) (H : Heap) (locs : List Loc) (ls : Array Slot), zH X N g s H locs → lv_has ls 6 [(0, z_r N 6 0), (1, z_v x1), (2, z_v x2)] → K 1 x1 x2 g = some (r, g') → W p l e { frames := 4, cells := 0, slots := 0, locals := 96 } s m args below meth c H locs 0 0 (MQ below (zQv X N g') args s 0 0 (zA X)) (F0 m 80 ls [])) (hK2 : ∀ (x1 : Int) (x2 : Int) (g : zG) (H : Heap) (locs : List Loc) (ls : Array Slot), zH X N g s H locs → lv_has ls 6 [(0, z_r N 6 0), (1, z_v x1), (2, z_v x2)] → K 2 x1 x2 g = some (r, g') → W p l e { frames := 4, cells := 0, slots := 0, locals := 96 } s m args below meth c H locs 0 0 (MQ below (zQv X N g') args s 0 0 (zA X)) (F0 m 112 ls [])) (hK3 : ∀ (x1 : Int) (x2 : Int) (g : zG) (H : Heap) (locs : List Loc) (ls : Array Slot), zH X N g s H locs → lv_has ls 6 [(0, z_r N 6 0), (1, z_v x1), (2, z_v x2)] → K 3 x1 x2 g = some (r, g') → W p l e { frames := 4, cells := 0, slots := 0, locals := 96 } s m args below meth c H locs 0 0 (MQ below (zQv X N g') args s 0 0 (zA X)) (F0 m 166 ls [])) {x1 : Int} {x2 : Int} {g : zG} (hw : zH X N g s H locs) (hl : lv_has ls 6 [(0, z_r N 6 0), (1, z_v x1), (2, z_v x2)]) (h : sX5_dealt_h166 n K x1 x2 g = some (r, g')) : W p l e { frames := 4, cells := 0, slots := 0, locals := 96 } s m args below meth c H locs 0 0 (MQ below (zQv X N g') args s 0 0 (zA X)) (F0 m 166 ls []) := by
  have hx := hF.1.1
  have hb := hF.1.2.1
  unfold sX5_dealt_h166 at h
  refine lv_iload_n hx hb dX5_dealt_166 rfl (lv_at hl 2 rfl) ?_
  refine lv_iconst hx hb dX5_dealt_167 rfl ?_
  refine zr_icmp_eq (tgt := 287) hF h dX5_dealt_168 (by decide) (fun h => ?_) (fun h => ?_)
  · exact zr_vret hF hr hw h dX5_dealt_287
  · refine lv_aload_n hx hb dX5_dealt_171 rfl (lv_at hl 0 rfl) ?_
    refine lv_iload_n hx hb dX5_dealt_172 rfl (lv_at hl 1 rfl) ?_
    refine lv_iload_n hx hb dX5_dealt_173 rfl (lv_at hl 2 rfl) ?_
    refine lv_iconst hx hb dX5_dealt_174 rfl ?_
    obtain ⟨r1, g1, h1, h⟩ := zbd_some h
    refine zr_callVi (n := 3) (As := [z_v x1, z_v x2, z_v 0]) (rest := []) hF hw (czX5_timeOf l X N h1) zEf_6_0 (by decide) zC_6 (z_goodV qw_1024 qw_1026 qw_25 qw_42 qw_1027) (by decide +kernel) ⟨Nat.le_of_ble_eq_true rfl, Nat.le_of_ble_eq_true rfl⟩ ⟨rfl, rfl⟩ rfl hl.1 rfl (Nat.le_of_ble_eq_true rfl) dX5_dealt_175 ⟨Nat.le_of_ble_eq_true rfl, Nat.le_of_ble_eq_true rfl⟩ (fun H locs hw => ?_)
    clear h1
    generalize g1 = g at *
    refine lv_istore_n (lv' := [(3, z_v r1), (0, z_r N 6 0), (1, z_v x1), (2, z_v x2)]) hx hb dX5_dealt_178 rfl hl (by decide) rfl (fun ls hl => ?_)
    refine lv_aload_n hx hb dX5_dealt_179 rfl (lv_at hl 1 rfl) ?_
    refine lv_iload_n hx hb dX5_dealt_180 rfl (lv_at hl 2 rfl) ?_
    refine lv_iload_n hx hb dX5_dealt_181 rfl (lv_at hl 0 rfl) ?_
    obtain ⟨r2, g1, h1, h⟩ := zbd_some h
    refine zr_callVi (n := 2) (As := [z_v x1, z_v r1]) (rest := []) hF hw (czX5_takes l X N h1) zEf_6_0 (by decide) zC_6 (z_goodV qw_1032 qw_1034 qw_27 qw_42 qw_1035) (by decide +kernel) ⟨Nat.le_of_ble_eq_true rfl, Nat.le_of_ble_eq_true rfl⟩ ⟨rfl, rfl⟩ rfl hl.1 rfl (Nat.le_of_ble_eq_true rfl) dX5_dealt_182 ⟨Nat.le_of_ble_eq_true rfl, Nat.le_of_ble_eq_true rfl⟩ (fun H locs hw => ?_)
    clear h1
    generalize g1 = g at *
    refine lv_istore (lv' := [(4, z_v r2), (3, z_v r1), (0, z_r N 6 0), (1, z_v x1), (2, z_v x2)]) hx hb dX5_dealt_185 hl (by decide) rfl (fun ls hl => ?_)
    refine lv_iload hx hb dX5_dealt_187 (lv_at hl 0 rfl) ?_
    refine lv_iconst hx hb dX5_dealt_189 rfl ?_
    refine zr_icmp_ne (tgt := 202) hF h dX5_dealt_190 (by decide) (fun h => ?_) (fun h => ?_)
    · refine lv_aload_n hx hb dX5_dealt_202 rfl (lv_at hl 2 rfl) ?_
      refine lv_iload_n hx hb dX5_dealt_203 rfl (lv_at hl 3 rfl) ?_
      refine lv_iload hx hb dX5_dealt_204 (lv_at hl 0 rfl) ?_
      obtain ⟨r3, g1, h1, h⟩ := zbd_some h
      refine zr_callVi (n := 2) (As := [z_v x1, z_v r2]) (rest := []) hF hw (czX5_begin l X N h1) zEf_6_0 (by decide) zC_6 (z_goodV qw_1016 qw_1018 qw_23 qw_42 qw_1019) (by decide +kernel) ⟨Nat.le_of_ble_eq_true rfl, Nat.le_of_ble_eq_true rfl⟩ ⟨rfl, rfl⟩ rfl hl.1 rfl (Nat.le_of_ble_eq_true rfl) dX5_dealt_206 ⟨Nat.le_of_ble_eq_true rfl, Nat.le_of_ble_eq_true rfl⟩ (fun H locs hw => ?_)
      clear h1
      generalize g1 = g at *
      refine lv_iload_n hx hb dX5_dealt_209 rfl (lv_at hl 1 rfl) ?_
      refine zr_icmp_le (tgt := 223) hF h dX5_dealt_210 (by decide) (fun h => ?_) (fun h => ?_)
      · refine lv_iload_n hx hb dX5_dealt_223 rfl (lv_at hl 1 rfl) ?_
        exact wX5_dealt_j224 hF hr hK0 hK1 hK2 hK3  hw (lv_sub hl [2, 3, 4, 1, 0] rfl) h
      · refine lv_aload_n hx hb dX5_dealt_213 rfl (lv_at hl 2 rfl) ?_
        refine lv_iload_n hx hb dX5_dealt_214 rfl (lv_at hl 3 rfl) ?_
        refine lv_iload hx hb dX5_dealt_215 (lv_at hl 0 rfl) ?_
        obtain ⟨r4, g1, h1, h⟩ := zbd_some h
        refine zr_callVi (n := 2) (As := [z_v x1, z_v r2]) (rest := []) hF hw (czX5_begin l X N h1) zEf_6_0 (by decide) zC_6 (z_goodV qw_1016 qw_1018 qw_23 qw_42 qw_1019) (by decide +kernel) ⟨Nat.le_of_ble_eq_true rfl, Nat.le_of_ble_eq_true rfl⟩ ⟨rfl, rfl⟩ rfl hl.1 rfl (Nat.le_of_ble_eq_true rfl) dX5_dealt_217 ⟨Nat.le_of_ble_eq_true rfl, Nat.le_of_ble_eq_true rfl⟩ (fun H locs hw => ?_)
        clear h1
        generalize g1 = g at *
        refine lv_goto (tgt := 224) hx hb dX5_dealt_220 (by decide) ?_
        exact wX5_dealt_j224 hF hr hK0 hK1 hK2 hK3  hw (lv_sub hl [2, 3, 4, 1, 0] rfl) h
    · refine lv_aload_n hx hb dX5_dealt_193 rfl (lv_at hl 2 rfl) ?_
      refine zr_get hF hw zEf_6_0 (by decide) zC_6 17 (by decide) qw_839 rfl dX5_dealt_194 ?_
      refine lv_iload_n hx hb dX5_dealt_197 rfl (lv_at hl 3 rfl) ?_
      refine zr_iald hF hw zEf_34_0 (by decide) h dX5_dealt_198 (fun h => ?_)
      refine lv_goto (tgt := 224) hx hb dX5_dealt_199 (by decide) ?_
      exact wX5_dealt_j224 hF hr hK0 hK1 hK2 hK3  hw (lv_sub hl [2, 3, 4, 1, 0] rfl) h
set_option maxHeartbeats 4000000 in
set_option maxRecDepth 100000 in
theorem wX5_dealt_run {p : Program} {l : Launch} {e : Env} {s : State} {m : MethodId} {args : Array Value} {below : List Frame} {meth : Method} {c : Code} {X : zC} {N : zN} {r : Int} {g' : zG} (hF : zF p s m args meth c X cX5_dealt 6 RX5) (hr : meth.sig.returnType = none) {n0 : Nat} : ∀ n : Nat, (∀ (x1 : Int) (x2 : Int) (g : zG) (H : Heap) (locs : List Loc) (ls : Array Slot), zH X N g s H locs → lv_has ls 6 [(0, z_r N 6 0), (1, z_v x1)] → sX5_dealt_run n0 n 0 x1 x2 g = some (r, g') → W p l e { frames := 4, cells := 0, slots := 0, locals := 96 } s m args below meth c H locs 0 0 (MQ below (zQv X N g') args s 0 0 (zA X)) (F0 m 5 ls [])) ∧ (∀ (x1 : Int) (x2 : Int) (g : zG) (H : Heap) (locs : List Loc) (ls : Array Slot), zH X N g s H locs → lv_has ls 6 [(0, z_r N 6 0), (1, z_v x1), (2, z_v x2)] → sX5_dealt_run n0 n 1 x1 x2 g = some (r, g') → W p l e { frames := 4, cells := 0, slots := 0, locals := 96 } s m args below meth c H locs 0 0 (MQ below (zQv X N g') args s 0 0 (zA X)) (F0 m 80 ls [])) ∧ (∀ (x1 : Int) (x2 : Int) (g : zG) (H : Heap) (locs : List Loc) (ls : Array Slot), zH X N g s H locs → lv_has ls 6 [(0, z_r N 6 0), (1, z_v x1), (2, z_v x2)] → sX5_dealt_run n0 n 2 x1 x2 g = some (r, g') → W p l e { frames := 4, cells := 0, slots := 0, locals := 96 } s m args below meth c H locs 0 0 (MQ below (zQv X N g') args s 0 0 (zA X)) (F0 m 112 ls [])) ∧ (∀ (x1 : Int) (x2 : Int) (g : zG) (H : Heap) (locs : List Loc) (ls : Array Slot), zH X N g s H locs → lv_has ls 6 [(0, z_r N 6 0), (1, z_v x1), (2, z_v x2)] → sX5_dealt_run n0 n 3 x1 x2 g = some (r, g') → W p l e { frames := 4, cells := 0, slots := 0, locals := 96 } s m args below meth c H locs 0 0 (MQ below (zQv X N g') args s 0 0 (zA X)) (F0 m 166 ls [])) := by
  intro n
  induction n with
  | zero => exact ⟨fun _ _ _ _ _ _ _ _  h => (by cases h), fun _ _ _ _ _ _ _ _  h => (by cases h), fun _ _ _ _ _ _ _ _  h => (by cases h), fun _ _ _ _ _ _ _ _  h => (by cases h)⟩
  | succ n ih => exact ⟨fun x1 x2 g H locs ls  hw hl h => wX5_dealt_h5 hF hr ih.1 ih.2.1 ih.2.2.1 ih.2.2.2  hw hl h, fun x1 x2 g H locs ls  hw hl h => wX5_dealt_h80 hF hr ih.1 ih.2.1 ih.2.2.1 ih.2.2.2  hw hl h, fun x1 x2 g H locs ls  hw hl h => wX5_dealt_h112 hF hr ih.1 ih.2.1 ih.2.2.1 ih.2.2.2  hw hl h, fun x1 x2 g H locs ls  hw hl h => wX5_dealt_h166 hF hr ih.1 ih.2.1 ih.2.2.1 ih.2.2.2  hw hl h⟩
set_option maxHeartbeats 4000000 in
set_option maxRecDepth 100000 in
theorem czX5_dealt (l : Launch) (X : zC) (N : zN) {n : Nat} {x1 : Int} {g g' : zG} {r : Int} (h : sX5_dealt n x1 g = some (r, g')) : zM l yX5_dealt cX5_dealt 6 none { frames := 4, cells := 0, slots := 0, locals := 96 } X N g [z_r N 6 0, z_v x1] (zQv X N g') := by
  refine z_ofW (own := RX5) (by decide +kernel) rfl (Nat.le_of_ble_eq_true rfl) ?_
  intro p e s m args below meth c ls hF hr hw hl
  have hl : lv_has ls 6 [(0, z_r N 6 0), (1, z_v x1)] := hl
  have hx := hF.1.1
  have hb := hF.1.2.1
  have hKK := wX5_dealt_run hF hr (r := r) (g' := g') (X := X) (N := N) (n0 := n) (l := l) (e := e) (below := below) n
  have hK0 := hKK.1
  have hK1 := hKK.2.1
  have hK2 := hKK.2.2.1
  have hK3 := hKK.2.2.2
  unfold sX5_dealt at h
  generalize s.heap = H at hw ⊢
  generalize ([] : List Loc) = locs at hw ⊢
  refine lv_aload_n hx hb dX5_dealt_0 rfl (lv_at hl 0 rfl) ?_
  refine lv_iconst hx hb dX5_dealt_1 rfl ?_
  refine zr_put hF hw zEf_6_0 (by decide) zC_6 24 (by decide) (by decide) qw_846 rfl (by decide +kernel) h dX5_dealt_2 (fun g H locs hw h => ?_)
  exact hK0 x1 0 _ _ _ _  hw (lv_sub hl [0, 1] rfl) h
set_option maxHeartbeats 4000000 in
set_option maxRecDepth 100000 in
theorem wX5_regulationIs_j28 {p : Program} {l : Launch} {e : Env} {s : State} {m : MethodId} {args : Array Value} {below : List Frame} {meth : Method} {c : Code} {X : zC} {N : zN} {r : Int} {g' : zG} {H : Heap} {locs : List Loc} {ls : Array Slot} (hF : zF p s m args meth c X cX5_regulationIs 3 RX5) (hr : meth.sig.returnType = (some .int)) {n : Nat} {x1 : Int} {x2 : Int} {t1 : Int} {g : zG} (hw : zH X N g s H locs) (hl : lv_has ls 3 [(0, z_r N 6 0), (1, z_v x1), (2, z_v x2)]) (h : sX5_regulationIs_j28 n x1 x2 t1 g = some (r, g')) : W p l e { frames := 5, cells := 0, slots := 0, locals := 121 } s m args below meth c H locs 0 0 (MQ below (zQi X N r g') args s 0 0 (zA X)) (F0 m 28 ls [z_v t1, z_r N 6 0]) := by
  have hx := hF.1.1
  have hb := hF.1.2.1
  unfold sX5_regulationIs_j28 at h
  obtain ⟨r1, g1, h1, h⟩ := zbd_some h
  refine zr_callVi (n := 1) (As := [z_v t1]) (rest := []) hF hw (czX5_holds l X N h1) zEf_6_0 (by decide) zC_6 (z_goodV qw_925 qw_927 qw_14 qw_42 qw_928) (by decide +kernel) ⟨Nat.le_of_ble_eq_true rfl, Nat.le_of_ble_eq_true rfl⟩ ⟨rfl, rfl⟩ rfl hl.1 rfl (Nat.le_of_ble_eq_true rfl) dX5_regulationIs_28 ⟨Nat.le_of_ble_eq_true rfl, Nat.le_of_ble_eq_true rfl⟩ (fun H locs hw => ?_)
  clear h1
  generalize g1 = g at *
  refine zr_if_ne (tgt := 36) hF h dX5_regulationIs_31 (by decide) (fun h => ?_) (fun h => ?_)
  · refine lv_iload_n hx hb dX5_regulationIs_36 rfl (lv_at hl 2 rfl) ?_
    refine lv_iconst hx hb dX5_regulationIs_37 rfl ?_
    refine zr_icmp_le (tgt := 62) hF h dX5_regulationIs_38 (by decide) (fun h => ?_) (fun h => ?_)
    · refine lv_aload_n hx hb dX5_regulationIs_62 rfl (lv_at hl 0 rfl) ?_
      refine zr_get hF hw zEf_6_0 (by decide) zC_6 20 (by decide) qw_842 rfl dX5_regulationIs_63 ?_
      refine lv_iload_n hx hb dX5_regulationIs_66 rfl (lv_at hl 1 rfl) ?_
      refine zr_zald hF hw zEf_37_0 (by decide) h dX5_regulationIs_67 (fun h => ?_)
      refine zr_if_eq (tgt := 73) hF h dX5_regulationIs_68 (by decide) (fun h => ?_) (fun h => ?_)
      · refine lv_aload_n hx hb dX5_regulationIs_73 rfl (lv_at hl 0 rfl) ?_
        refine lv_iload_n hx hb dX5_regulationIs_74 rfl (lv_at hl 1 rfl) ?_
        obtain ⟨r2, g1, h1, h⟩ := zbd_some h
        refine zr_callVv (n := 1) (As := [z_v x1]) (rest := []) hF hw (czX5_dealt l X N h1) zEf_6_0 (by decide) zC_6 (z_goodV qw_1012 qw_1014 qw_22 qw_42 qw_1015) (by decide +kernel) ⟨Nat.le_of_ble_eq_true rfl, Nat.le_of_ble_eq_true rfl⟩ ⟨rfl, rfl⟩ rfl hl.1 rfl (Nat.le_of_ble_eq_true rfl) dX5_regulationIs_75 ⟨Nat.le_of_ble_eq_true rfl, Nat.le_of_ble_eq_true rfl⟩ (fun H locs hw => ?_)
        clear h1
        generalize g1 = g at *
        refine lv_iload_n hx hb dX5_regulationIs_78 rfl (lv_at hl 2 rfl) ?_
        refine zr_if_ne (tgt := 89) hF h dX5_regulationIs_79 (by decide) (fun h => ?_) (fun h => ?_)
        · refine lv_iload_n hx hb dX5_regulationIs_89 rfl (lv_at hl 2 rfl) ?_
          refine lv_iconst hx hb dX5_regulationIs_90 rfl ?_
          refine zr_icmp_ne (tgt := 101) hF h dX5_regulationIs_91 (by decide) (fun h => ?_) (fun h => ?_)
          · refine lv_iload_n hx hb dX5_regulationIs_101 rfl (lv_at hl 2 rfl) ?_
            refine lv_iconst hx hb dX5_regulationIs_102 rfl ?_
            refine zr_icmp_ne (tgt := 113) hF h dX5_regulationIs_103 (by decide) (fun h => ?_) (fun h => ?_)
            · refine lv_iload_n hx hb dX5_regulationIs_113 rfl (lv_at hl 2 rfl) ?_
              refine lv_iconst hx hb dX5_regulationIs_114 rfl ?_
              refine zr_icmp_ne (tgt := 125) hF h dX5_regulationIs_115 (by decide) (fun h => ?_) (fun h => ?_)
              · refine lv_aload_n hx hb dX5_regulationIs_125 rfl (lv_at hl 0 rfl) ?_
                refine zr_get hF hw zEf_6_0 (by decide) zC_6 28 (by decide) qw_850 rfl dX5_regulationIs_126 ?_
                exact zr_iret hF hr hw h dX5_regulationIs_129
              · refine lv_aload_n hx hb dX5_regulationIs_118 rfl (lv_at hl 0 rfl) ?_
                refine zr_get hF hw zEf_6_0 (by decide) zC_6 27 (by decide) qw_849 rfl dX5_regulationIs_119 ?_
                refine lv_goto (tgt := 129) hx hb dX5_regulationIs_122 (by decide) ?_
                exact zr_iret hF hr hw h dX5_regulationIs_129
            · refine lv_aload_n hx hb dX5_regulationIs_106 rfl (lv_at hl 0 rfl) ?_
              refine zr_get hF hw zEf_6_0 (by decide) zC_6 26 (by decide) qw_848 rfl dX5_regulationIs_107 ?_
              refine lv_goto (tgt := 129) hx hb dX5_regulationIs_110 (by decide) ?_
              exact zr_iret hF hr hw h dX5_regulationIs_129
          · refine lv_aload_n hx hb dX5_regulationIs_94 rfl (lv_at hl 0 rfl) ?_
            refine zr_get hF hw zEf_6_0 (by decide) zC_6 25 (by decide) qw_847 rfl dX5_regulationIs_95 ?_
            refine lv_goto (tgt := 129) hx hb dX5_regulationIs_98 (by decide) ?_
            exact zr_iret hF hr hw h dX5_regulationIs_129
        · refine lv_aload_n hx hb dX5_regulationIs_82 rfl (lv_at hl 0 rfl) ?_
          refine zr_get hF hw zEf_6_0 (by decide) zC_6 24 (by decide) qw_846 rfl dX5_regulationIs_83 ?_
          refine lv_goto (tgt := 129) hx hb dX5_regulationIs_86 (by decide) ?_
          exact zr_iret hF hr hw h dX5_regulationIs_129
      · refine lv_iconst hx hb dX5_regulationIs_71 rfl ?_
        exact zr_iret hF hr hw h dX5_regulationIs_72
    · refine lv_iload_n hx hb dX5_regulationIs_41 rfl (lv_at hl 2 rfl) ?_
      refine lv_iconst hx hb dX5_regulationIs_42 rfl ?_
      refine zr_icmp_ne (tgt := 55) hF h dX5_regulationIs_43 (by decide) (fun h => ?_) (fun h => ?_)
      · refine lv_aload_n hx hb dX5_regulationIs_55 rfl (lv_at hl 0 rfl) ?_
        refine zr_get hF hw zEf_6_0 (by decide) zC_6 19 (by decide) qw_841 rfl dX5_regulationIs_56 ?_
        refine lv_iload_n hx hb dX5_regulationIs_59 rfl (lv_at hl 1 rfl) ?_
        refine zr_iald hF hw zEf_36_0 (by decide) h dX5_regulationIs_60 (fun h => ?_)
        exact zr_iret hF hr hw h dX5_regulationIs_61
      · refine lv_aload_n hx hb dX5_regulationIs_46 rfl (lv_at hl 0 rfl) ?_
        refine zr_get hF hw zEf_6_0 (by decide) zC_6 18 (by decide) qw_840 rfl dX5_regulationIs_47 ?_
        refine lv_iload_n hx hb dX5_regulationIs_50 rfl (lv_at hl 1 rfl) ?_
        refine zr_iald hF hw zEf_35_0 (by decide) h dX5_regulationIs_51 (fun h => ?_)
        refine lv_goto (tgt := 61) hx hb dX5_regulationIs_52 (by decide) ?_
        exact zr_iret hF hr hw h dX5_regulationIs_61
  · refine lv_iconst hx hb dX5_regulationIs_34 rfl ?_
    exact zr_iret hF hr hw h dX5_regulationIs_35
set_option maxHeartbeats 4000000 in
set_option maxRecDepth 100000 in
theorem czX5_regulationIs (l : Launch) (X : zC) (N : zN) {n : Nat} {x1 : Int} {x2 : Int} {g g' : zG} {r : Int} (h : sX5_regulationIs n x1 x2 g = some (r, g')) : zM l yX5_regulationIs cX5_regulationIs 3 (some .int) { frames := 5, cells := 0, slots := 0, locals := 121 } X N g [z_r N 6 0, z_v x1, z_v x2] (zQi X N r g') := by
  refine z_ofW (own := RX5) (by decide +kernel) rfl (Nat.le_of_ble_eq_true rfl) ?_
  intro p e s m args below meth c ls hF hr hw hl
  have hl : lv_has ls 3 [(0, z_r N 6 0), (1, z_v x1), (2, z_v x2)] := hl
  have hx := hF.1.1
  have hb := hF.1.2.1
  unfold sX5_regulationIs at h
  generalize s.heap = H at hw ⊢
  generalize ([] : List Loc) = locs at hw ⊢
  refine lv_aload_n hx hb dX5_regulationIs_0 rfl (lv_at hl 0 rfl) ?_
  refine lv_aload_n hx hb dX5_regulationIs_1 rfl (lv_at hl 0 rfl) ?_
  refine lv_iload_n hx hb dX5_regulationIs_2 rfl (lv_at hl 1 rfl) ?_
  obtain ⟨r1, g1, h1, h⟩ := zbd_some h
  refine zr_callVi (n := 1) (As := [z_v x1]) (rest := [z_r N 6 0]) hF hw (czX5_isRegulation l X N h1) zEf_6_0 (by decide) zC_6 (z_goodV qw_1000 qw_1002 qw_21 qw_42 qw_1003) (by decide +kernel) ⟨Nat.le_of_ble_eq_true rfl, Nat.le_of_ble_eq_true rfl⟩ ⟨rfl, rfl⟩ rfl hl.1 rfl (Nat.le_of_ble_eq_true rfl) dX5_regulationIs_3 ⟨Nat.le_of_ble_eq_true rfl, Nat.le_of_ble_eq_true rfl⟩ (fun H locs hw => ?_)
  clear h1
  generalize g1 = g at *
  refine zr_if_ne (tgt := 13) hF h dX5_regulationIs_6 (by decide) (fun h => ?_) (fun h => ?_)
  · refine lv_iload_n hx hb dX5_regulationIs_13 rfl (lv_at hl 2 rfl) ?_
    refine lv_iconst hx hb dX5_regulationIs_14 rfl ?_
    refine lv_bipush (v := Int32.ofInt (6)) hx hb dX5_regulationIs_15 (by decide) ?_
    obtain ⟨r2, g1, h1, h⟩ := zbd_some h
    refine zr_callSi (n := 3) (As := [z_v x2, z_v 0, z_v 6]) (rest := [z_r N 6 0]) hF hw (czX5_isIn l X N h1) (z_goodS qw_922 qw_923 qw_42 qw_924) (by decide +kernel) ⟨Nat.le_of_ble_eq_true rfl, Nat.le_of_ble_eq_true rfl⟩ ⟨rfl, rfl⟩ rfl hl.1 rfl (Nat.le_of_ble_eq_true rfl) dX5_regulationIs_17 ⟨Nat.le_of_ble_eq_true rfl, Nat.le_of_ble_eq_true rfl⟩ (fun H locs hw => ?_)
    clear h1
    generalize g1 = g at *
    refine zr_if_eq (tgt := 27) hF h dX5_regulationIs_20 (by decide) (fun h => ?_) (fun h => ?_)
    · refine lv_iconst hx hb dX5_regulationIs_27 rfl ?_
      exact wX5_regulationIs_j28 hF hr  hw (lv_sub hl [0, 1, 2] rfl) h
    · refine lv_iconst hx hb dX5_regulationIs_23 rfl ?_
      refine lv_goto (tgt := 28) hx hb dX5_regulationIs_24 (by decide) ?_
      exact wX5_regulationIs_j28 hF hr  hw (lv_sub hl [0, 1, 2] rfl) h
  · refine lv_iconst hx hb dX5_regulationIs_9 rfl ?_
    refine lv_goto (tgt := 28) hx hb dX5_regulationIs_10 (by decide) ?_
    exact wX5_regulationIs_j28 hF hr  hw (lv_sub hl [0, 1, 2] rfl) h
set_option maxHeartbeats 4000000 in
set_option maxRecDepth 100000 in
theorem wX5_slot_j18 {p : Program} {l : Launch} {e : Env} {s : State} {m : MethodId} {args : Array Value} {below : List Frame} {meth : Method} {c : Code} {X : zC} {N : zN} {r : Int} {g' : zG} {H : Heap} {locs : List Loc} {ls : Array Slot} (hF : zF p s m args meth c X cX5_slot 3 RX5) (hr : meth.sig.returnType = (some .int)) {n : Nat} {x1 : Int} {x2 : Int} {t1 : Int} {g : zG} (hw : zH X N g s H locs) (hl : lv_has ls 3 [(0, z_r N 6 0), (1, z_v x1), (2, z_v x2)]) (h : sX5_slot_j18 n x1 x2 t1 g = some (r, g')) : W p l e { frames := 5, cells := 0, slots := 0, locals := 121 } s m args below meth c H locs 0 0 (MQ below (zQi X N r g') args s 0 0 (zA X)) (F0 m 18 ls [z_v t1, z_r N 6 0]) := by
  have hx := hF.1.1
  have hb := hF.1.2.1
  unfold sX5_slot_j18 at h
  obtain ⟨r1, g1, h1, h⟩ := zbd_some h
  refine zr_callVi (n := 1) (As := [z_v t1]) (rest := []) hF hw (czX5_holds l X N h1) zEf_6_0 (by decide) zC_6 (z_goodV qw_925 qw_927 qw_14 qw_42 qw_928) (by decide +kernel) ⟨Nat.le_of_ble_eq_true rfl, Nat.le_of_ble_eq_true rfl⟩ ⟨rfl, rfl⟩ rfl hl.1 rfl (Nat.le_of_ble_eq_true rfl) dX5_slot_18 ⟨Nat.le_of_ble_eq_true rfl, Nat.le_of_ble_eq_true rfl⟩ (fun H locs hw => ?_)
  clear h1
  generalize g1 = g at *
  refine zr_if_ne (tgt := 26) hF h dX5_slot_21 (by decide) (fun h => ?_) (fun h => ?_)
  · refine lv_aload_n hx hb dX5_slot_26 rfl (lv_at hl 0 rfl) ?_
    refine zr_get hF hw zEf_6_0 (by decide) zC_6 20 (by decide) qw_842 rfl dX5_slot_27 ?_
    refine lv_iload_n hx hb dX5_slot_30 rfl (lv_at hl 1 rfl) ?_
    refine zr_zald hF hw zEf_37_0 (by decide) h dX5_slot_31 (fun h => ?_)
    refine zr_if_eq (tgt := 37) hF h dX5_slot_32 (by decide) (fun h => ?_) (fun h => ?_)
    · refine lv_aload_n hx hb dX5_slot_37 rfl (lv_at hl 0 rfl) ?_
      refine lv_iload_n hx hb dX5_slot_38 rfl (lv_at hl 1 rfl) ?_
      obtain ⟨r2, g1, h1, h⟩ := zbd_some h
      refine zr_callVv (n := 1) (As := [z_v x1]) (rest := []) hF hw (czX5_dealt l X N h1) zEf_6_0 (by decide) zC_6 (z_goodV qw_1012 qw_1014 qw_22 qw_42 qw_1015) (by decide +kernel) ⟨Nat.le_of_ble_eq_true rfl, Nat.le_of_ble_eq_true rfl⟩ ⟨rfl, rfl⟩ rfl hl.1 rfl (Nat.le_of_ble_eq_true rfl) dX5_slot_39 ⟨Nat.le_of_ble_eq_true rfl, Nat.le_of_ble_eq_true rfl⟩ (fun H locs hw => ?_)
      clear h1
      generalize g1 = g at *
      refine lv_iload_n hx hb dX5_slot_42 rfl (lv_at hl 2 rfl) ?_
      refine lv_aload_n hx hb dX5_slot_43 rfl (lv_at hl 0 rfl) ?_
      refine zr_get hF hw zEf_6_0 (by decide) zC_6 24 (by decide) qw_846 rfl dX5_slot_44 ?_
      refine zr_icmp_ge (tgt := 59) hF h dX5_slot_47 (by decide) (fun h => ?_) (fun h => ?_)
      · refine lv_iconst hx hb dX5_slot_59 rfl ?_
        exact zr_iret hF hr hw h dX5_slot_60
      · refine lv_aload_n hx hb dX5_slot_50 rfl (lv_at hl 0 rfl) ?_
        refine lv_iload_n hx hb dX5_slot_51 rfl (lv_at hl 1 rfl) ?_
        refine lv_iload_n hx hb dX5_slot_52 rfl (lv_at hl 2 rfl) ?_
        obtain ⟨r3, g1, h1, h⟩ := zbd_some h
        refine zr_callVi (n := 2) (As := [z_v x1, z_v x2]) (rest := []) hF hw (czX5_begin l X N h1) zEf_6_0 (by decide) zC_6 (z_goodV qw_1016 qw_1018 qw_23 qw_42 qw_1019) (by decide +kernel) ⟨Nat.le_of_ble_eq_true rfl, Nat.le_of_ble_eq_true rfl⟩ ⟨rfl, rfl⟩ rfl hl.1 rfl (Nat.le_of_ble_eq_true rfl) dX5_slot_53 ⟨Nat.le_of_ble_eq_true rfl, Nat.le_of_ble_eq_true rfl⟩ (fun H locs hw => ?_)
        clear h1
        generalize g1 = g at *
        refine lv_goto (tgt := 60) hx hb dX5_slot_56 (by decide) ?_
        exact zr_iret hF hr hw h dX5_slot_60
    · refine lv_iconst hx hb dX5_slot_35 rfl ?_
      exact zr_iret hF hr hw h dX5_slot_36
  · refine lv_iconst hx hb dX5_slot_24 rfl ?_
    exact zr_iret hF hr hw h dX5_slot_25
set_option maxHeartbeats 4000000 in
set_option maxRecDepth 100000 in
theorem wX5_slot_j17 {p : Program} {l : Launch} {e : Env} {s : State} {m : MethodId} {args : Array Value} {below : List Frame} {meth : Method} {c : Code} {X : zC} {N : zN} {r : Int} {g' : zG} {H : Heap} {locs : List Loc} {ls : Array Slot} (hF : zF p s m args meth c X cX5_slot 3 RX5) (hr : meth.sig.returnType = (some .int)) {n : Nat} {x1 : Int} {x2 : Int} {g : zG} (hw : zH X N g s H locs) (hl : lv_has ls 3 [(0, z_r N 6 0), (1, z_v x1), (2, z_v x2)]) (h : sX5_slot_j17 n x1 x2 g = some (r, g')) : W p l e { frames := 5, cells := 0, slots := 0, locals := 121 } s m args below meth c H locs 0 0 (MQ below (zQi X N r g') args s 0 0 (zA X)) (F0 m 17 ls [z_r N 6 0]) := by
  have hx := hF.1.1
  have hb := hF.1.2.1
  unfold sX5_slot_j17 at h
  refine lv_iconst hx hb dX5_slot_17 rfl ?_
  exact wX5_slot_j18 hF hr  hw (lv_sub hl [0, 1, 2] rfl) h
set_option maxHeartbeats 4000000 in
set_option maxRecDepth 100000 in
theorem czX5_slot (l : Launch) (X : zC) (N : zN) {n : Nat} {x1 : Int} {x2 : Int} {g g' : zG} {r : Int} (h : sX5_slot n x1 x2 g = some (r, g')) : zM l yX5_slot cX5_slot 3 (some .int) { frames := 5, cells := 0, slots := 0, locals := 121 } X N g [z_r N 6 0, z_v x1, z_v x2] (zQi X N r g') := by
  refine z_ofW (own := RX5) (by decide +kernel) rfl (Nat.le_of_ble_eq_true rfl) ?_
  intro p e s m args below meth c ls hF hr hw hl
  have hl : lv_has ls 3 [(0, z_r N 6 0), (1, z_v x1), (2, z_v x2)] := hl
  have hx := hF.1.1
  have hb := hF.1.2.1
  unfold sX5_slot at h
  generalize s.heap = H at hw ⊢
  generalize ([] : List Loc) = locs at hw ⊢
  refine lv_aload_n hx hb dX5_slot_0 rfl (lv_at hl 0 rfl) ?_
  refine lv_aload_n hx hb dX5_slot_1 rfl (lv_at hl 0 rfl) ?_
  refine lv_iload_n hx hb dX5_slot_2 rfl (lv_at hl 1 rfl) ?_
  obtain ⟨r1, g1, h1, h⟩ := zbd_some h
  refine zr_callVi (n := 1) (As := [z_v x1]) (rest := [z_r N 6 0]) hF hw (czX5_isRegulation l X N h1) zEf_6_0 (by decide) zC_6 (z_goodV qw_1000 qw_1002 qw_21 qw_42 qw_1003) (by decide +kernel) ⟨Nat.le_of_ble_eq_true rfl, Nat.le_of_ble_eq_true rfl⟩ ⟨rfl, rfl⟩ rfl hl.1 rfl (Nat.le_of_ble_eq_true rfl) dX5_slot_3 ⟨Nat.le_of_ble_eq_true rfl, Nat.le_of_ble_eq_true rfl⟩ (fun H locs hw => ?_)
  clear h1
  generalize g1 = g at *
  refine zr_if_eq (tgt := 17) hF h dX5_slot_6 (by decide) (fun h => ?_) (fun h => ?_)
  · exact wX5_slot_j17 hF hr  hw (lv_sub hl [0, 1, 2] rfl) h
  · refine lv_iload_n hx hb dX5_slot_9 rfl (lv_at hl 2 rfl) ?_
    refine zr_if_lt (tgt := 17) hF h dX5_slot_10 (by decide) (fun h => ?_) (fun h => ?_)
    · exact wX5_slot_j17 hF hr  hw (lv_sub hl [0, 1, 2] rfl) h
    · refine lv_iconst hx hb dX5_slot_13 rfl ?_
      refine lv_goto (tgt := 18) hx hb dX5_slot_14 (by decide) ?_
      exact wX5_slot_j18 hF hr  hw (lv_sub hl [0, 1, 2] rfl) h
set_option maxHeartbeats 4000000 in
set_option maxRecDepth 100000 in
theorem wX5_penalty_j22 {p : Program} {l : Launch} {e : Env} {s : State} {m : MethodId} {args : Array Value} {below : List Frame} {meth : Method} {c : Code} {X : zC} {N : zN} {r : Int} {g' : zG} {H : Heap} {locs : List Loc} {ls : Array Slot} (hF : zF p s m args meth c X cX5_penalty 3 RX5) (hr : meth.sig.returnType = (some .int)) {n : Nat} {x1 : Int} {x2 : Int} {t1 : Int} {g : zG} (hw : zH X N g s H locs) (hl : lv_has ls 3 [(0, z_r N 6 0), (1, z_v x1), (2, z_v x2)]) (h : sX5_penalty_j22 n x1 x2 t1 g = some (r, g')) : W p l e { frames := 5, cells := 0, slots := 0, locals := 121 } s m args below meth c H locs 0 0 (MQ below (zQi X N r g') args s 0 0 (zA X)) (F0 m 22 ls [z_v t1, z_r N 6 0]) := by
  have hx := hF.1.1
  have hb := hF.1.2.1
  unfold sX5_penalty_j22 at h
  obtain ⟨r1, g1, h1, h⟩ := zbd_some h
  refine zr_callVi (n := 1) (As := [z_v t1]) (rest := []) hF hw (czX5_holds l X N h1) zEf_6_0 (by decide) zC_6 (z_goodV qw_925 qw_927 qw_14 qw_42 qw_928) (by decide +kernel) ⟨Nat.le_of_ble_eq_true rfl, Nat.le_of_ble_eq_true rfl⟩ ⟨rfl, rfl⟩ rfl hl.1 rfl (Nat.le_of_ble_eq_true rfl) dX5_penalty_22 ⟨Nat.le_of_ble_eq_true rfl, Nat.le_of_ble_eq_true rfl⟩ (fun H locs hw => ?_)
  clear h1
  generalize g1 = g at *
  refine zr_if_ne (tgt := 30) hF h dX5_penalty_25 (by decide) (fun h => ?_) (fun h => ?_)
  · refine lv_aload_n hx hb dX5_penalty_30 rfl (lv_at hl 0 rfl) ?_
    refine zr_get hF hw zEf_6_0 (by decide) zC_6 20 (by decide) qw_842 rfl dX5_penalty_31 ?_
    refine lv_iload_n hx hb dX5_penalty_34 rfl (lv_at hl 2 rfl) ?_
    refine zr_zald hF hw zEf_37_0 (by decide) h dX5_penalty_35 (fun h => ?_)
    refine zr_if_eq (tgt := 41) hF h dX5_penalty_36 (by decide) (fun h => ?_) (fun h => ?_)
    · refine lv_aload_n hx hb dX5_penalty_41 rfl (lv_at hl 0 rfl) ?_
      refine lv_iload_n hx hb dX5_penalty_42 rfl (lv_at hl 2 rfl) ?_
      obtain ⟨r2, g1, h1, h⟩ := zbd_some h
      refine zr_callVv (n := 1) (As := [z_v x2]) (rest := []) hF hw (czX5_dealt l X N h1) zEf_6_0 (by decide) zC_6 (z_goodV qw_1012 qw_1014 qw_22 qw_42 qw_1015) (by decide +kernel) ⟨Nat.le_of_ble_eq_true rfl, Nat.le_of_ble_eq_true rfl⟩ ⟨rfl, rfl⟩ rfl hl.1 rfl (Nat.le_of_ble_eq_true rfl) dX5_penalty_43 ⟨Nat.le_of_ble_eq_true rfl, Nat.le_of_ble_eq_true rfl⟩ (fun H locs hw => ?_)
      clear h1
      generalize g1 = g at *
      refine lv_aload_n hx hb dX5_penalty_46 rfl (lv_at hl 0 rfl) ?_
      refine zr_get hF hw zEf_6_0 (by decide) zC_6 29 (by decide) qw_851 rfl dX5_penalty_47 ?_
      refine lv_bipush (v := Int32.ofInt (24)) hx hb dX5_penalty_50 (by decide) ?_
      refine lv_iload_n hx hb dX5_penalty_52 rfl (lv_at hl 2 rfl) ?_
      refine zr_imul hF dX5_penalty_53 ?_
      refine lv_iload_n hx hb dX5_penalty_54 rfl (lv_at hl 1 rfl) ?_
      refine zr_iadd hF dX5_penalty_55 ?_
      refine zr_iald hF hw zEf_41_0 (by decide) h dX5_penalty_56 (fun h => ?_)
      exact zr_iret hF hr hw h dX5_penalty_57
    · refine lv_iconst hx hb dX5_penalty_39 rfl ?_
      exact zr_iret hF hr hw h dX5_penalty_40
  · refine lv_iconst hx hb dX5_penalty_28 rfl ?_
    exact zr_iret hF hr hw h dX5_penalty_29
set_option maxHeartbeats 4000000 in
set_option maxRecDepth 100000 in
theorem wX5_penalty_j21 {p : Program} {l : Launch} {e : Env} {s : State} {m : MethodId} {args : Array Value} {below : List Frame} {meth : Method} {c : Code} {X : zC} {N : zN} {r : Int} {g' : zG} {H : Heap} {locs : List Loc} {ls : Array Slot} (hF : zF p s m args meth c X cX5_penalty 3 RX5) (hr : meth.sig.returnType = (some .int)) {n : Nat} {x1 : Int} {x2 : Int} {g : zG} (hw : zH X N g s H locs) (hl : lv_has ls 3 [(0, z_r N 6 0), (1, z_v x1), (2, z_v x2)]) (h : sX5_penalty_j21 n x1 x2 g = some (r, g')) : W p l e { frames := 5, cells := 0, slots := 0, locals := 121 } s m args below meth c H locs 0 0 (MQ below (zQi X N r g') args s 0 0 (zA X)) (F0 m 21 ls [z_r N 6 0]) := by
  have hx := hF.1.1
  have hb := hF.1.2.1
  unfold sX5_penalty_j21 at h
  refine lv_iconst hx hb dX5_penalty_21 rfl ?_
  exact wX5_penalty_j22 hF hr  hw (lv_sub hl [0, 1, 2] rfl) h
set_option maxHeartbeats 4000000 in
set_option maxRecDepth 100000 in
theorem czX5_penalty (l : Launch) (X : zC) (N : zN) {n : Nat} {x1 : Int} {x2 : Int} {g g' : zG} {r : Int} (h : sX5_penalty n x1 x2 g = some (r, g')) : zM l yX5_penalty cX5_penalty 3 (some .int) { frames := 5, cells := 0, slots := 0, locals := 121 } X N g [z_r N 6 0, z_v x1, z_v x2] (zQi X N r g') := by
  refine z_ofW (own := RX5) (by decide +kernel) rfl (Nat.le_of_ble_eq_true rfl) ?_
  intro p e s m args below meth c ls hF hr hw hl
  have hl : lv_has ls 3 [(0, z_r N 6 0), (1, z_v x1), (2, z_v x2)] := hl
  have hx := hF.1.1
  have hb := hF.1.2.1
  unfold sX5_penalty at h
  generalize s.heap = H at hw ⊢
  generalize ([] : List Loc) = locs at hw ⊢
  refine lv_aload_n hx hb dX5_penalty_0 rfl (lv_at hl 0 rfl) ?_
  refine lv_aload_n hx hb dX5_penalty_1 rfl (lv_at hl 0 rfl) ?_
  refine lv_iload_n hx hb dX5_penalty_2 rfl (lv_at hl 1 rfl) ?_
  obtain ⟨r1, g1, h1, h⟩ := zbd_some h
  refine zr_callVi (n := 1) (As := [z_v x1]) (rest := [z_r N 6 0]) hF hw (czX5_isFlight l X N h1) zEf_6_0 (by decide) zC_6 (z_goodV qw_933 qw_935 qw_15 qw_42 qw_936) (by decide +kernel) ⟨Nat.le_of_ble_eq_true rfl, Nat.le_of_ble_eq_true rfl⟩ ⟨rfl, rfl⟩ rfl hl.1 rfl (Nat.le_of_ble_eq_true rfl) dX5_penalty_3 ⟨Nat.le_of_ble_eq_true rfl, Nat.le_of_ble_eq_true rfl⟩ (fun H locs hw => ?_)
  clear h1
  generalize g1 = g at *
  refine zr_if_eq (tgt := 21) hF h dX5_penalty_6 (by decide) (fun h => ?_) (fun h => ?_)
  · exact wX5_penalty_j21 hF hr  hw (lv_sub hl [0, 1, 2] rfl) h
  · refine lv_aload_n hx hb dX5_penalty_9 rfl (lv_at hl 0 rfl) ?_
    refine lv_iload_n hx hb dX5_penalty_10 rfl (lv_at hl 2 rfl) ?_
    obtain ⟨r2, g1, h1, h⟩ := zbd_some h
    refine zr_callVi (n := 1) (As := [z_v x2]) (rest := [z_r N 6 0]) hF hw (czX5_isRegulation l X N h1) zEf_6_0 (by decide) zC_6 (z_goodV qw_1000 qw_1002 qw_21 qw_42 qw_1003) (by decide +kernel) ⟨Nat.le_of_ble_eq_true rfl, Nat.le_of_ble_eq_true rfl⟩ ⟨rfl, rfl⟩ rfl hl.1 rfl (Nat.le_of_ble_eq_true rfl) dX5_penalty_11 ⟨Nat.le_of_ble_eq_true rfl, Nat.le_of_ble_eq_true rfl⟩ (fun H locs hw => ?_)
    clear h1
    generalize g1 = g at *
    refine zr_if_eq (tgt := 21) hF h dX5_penalty_14 (by decide) (fun h => ?_) (fun h => ?_)
    · exact wX5_penalty_j21 hF hr  hw (lv_sub hl [0, 1, 2] rfl) h
    · refine lv_iconst hx hb dX5_penalty_17 rfl ?_
      refine lv_goto (tgt := 22) hx hb dX5_penalty_18 (by decide) ?_
      exact wX5_penalty_j22 hF hr  hw (lv_sub hl [0, 1, 2] rfl) h
set_option maxHeartbeats 4000000 in
set_option maxRecDepth 100000 in
theorem wX5_dealAll_h2 {p : Program} {l : Launch} {e : Env} {s : State} {m : MethodId} {args : Array Value} {below : List Frame} {meth : Method} {c : Code} {X : zC} {N : zN} {r : Int} {g' : zG} {H : Heap} {locs : List Loc} {ls : Array Slot} (hF : zF p s m args meth c X cX5_dealAll 3 RX5) (hr : meth.sig.returnType = none) {n : Nat} {K : Nat → Int → Int → zG → Option (Int × zG)} (hK0 : ∀ (x1 : Int) (x2 : Int) (g : zG) (H : Heap) (locs : List Loc) (ls : Array Slot), zH X N g s H locs → lv_has ls 3 [(0, z_r N 6 0), (1, z_v x1), (2, z_v x2)] → K 0 x1 x2 g = some (r, g') → W p l e { frames := 5, cells := 0, slots := 0, locals := 121 } s m args below meth c H locs 0 0 (MQ below (zQv X N g') args s 0 0 (zA X)) (F0 m 2 ls [])) {x1 : Int} {x2 : Int} {g : zG} (hw : zH X N g s H locs) (hl : lv_has ls 3 [(0, z_r N 6 0), (1, z_v x1), (2, z_v x2)]) (h : sX5_dealAll_h2 n K x1 x2 g = some (r, g')) : W p l e { frames := 5, cells := 0, slots := 0, locals := 121 } s m args below meth c H locs 0 0 (MQ below (zQv X N g') args s 0 0 (zA X)) (F0 m 2 ls []) := by
  have hx := hF.1.1
  have hb := hF.1.2.1
  unfold sX5_dealAll_h2 at h
  refine lv_iload_n hx hb dX5_dealAll_2 rfl (lv_at hl 2 rfl) ?_
  refine lv_iload_n hx hb dX5_dealAll_3 rfl (lv_at hl 1 rfl) ?_
  refine zr_icmp_ge (tgt := 27) hF h dX5_dealAll_4 (by decide) (fun h => ?_) (fun h => ?_)
  · exact zr_vret hF hr hw h dX5_dealAll_27
  · refine lv_aload_n hx hb dX5_dealAll_7 rfl (lv_at hl 0 rfl) ?_
    refine zr_get hF hw zEf_6_0 (by decide) zC_6 20 (by decide) qw_842 rfl dX5_dealAll_8 ?_
    refine lv_iload_n hx hb dX5_dealAll_11 rfl (lv_at hl 2 rfl) ?_
    refine zr_zald hF hw zEf_37_0 (by decide) h dX5_dealAll_12 (fun h => ?_)
    refine zr_if_ne (tgt := 21) hF h dX5_dealAll_13 (by decide) (fun h => ?_) (fun h => ?_)
    · refine zr_iinc hF (lv' := fun v1 => [(2, z_v v1), (0, z_r N 6 0), (1, z_v x1)]) h dX5_dealAll_21 hl (k := 2) rfl (by decide) (fun _ => rfl) (fun v1 ls hl h => ?_)
      refine lv_goto (tgt := 2) hx hb dX5_dealAll_24 (by decide) ?_
      exact hK0 x1 v1 _ _ _ _  hw (lv_sub hl [1, 2, 0] rfl) h
    · refine lv_aload_n hx hb dX5_dealAll_16 rfl (lv_at hl 0 rfl) ?_
      refine lv_iload_n hx hb dX5_dealAll_17 rfl (lv_at hl 2 rfl) ?_
      obtain ⟨r2, g1, h1, h⟩ := zbd_some h
      refine zr_callVv (n := 1) (As := [z_v x2]) (rest := []) hF hw (czX5_dealt l X N h1) zEf_6_0 (by decide) zC_6 (z_goodV qw_1012 qw_1014 qw_22 qw_42 qw_1015) (by decide +kernel) ⟨Nat.le_of_ble_eq_true rfl, Nat.le_of_ble_eq_true rfl⟩ ⟨rfl, rfl⟩ rfl hl.1 rfl (Nat.le_of_ble_eq_true rfl) dX5_dealAll_18 ⟨Nat.le_of_ble_eq_true rfl, Nat.le_of_ble_eq_true rfl⟩ (fun H locs hw => ?_)
      clear h1
      generalize g1 = g at *
      refine zr_iinc hF (lv' := fun v3 => [(2, z_v v3), (0, z_r N 6 0), (1, z_v x1)]) h dX5_dealAll_21 hl (k := 2) rfl (by decide) (fun _ => rfl) (fun v3 ls hl h => ?_)
      refine lv_goto (tgt := 2) hx hb dX5_dealAll_24 (by decide) ?_
      exact hK0 x1 v3 _ _ _ _  hw (lv_sub hl [1, 2, 0] rfl) h
set_option maxHeartbeats 4000000 in
set_option maxRecDepth 100000 in
theorem wX5_dealAll_run {p : Program} {l : Launch} {e : Env} {s : State} {m : MethodId} {args : Array Value} {below : List Frame} {meth : Method} {c : Code} {X : zC} {N : zN} {r : Int} {g' : zG} (hF : zF p s m args meth c X cX5_dealAll 3 RX5) (hr : meth.sig.returnType = none) {n0 : Nat} : ∀ n : Nat, (∀ (x1 : Int) (x2 : Int) (g : zG) (H : Heap) (locs : List Loc) (ls : Array Slot), zH X N g s H locs → lv_has ls 3 [(0, z_r N 6 0), (1, z_v x1), (2, z_v x2)] → sX5_dealAll_run n0 n 0 x1 x2 g = some (r, g') → W p l e { frames := 5, cells := 0, slots := 0, locals := 121 } s m args below meth c H locs 0 0 (MQ below (zQv X N g') args s 0 0 (zA X)) (F0 m 2 ls [])) := by
  intro n
  induction n with
  | zero => exact fun _ _ _ _ _ _ _ _  h => (by cases h)
  | succ n ih => exact fun x1 x2 g H locs ls  hw hl h => wX5_dealAll_h2 hF hr ih  hw hl h
set_option maxHeartbeats 4000000 in
set_option maxRecDepth 100000 in
theorem czX5_dealAll (l : Launch) (X : zC) (N : zN) {n : Nat} {x1 : Int} {g g' : zG} {r : Int} (h : sX5_dealAll n x1 g = some (r, g')) : zM l yX5_dealAll cX5_dealAll 3 none { frames := 5, cells := 0, slots := 0, locals := 121 } X N g [z_r N 6 0, z_v x1] (zQv X N g') := by
  refine z_ofW (own := RX5) (by decide +kernel) rfl (Nat.le_of_ble_eq_true rfl) ?_
  intro p e s m args below meth c ls hF hr hw hl
  have hl : lv_has ls 3 [(0, z_r N 6 0), (1, z_v x1)] := hl
  have hx := hF.1.1
  have hb := hF.1.2.1
  have hKK := wX5_dealAll_run hF hr (r := r) (g' := g') (X := X) (N := N) (n0 := n) (l := l) (e := e) (below := below) n
  have hK0 := hKK
  unfold sX5_dealAll at h
  generalize s.heap = H at hw ⊢
  generalize ([] : List Loc) = locs at hw ⊢
  refine lv_iconst hx hb dX5_dealAll_0 rfl ?_
  refine lv_istore_n (lv' := [(2, z_v 0), (0, z_r N 6 0), (1, z_v x1)]) hx hb dX5_dealAll_1 rfl hl (by decide) rfl (fun ls hl => ?_)
  exact hK0 x1 0 _ _ _ _  hw (lv_sub hl [1, 2, 0] rfl) h
set_option maxHeartbeats 4000000 in
set_option maxRecDepth 100000 in
theorem wX5_dueBy_j82 {p : Program} {l : Launch} {e : Env} {s : State} {m : MethodId} {args : Array Value} {below : List Frame} {meth : Method} {c : Code} {X : zC} {N : zN} {r : Int} {g' : zG} {H : Heap} {locs : List Loc} {ls : Array Slot} (hF : zF p s m args meth c X cX5_dueBy 7 RX5) (hr : meth.sig.returnType = (some .int)) {n : Nat} {K : Nat → Int → Int → Int → Int → Int → zG → Option (Int × zG)} (hK0 : ∀ (x1 : Int) (x2 : Int) (x3 : Int) (x4 : Int) (x5 : Int) (g : zG) (H : Heap) (locs : List Loc) (ls : Array Slot), zH X N g s H locs → lv_has ls 7 [(0, z_r N 6 0), (1, z_v x1), (2, z_v x2), (3, z_v x3), (4, z_v x4), (5, z_v x5)] → K 0 x1 x2 x3 x4 x5 g = some (r, g') → W p l e { frames := 0, cells := 0, slots := 0, locals := 0 } s m args below meth c H locs 0 0 (MQ below (zQi X N r g') args s 0 0 (zA X)) (F0 m 8 ls [])) {x1 : Int} {x2 : Int} {x3 : Int} {x5 : Int} {t0 : Int} {g : zG} (hw : zH X N g s H locs) (hl : lv_has ls 7 [(0, z_r N 6 0), (1, z_v x1), (2, z_v x2), (3, z_v x3), (5, z_v x5)]) (h : sX5_dueBy_j82 n K x1 x2 x3 x5 t0 g = some (r, g')) : W p l e { frames := 0, cells := 0, slots := 0, locals := 0 } s m args below meth c H locs 0 0 (MQ below (zQi X N r g') args s 0 0 (zA X)) (F0 m 82 ls [z_v t0]) := by
  have hx := hF.1.1
  have hb := hF.1.2.1
  unfold sX5_dueBy_j82 at h
  refine lv_istore (lv' := [(4, z_v t0), (0, z_r N 6 0), (1, z_v x1), (2, z_v x2), (3, z_v x3), (5, z_v x5)]) hx hb dX5_dueBy_82 hl (by decide) rfl (fun ls hl => ?_)
  refine zr_iinc hF (lv' := fun v1 => [(5, z_v v1), (4, z_v t0), (0, z_r N 6 0), (1, z_v x1), (2, z_v x2), (3, z_v x3)]) h dX5_dueBy_84 hl (k := 5) rfl (by decide) (fun _ => rfl) (fun v1 ls hl h => ?_)
  refine lv_goto (tgt := 8) hx hb dX5_dueBy_87 (by decide) ?_
  exact hK0 x1 x2 x3 t0 v1 _ _ _ _  hw (lv_sub hl [2, 3, 4, 5, 1, 0] rfl) h
set_option maxHeartbeats 4000000 in
set_option maxRecDepth 100000 in
theorem wX5_dueBy_j59 {p : Program} {l : Launch} {e : Env} {s : State} {m : MethodId} {args : Array Value} {below : List Frame} {meth : Method} {c : Code} {X : zC} {N : zN} {r : Int} {g' : zG} {H : Heap} {locs : List Loc} {ls : Array Slot} (hF : zF p s m args meth c X cX5_dueBy 7 RX5) (hr : meth.sig.returnType = (some .int)) {n : Nat} {K : Nat → Int → Int → Int → Int → Int → zG → Option (Int × zG)} (hK0 : ∀ (x1 : Int) (x2 : Int) (x3 : Int) (x4 : Int) (x5 : Int) (g : zG) (H : Heap) (locs : List Loc) (ls : Array Slot), zH X N g s H locs → lv_has ls 7 [(0, z_r N 6 0), (1, z_v x1), (2, z_v x2), (3, z_v x3), (4, z_v x4), (5, z_v x5)] → K 0 x1 x2 x3 x4 x5 g = some (r, g') → W p l e { frames := 0, cells := 0, slots := 0, locals := 0 } s m args below meth c H locs 0 0 (MQ below (zQi X N r g') args s 0 0 (zA X)) (F0 m 8 ls [])) {x1 : Int} {x2 : Int} {x4 : Int} {x5 : Int} {x6 : Int} {t0 : Int} {g : zG} (hw : zH X N g s H locs) (hl : lv_has ls 7 [(0, z_r N 6 0), (1, z_v x1), (2, z_v x2), (4, z_v x4), (5, z_v x5), (6, z_v x6)]) (h : sX5_dueBy_j59 n K x1 x2 x4 x5 x6 t0 g = some (r, g')) : W p l e { frames := 0, cells := 0, slots := 0, locals := 0 } s m args below meth c H locs 0 0 (MQ below (zQi X N r g') args s 0 0 (zA X)) (F0 m 59 ls [z_v t0]) := by
  have hx := hF.1.1
  have hb := hF.1.2.1
  unfold sX5_dueBy_j59 at h
  refine lv_istore_n (lv' := [(3, z_v t0), (0, z_r N 6 0), (1, z_v x1), (2, z_v x2), (4, z_v x4), (5, z_v x5), (6, z_v x6)]) hx hb dX5_dueBy_59 rfl hl (by decide) rfl (fun ls hl => ?_)
  refine lv_iload hx hb dX5_dueBy_60 (lv_at hl 6 rfl) ?_
  refine zr_if_eq (tgt := 80) hF h dX5_dueBy_62 (by decide) (fun h => ?_) (fun h => ?_)
  · refine lv_iload hx hb dX5_dueBy_80 (lv_at hl 4 rfl) ?_
    exact wX5_dueBy_j82 hF hr hK0  hw (lv_sub hl [1, 2, 3, 0, 5] rfl) h
  · refine lv_aload_n hx hb dX5_dueBy_65 rfl (lv_at hl 1 rfl) ?_
    refine zr_get hF hw zEf_6_0 (by decide) zC_6 29 (by decide) qw_851 rfl dX5_dueBy_66 ?_
    refine lv_bipush (v := Int32.ofInt (24)) hx hb dX5_dueBy_69 (by decide) ?_
    refine lv_iload hx hb dX5_dueBy_71 (lv_at hl 5 rfl) ?_
    refine zr_imul hF dX5_dueBy_73 ?_
    refine lv_iload_n hx hb dX5_dueBy_74 rfl (lv_at hl 2 rfl) ?_
    refine zr_iadd hF dX5_dueBy_75 ?_
    refine zr_iald hF hw zEf_41_0 (by decide) h dX5_dueBy_76 (fun h => ?_)
    refine lv_goto (tgt := 82) hx hb dX5_dueBy_77 (by decide) ?_
    exact wX5_dueBy_j82 hF hr hK0  hw (lv_sub hl [1, 2, 3, 0, 5] rfl) h
set_option maxHeartbeats 4000000 in
set_option maxRecDepth 100000 in
theorem wX5_dueBy_j46 {p : Program} {l : Launch} {e : Env} {s : State} {m : MethodId} {args : Array Value} {below : List Frame} {meth : Method} {c : Code} {X : zC} {N : zN} {r : Int} {g' : zG} {H : Heap} {locs : List Loc} {ls : Array Slot} (hF : zF p s m args meth c X cX5_dueBy 7 RX5) (hr : meth.sig.returnType = (some .int)) {n : Nat} {K : Nat → Int → Int → Int → Int → Int → zG → Option (Int × zG)} (hK0 : ∀ (x1 : Int) (x2 : Int) (x3 : Int) (x4 : Int) (x5 : Int) (g : zG) (H : Heap) (locs : List Loc) (ls : Array Slot), zH X N g s H locs → lv_has ls 7 [(0, z_r N 6 0), (1, z_v x1), (2, z_v x2), (3, z_v x3), (4, z_v x4), (5, z_v x5)] → K 0 x1 x2 x3 x4 x5 g = some (r, g') → W p l e { frames := 0, cells := 0, slots := 0, locals := 0 } s m args below meth c H locs 0 0 (MQ below (zQi X N r g') args s 0 0 (zA X)) (F0 m 8 ls [])) {x1 : Int} {x2 : Int} {x3 : Int} {x4 : Int} {x5 : Int} {t0 : Int} {g : zG} (hw : zH X N g s H locs) (hl : lv_has ls 7 [(0, z_r N 6 0), (1, z_v x1), (2, z_v x2), (3, z_v x3), (4, z_v x4), (5, z_v x5)]) (h : sX5_dueBy_j46 n K x1 x2 x3 x4 x5 t0 g = some (r, g')) : W p l e { frames := 0, cells := 0, slots := 0, locals := 0 } s m args below meth c H locs 0 0 (MQ below (zQi X N r g') args s 0 0 (zA X)) (F0 m 46 ls [z_v t0]) := by
  have hx := hF.1.1
  have hb := hF.1.2.1
  unfold sX5_dueBy_j46 at h
  refine lv_istore (lv' := [(6, z_v t0), (0, z_r N 6 0), (1, z_v x1), (2, z_v x2), (3, z_v x3), (4, z_v x4), (5, z_v x5)]) hx hb dX5_dueBy_46 hl (by decide) rfl (fun ls hl => ?_)
  refine lv_iload hx hb dX5_dueBy_48 (lv_at hl 0 rfl) ?_
  refine zr_if_eq (tgt := 58) hF h dX5_dueBy_50 (by decide) (fun h => ?_) (fun h => ?_)
  · refine lv_iload_n hx hb dX5_dueBy_58 rfl (lv_at hl 4 rfl) ?_
    exact wX5_dueBy_j59 hF hr hK0  hw (lv_sub hl [1, 2, 3, 5, 6, 0] rfl) h
  · refine lv_iload hx hb dX5_dueBy_53 (lv_at hl 6 rfl) ?_
    refine lv_goto (tgt := 59) hx hb dX5_dueBy_55 (by decide) ?_
    exact wX5_dueBy_j59 hF hr hK0  hw (lv_sub hl [1, 2, 3, 5, 6, 0] rfl) h
set_option maxHeartbeats 4000000 in
set_option maxRecDepth 100000 in
theorem wX5_dueBy_j45 {p : Program} {l : Launch} {e : Env} {s : State} {m : MethodId} {args : Array Value} {below : List Frame} {meth : Method} {c : Code} {X : zC} {N : zN} {r : Int} {g' : zG} {H : Heap} {locs : List Loc} {ls : Array Slot} (hF : zF p s m args meth c X cX5_dueBy 7 RX5) (hr : meth.sig.returnType = (some .int)) {n : Nat} {K : Nat → Int → Int → Int → Int → Int → zG → Option (Int × zG)} (hK0 : ∀ (x1 : Int) (x2 : Int) (x3 : Int) (x4 : Int) (x5 : Int) (g : zG) (H : Heap) (locs : List Loc) (ls : Array Slot), zH X N g s H locs → lv_has ls 7 [(0, z_r N 6 0), (1, z_v x1), (2, z_v x2), (3, z_v x3), (4, z_v x4), (5, z_v x5)] → K 0 x1 x2 x3 x4 x5 g = some (r, g') → W p l e { frames := 0, cells := 0, slots := 0, locals := 0 } s m args below meth c H locs 0 0 (MQ below (zQi X N r g') args s 0 0 (zA X)) (F0 m 8 ls [])) {x1 : Int} {x2 : Int} {x3 : Int} {x4 : Int} {x5 : Int} {g : zG} (hw : zH X N g s H locs) (hl : lv_has ls 7 [(0, z_r N 6 0), (1, z_v x1), (2, z_v x2), (3, z_v x3), (4, z_v x4), (5, z_v x5)]) (h : sX5_dueBy_j45 n K x1 x2 x3 x4 x5 g = some (r, g')) : W p l e { frames := 0, cells := 0, slots := 0, locals := 0 } s m args below meth c H locs 0 0 (MQ below (zQi X N r g') args s 0 0 (zA X)) (F0 m 45 ls []) := by
  have hx := hF.1.1
  have hb := hF.1.2.1
  unfold sX5_dueBy_j45 at h
  refine lv_iconst hx hb dX5_dueBy_45 rfl ?_
  exact wX5_dueBy_j46 hF hr hK0  hw (lv_sub hl [0, 1, 2, 3, 4, 5] rfl) h
set_option maxHeartbeats 4000000 in
set_option maxRecDepth 100000 in
theorem wX5_dueBy_h8 {p : Program} {l : Launch} {e : Env} {s : State} {m : MethodId} {args : Array Value} {below : List Frame} {meth : Method} {c : Code} {X : zC} {N : zN} {r : Int} {g' : zG} {H : Heap} {locs : List Loc} {ls : Array Slot} (hF : zF p s m args meth c X cX5_dueBy 7 RX5) (hr : meth.sig.returnType = (some .int)) {n : Nat} {K : Nat → Int → Int → Int → Int → Int → zG → Option (Int × zG)} (hK0 : ∀ (x1 : Int) (x2 : Int) (x3 : Int) (x4 : Int) (x5 : Int) (g : zG) (H : Heap) (locs : List Loc) (ls : Array Slot), zH X N g s H locs → lv_has ls 7 [(0, z_r N 6 0), (1, z_v x1), (2, z_v x2), (3, z_v x3), (4, z_v x4), (5, z_v x5)] → K 0 x1 x2 x3 x4 x5 g = some (r, g') → W p l e { frames := 0, cells := 0, slots := 0, locals := 0 } s m args below meth c H locs 0 0 (MQ below (zQi X N r g') args s 0 0 (zA X)) (F0 m 8 ls [])) {x1 : Int} {x2 : Int} {x3 : Int} {x4 : Int} {x5 : Int} {g : zG} (hw : zH X N g s H locs) (hl : lv_has ls 7 [(0, z_r N 6 0), (1, z_v x1), (2, z_v x2), (3, z_v x3), (4, z_v x4), (5, z_v x5)]) (h : sX5_dueBy_h8 n K x1 x2 x3 x4 x5 g = some (r, g')) : W p l e { frames := 0, cells := 0, slots := 0, locals := 0 } s m args below meth c H locs 0 0 (MQ below (zQi X N r g') args s 0 0 (zA X)) (F0 m 8 ls []) := by
  have hx := hF.1.1
  have hb := hF.1.2.1
  unfold sX5_dueBy_h8 at h
  refine lv_iload hx hb dX5_dueBy_8 (lv_at hl 5 rfl) ?_
  refine lv_iload_n hx hb dX5_dueBy_10 rfl (lv_at hl 2 rfl) ?_
  refine zr_icmp_ge (tgt := 90) hF h dX5_dueBy_11 (by decide) (fun h => ?_) (fun h => ?_)
  · refine lv_iload_n hx hb dX5_dueBy_90 rfl (lv_at hl 3 rfl) ?_
    exact zr_iret hF hr hw h dX5_dueBy_91
  · refine lv_aload_n hx hb dX5_dueBy_14 rfl (lv_at hl 0 rfl) ?_
    refine zr_get hF hw zEf_6_0 (by decide) zC_6 20 (by decide) qw_842 rfl dX5_dueBy_15 ?_
    refine lv_iload hx hb dX5_dueBy_18 (lv_at hl 5 rfl) ?_
    refine zr_zald hF hw zEf_37_0 (by decide) h dX5_dueBy_20 (fun h => ?_)
    refine zr_if_ne (tgt := 45) hF h dX5_dueBy_21 (by decide) (fun h => ?_) (fun h => ?_)
    · exact wX5_dueBy_j45 hF hr hK0  hw (lv_sub hl [0, 1, 2, 3, 4, 5] rfl) h
    · refine lv_aload_n hx hb dX5_dueBy_24 rfl (lv_at hl 0 rfl) ?_
      refine zr_get hF hw zEf_6_0 (by decide) zC_6 29 (by decide) qw_851 rfl dX5_dueBy_25 ?_
      refine lv_bipush (v := Int32.ofInt (24)) hx hb dX5_dueBy_28 (by decide) ?_
      refine lv_iload hx hb dX5_dueBy_30 (lv_at hl 5 rfl) ?_
      refine zr_imul hF dX5_dueBy_32 ?_
      refine lv_iload_n hx hb dX5_dueBy_33 rfl (lv_at hl 1 rfl) ?_
      refine zr_iadd hF dX5_dueBy_34 ?_
      refine zr_iald hF hw zEf_41_0 (by decide) h dX5_dueBy_35 (fun h => ?_)
      refine lv_iload hx hb dX5_dueBy_36 (lv_at hl 4 rfl) ?_
      refine zr_icmp_le (tgt := 45) hF h dX5_dueBy_38 (by decide) (fun h => ?_) (fun h => ?_)
      · exact wX5_dueBy_j45 hF hr hK0  hw (lv_sub hl [0, 1, 2, 3, 4, 5] rfl) h
      · refine lv_iconst hx hb dX5_dueBy_41 rfl ?_
        refine lv_goto (tgt := 46) hx hb dX5_dueBy_42 (by decide) ?_
        exact wX5_dueBy_j46 hF hr hK0  hw (lv_sub hl [0, 1, 2, 3, 4, 5] rfl) h
set_option maxHeartbeats 4000000 in
set_option maxRecDepth 100000 in
theorem wX5_dueBy_run {p : Program} {l : Launch} {e : Env} {s : State} {m : MethodId} {args : Array Value} {below : List Frame} {meth : Method} {c : Code} {X : zC} {N : zN} {r : Int} {g' : zG} (hF : zF p s m args meth c X cX5_dueBy 7 RX5) (hr : meth.sig.returnType = (some .int)) {n0 : Nat} : ∀ n : Nat, (∀ (x1 : Int) (x2 : Int) (x3 : Int) (x4 : Int) (x5 : Int) (g : zG) (H : Heap) (locs : List Loc) (ls : Array Slot), zH X N g s H locs → lv_has ls 7 [(0, z_r N 6 0), (1, z_v x1), (2, z_v x2), (3, z_v x3), (4, z_v x4), (5, z_v x5)] → sX5_dueBy_run n0 n 0 x1 x2 x3 x4 x5 g = some (r, g') → W p l e { frames := 0, cells := 0, slots := 0, locals := 0 } s m args below meth c H locs 0 0 (MQ below (zQi X N r g') args s 0 0 (zA X)) (F0 m 8 ls [])) := by
  intro n
  induction n with
  | zero => exact fun _ _ _ _ _ _ _ _ _ _ _  h => (by cases h)
  | succ n ih => exact fun x1 x2 x3 x4 x5 g H locs ls  hw hl h => wX5_dueBy_h8 hF hr ih  hw hl h
set_option maxHeartbeats 4000000 in
set_option maxRecDepth 100000 in
theorem czX5_dueBy (l : Launch) (X : zC) (N : zN) {n : Nat} {x1 : Int} {x2 : Int} {g g' : zG} {r : Int} (h : sX5_dueBy n x1 x2 g = some (r, g')) : zM l yX5_dueBy cX5_dueBy 7 (some .int) { frames := 0, cells := 0, slots := 0, locals := 0 } X N g [z_r N 6 0, z_v x1, z_v x2] (zQi X N r g') := by
  refine z_ofW (own := RX5) (by decide +kernel) rfl (Nat.le_of_ble_eq_true rfl) ?_
  intro p e s m args below meth c ls hF hr hw hl
  have hl : lv_has ls 7 [(0, z_r N 6 0), (1, z_v x1), (2, z_v x2)] := hl
  have hx := hF.1.1
  have hb := hF.1.2.1
  have hKK := wX5_dueBy_run hF hr (r := r) (g' := g') (X := X) (N := N) (n0 := n) (l := l) (e := e) (below := below) n
  have hK0 := hKK
  unfold sX5_dueBy at h
  generalize s.heap = H at hw ⊢
  generalize ([] : List Loc) = locs at hw ⊢
  refine lv_iconst hx hb dX5_dueBy_0 rfl ?_
  refine lv_istore_n (lv' := [(3, z_v ((-1))), (0, z_r N 6 0), (1, z_v x1), (2, z_v x2)]) hx hb dX5_dueBy_1 rfl hl (by decide) rfl (fun ls hl => ?_)
  refine lv_iconst hx hb dX5_dueBy_2 rfl ?_
  refine lv_istore (lv' := [(4, z_v 0), (3, z_v ((-1))), (0, z_r N 6 0), (1, z_v x1), (2, z_v x2)]) hx hb dX5_dueBy_3 hl (by decide) rfl (fun ls hl => ?_)
  refine lv_iconst hx hb dX5_dueBy_5 rfl ?_
  refine lv_istore (lv' := [(5, z_v 0), (4, z_v 0), (3, z_v ((-1))), (0, z_r N 6 0), (1, z_v x1), (2, z_v x2)]) hx hb dX5_dueBy_6 hl (by decide) rfl (fun ls hl => ?_)
  exact hK0 x1 x2 (-1) 0 0 _ _ _ _  hw (lv_sub hl [3, 4, 5, 2, 1, 0] rfl) h
set_option maxHeartbeats 4000000 in
set_option maxRecDepth 100000 in
theorem czX5_dueOf (l : Launch) (X : zC) (N : zN) {n : Nat} {x1 : Int} {x2 : Int} {g g' : zG} {r : Int} (h : sX5_dueOf n x1 x2 g = some (r, g')) : zM l yX5_dueOf cX5_dueOf 4 (some .int) { frames := 1, cells := 0, slots := 0, locals := 26 } X N g [z_r N 6 0, z_v x1, z_v x2] (zQi X N r g') := by
  refine z_ofW (own := RX5) (by decide +kernel) rfl (Nat.le_of_ble_eq_true rfl) ?_
  intro p e s m args below meth c ls hF hr hw hl
  have hl : lv_has ls 4 [(0, z_r N 6 0), (1, z_v x1), (2, z_v x2)] := hl
  have hx := hF.1.1
  have hb := hF.1.2.1
  unfold sX5_dueOf at h
  generalize s.heap = H at hw ⊢
  generalize ([] : List Loc) = locs at hw ⊢
  refine lv_aload_n hx hb dX5_dueOf_0 rfl (lv_at hl 0 rfl) ?_
  refine lv_iload_n hx hb dX5_dueOf_1 rfl (lv_at hl 1 rfl) ?_
  refine lv_iload_n hx hb dX5_dueOf_2 rfl (lv_at hl 2 rfl) ?_
  obtain ⟨r1, g1, h1, h⟩ := zbd_some h
  refine zr_callVi (n := 2) (As := [z_v x1, z_v x2]) (rest := []) hF hw (czX5_dueBy l X N h1) zEf_6_0 (by decide) zC_6 (z_goodV qw_1060 qw_1062 qw_31 qw_42 qw_1063) (by decide +kernel) ⟨Nat.le_of_ble_eq_true rfl, Nat.le_of_ble_eq_true rfl⟩ ⟨rfl, rfl⟩ rfl hl.1 rfl (Nat.le_of_ble_eq_true rfl) dX5_dueOf_3 ⟨Nat.le_of_ble_eq_true rfl, Nat.le_of_ble_eq_true rfl⟩ (fun H locs hw => ?_)
  clear h1
  generalize g1 = g at *
  refine lv_istore_n (lv' := [(3, z_v r1), (0, z_r N 6 0), (1, z_v x1), (2, z_v x2)]) hx hb dX5_dueOf_6 rfl hl (by decide) rfl (fun ls hl => ?_)
  refine lv_iload_n hx hb dX5_dueOf_7 rfl (lv_at hl 0 rfl) ?_
  refine lv_iconst hx hb dX5_dueOf_8 rfl ?_
  refine zr_icmp_ne (tgt := 16) hF h dX5_dueOf_9 (by decide) (fun h => ?_) (fun h => ?_)
  · refine lv_aload_n hx hb dX5_dueOf_16 rfl (lv_at hl 1 rfl) ?_
    refine zr_get hF hw zEf_6_0 (by decide) zC_6 29 (by decide) qw_851 rfl dX5_dueOf_17 ?_
    refine lv_bipush (v := Int32.ofInt (24)) hx hb dX5_dueOf_20 (by decide) ?_
    refine lv_iload_n hx hb dX5_dueOf_22 rfl (lv_at hl 0 rfl) ?_
    refine zr_imul hF dX5_dueOf_23 ?_
    refine lv_iload_n hx hb dX5_dueOf_24 rfl (lv_at hl 2 rfl) ?_
    refine zr_iadd hF dX5_dueOf_25 ?_
    refine zr_iald hF hw zEf_41_0 (by decide) h dX5_dueOf_26 (fun h => ?_)
    exact zr_iret hF hr hw h dX5_dueOf_27
  · refine lv_iconst hx hb dX5_dueOf_12 rfl ?_
    refine lv_goto (tgt := 27) hx hb dX5_dueOf_13 (by decide) ?_
    exact zr_iret hF hr hw h dX5_dueOf_27
set_option maxHeartbeats 4000000 in
set_option maxRecDepth 100000 in
theorem wX5_due_j14 {p : Program} {l : Launch} {e : Env} {s : State} {m : MethodId} {args : Array Value} {below : List Frame} {meth : Method} {c : Code} {X : zC} {N : zN} {r : Int} {g' : zG} {H : Heap} {locs : List Loc} {ls : Array Slot} (hF : zF p s m args meth c X cX5_due 2 RX5) (hr : meth.sig.returnType = (some .int)) {n : Nat} {x1 : Int} {t1 : Int} {g : zG} (hw : zH X N g s H locs) (hl : lv_has ls 2 [(0, z_r N 6 0), (1, z_v x1)]) (h : sX5_due_j14 n x1 t1 g = some (r, g')) : W p l e { frames := 6, cells := 0, slots := 0, locals := 143 } s m args below meth c H locs 0 0 (MQ below (zQi X N r g') args s 0 0 (zA X)) (F0 m 14 ls [z_v t1, z_r N 6 0]) := by
  have hx := hF.1.1
  have hb := hF.1.2.1
  unfold sX5_due_j14 at h
  obtain ⟨r1, g1, h1, h⟩ := zbd_some h
  refine zr_callVi (n := 1) (As := [z_v t1]) (rest := []) hF hw (czX5_holds l X N h1) zEf_6_0 (by decide) zC_6 (z_goodV qw_925 qw_927 qw_14 qw_42 qw_928) (by decide +kernel) ⟨Nat.le_of_ble_eq_true rfl, Nat.le_of_ble_eq_true rfl⟩ ⟨rfl, rfl⟩ rfl hl.1 rfl (Nat.le_of_ble_eq_true rfl) dX5_due_14 ⟨Nat.le_of_ble_eq_true rfl, Nat.le_of_ble_eq_true rfl⟩ (fun H locs hw => ?_)
  clear h1
  generalize g1 = g at *
  refine zr_if_ne (tgt := 22) hF h dX5_due_17 (by decide) (fun h => ?_) (fun h => ?_)
  · refine lv_aload_n hx hb dX5_due_22 rfl (lv_at hl 0 rfl) ?_
    refine lv_aload_n hx hb dX5_due_23 rfl (lv_at hl 0 rfl) ?_
    refine zr_get hF hw zEf_6_0 (by decide) zC_6 14 (by decide) qw_836 rfl dX5_due_24 ?_
    obtain ⟨r2, g1, h1, h⟩ := zbd_some h
    refine zr_callVv (n := 1) (As := [z_v (g 6 0 14)]) (rest := []) hF hw (czX5_dealAll l X N h1) zEf_6_0 (by decide) zC_6 (z_goodV qw_1052 qw_1054 qw_29 qw_42 qw_1055) (by decide +kernel) ⟨Nat.le_of_ble_eq_true rfl, Nat.le_of_ble_eq_true rfl⟩ ⟨rfl, rfl⟩ rfl hl.1 rfl (Nat.le_of_ble_eq_true rfl) dX5_due_27 ⟨Nat.le_of_ble_eq_true rfl, Nat.le_of_ble_eq_true rfl⟩ (fun H locs hw => ?_)
    clear h1
    generalize g1 = g at *
    refine lv_aload_n hx hb dX5_due_30 rfl (lv_at hl 0 rfl) ?_
    refine lv_iload_n hx hb dX5_due_31 rfl (lv_at hl 1 rfl) ?_
    refine lv_aload_n hx hb dX5_due_32 rfl (lv_at hl 0 rfl) ?_
    refine zr_get hF hw zEf_6_0 (by decide) zC_6 14 (by decide) qw_836 rfl dX5_due_33 ?_
    obtain ⟨r3, g1, h1, h⟩ := zbd_some h
    refine zr_callVi (n := 2) (As := [z_v x1, z_v (g 6 0 14)]) (rest := []) hF hw (czX5_dueOf l X N h1) zEf_6_0 (by decide) zC_6 (z_goodV qw_1056 qw_1058 qw_30 qw_42 qw_1059) (by decide +kernel) ⟨Nat.le_of_ble_eq_true rfl, Nat.le_of_ble_eq_true rfl⟩ ⟨rfl, rfl⟩ rfl hl.1 rfl (Nat.le_of_ble_eq_true rfl) dX5_due_36 ⟨Nat.le_of_ble_eq_true rfl, Nat.le_of_ble_eq_true rfl⟩ (fun H locs hw => ?_)
    clear h1
    generalize g1 = g at *
    exact zr_iret hF hr hw h dX5_due_39
  · refine lv_iconst hx hb dX5_due_20 rfl ?_
    exact zr_iret hF hr hw h dX5_due_21
set_option maxHeartbeats 4000000 in
set_option maxRecDepth 100000 in
theorem czX5_due (l : Launch) (X : zC) (N : zN) {n : Nat} {x1 : Int} {g g' : zG} {r : Int} (h : sX5_due n x1 g = some (r, g')) : zM l yX5_due cX5_due 2 (some .int) { frames := 6, cells := 0, slots := 0, locals := 143 } X N g [z_r N 6 0, z_v x1] (zQi X N r g') := by
  refine z_ofW (own := RX5) (by decide +kernel) rfl (Nat.le_of_ble_eq_true rfl) ?_
  intro p e s m args below meth c ls hF hr hw hl
  have hl : lv_has ls 2 [(0, z_r N 6 0), (1, z_v x1)] := hl
  have hx := hF.1.1
  have hb := hF.1.2.1
  unfold sX5_due at h
  generalize s.heap = H at hw ⊢
  generalize ([] : List Loc) = locs at hw ⊢
  refine lv_aload_n hx hb dX5_due_0 rfl (lv_at hl 0 rfl) ?_
  refine lv_aload_n hx hb dX5_due_1 rfl (lv_at hl 0 rfl) ?_
  refine lv_iload_n hx hb dX5_due_2 rfl (lv_at hl 1 rfl) ?_
  obtain ⟨r1, g1, h1, h⟩ := zbd_some h
  refine zr_callVi (n := 1) (As := [z_v x1]) (rest := [z_r N 6 0]) hF hw (czX5_isFlight l X N h1) zEf_6_0 (by decide) zC_6 (z_goodV qw_933 qw_935 qw_15 qw_42 qw_936) (by decide +kernel) ⟨Nat.le_of_ble_eq_true rfl, Nat.le_of_ble_eq_true rfl⟩ ⟨rfl, rfl⟩ rfl hl.1 rfl (Nat.le_of_ble_eq_true rfl) dX5_due_3 ⟨Nat.le_of_ble_eq_true rfl, Nat.le_of_ble_eq_true rfl⟩ (fun H locs hw => ?_)
  clear h1
  generalize g1 = g at *
  refine zr_if_eq (tgt := 13) hF h dX5_due_6 (by decide) (fun h => ?_) (fun h => ?_)
  · refine lv_iconst hx hb dX5_due_13 rfl ?_
    exact wX5_due_j14 hF hr  hw (lv_sub hl [0, 1] rfl) h
  · refine lv_iconst hx hb dX5_due_9 rfl ?_
    refine lv_goto (tgt := 14) hx hb dX5_due_10 (by decide) ?_
    exact wX5_due_j14 hF hr  hw (lv_sub hl [0, 1] rfl) h
set_option maxHeartbeats 4000000 in
set_option maxRecDepth 100000 in
theorem czX5_dueAnew (l : Launch) (X : zC) (N : zN) {n : Nat} {x1 : Int} {g g' : zG} {r : Int} (h : sX5_dueAnew n x1 g = some (r, g')) : zM l yX5_dueAnew cX5_dueAnew 2 (some .int) { frames := 7, cells := 0, slots := 0, locals := 164 } X N g [z_r N 6 0, z_v x1] (zQi X N r g') := by
  refine z_ofW (own := RX5) (by decide +kernel) rfl (Nat.le_of_ble_eq_true rfl) ?_
  intro p e s m args below meth c ls hF hr hw hl
  have hl : lv_has ls 2 [(0, z_r N 6 0), (1, z_v x1)] := hl
  have hx := hF.1.1
  have hb := hF.1.2.1
  unfold sX5_dueAnew at h
  generalize s.heap = H at hw ⊢
  generalize ([] : List Loc) = locs at hw ⊢
  refine lv_aload_n hx hb dX5_dueAnew_0 rfl (lv_at hl 0 rfl) ?_
  refine lv_iload_n hx hb dX5_dueAnew_1 rfl (lv_at hl 1 rfl) ?_
  obtain ⟨r1, g1, h1, h⟩ := zbd_some h
  refine zr_callVi (n := 1) (As := [z_v x1]) (rest := []) hF hw (czX5_due l X N h1) zEf_6_0 (by decide) zC_6 (z_goodV qw_1068 qw_1049 qw_1050 qw_42 qw_1051) (by decide +kernel) ⟨Nat.le_of_ble_eq_true rfl, Nat.le_of_ble_eq_true rfl⟩ ⟨rfl, rfl⟩ rfl hl.1 rfl (Nat.le_of_ble_eq_true rfl) dX5_dueAnew_2 ⟨Nat.le_of_ble_eq_true rfl, Nat.le_of_ble_eq_true rfl⟩ (fun H locs hw => ?_)
  clear h1
  generalize g1 = g at *
  exact zr_iret hF hr hw h dX5_dueAnew_5
set_option maxHeartbeats 4000000 in
set_option maxRecDepth 100000 in
theorem wX5_sumBy_h9 {p : Program} {l : Launch} {e : Env} {s : State} {m : MethodId} {args : Array Value} {below : List Frame} {meth : Method} {c : Code} {X : zC} {N : zN} {r : Int} {g' : zG} {H : Heap} {locs : List Loc} {ls : Array Slot} (hF : zF p s m args meth c X cX5_sumBy 4 RX5) (hr : meth.sig.returnType = (some .int)) {n : Nat} {K : Nat → Int → Int → Int → zG → Option (Int × zG)} (hK0 : ∀ (x1 : Int) (x2 : Int) (x3 : Int) (g : zG) (H : Heap) (locs : List Loc) (ls : Array Slot), zH X N g s H locs → lv_has ls 4 [(0, z_r N 6 0), (1, z_v x1), (2, z_v x2), (3, z_v x3)] → K 0 x1 x2 x3 g = some (r, g') → W p l e { frames := 6, cells := 0, slots := 0, locals := 143 } s m args below meth c H locs 0 0 (MQ below (zQi X N r g') args s 0 0 (zA X)) (F0 m 9 ls [])) {x1 : Int} {x2 : Int} {x3 : Int} {g : zG} (hw : zH X N g s H locs) (hl : lv_has ls 4 [(0, z_r N 6 0), (1, z_v x1), (2, z_v x2), (3, z_v x3)]) (h : sX5_sumBy_h9 n K x1 x2 x3 g = some (r, g')) : W p l e { frames := 6, cells := 0, slots := 0, locals := 143 } s m args below meth c H locs 0 0 (MQ below (zQi X N r g') args s 0 0 (zA X)) (F0 m 9 ls []) := by
  have hx := hF.1.1
  have hb := hF.1.2.1
  unfold sX5_sumBy_h9 at h
  refine lv_iload_n hx hb dX5_sumBy_9 rfl (lv_at hl 3 rfl) ?_
  refine lv_aload_n hx hb dX5_sumBy_10 rfl (lv_at hl 0 rfl) ?_
  refine zr_get hF hw zEf_6_0 (by decide) zC_6 1 (by decide) qw_823 rfl dX5_sumBy_11 ?_
  refine zr_icmp_ge (tgt := 32) hF h dX5_sumBy_14 (by decide) (fun h => ?_) (fun h => ?_)
  · refine lv_iload_n hx hb dX5_sumBy_32 rfl (lv_at hl 2 rfl) ?_
    exact zr_iret hF hr hw h dX5_sumBy_33
  · refine lv_iload_n hx hb dX5_sumBy_17 rfl (lv_at hl 2 rfl) ?_
    refine lv_aload_n hx hb dX5_sumBy_18 rfl (lv_at hl 0 rfl) ?_
    refine lv_iload_n hx hb dX5_sumBy_19 rfl (lv_at hl 3 rfl) ?_
    refine lv_iload_n hx hb dX5_sumBy_20 rfl (lv_at hl 1 rfl) ?_
    obtain ⟨r1, g1, h1, h⟩ := zbd_some h
    refine zr_callVi (n := 2) (As := [z_v x3, z_v x1]) (rest := [z_v x2]) hF hw (czX5_dueOf l X N h1) zEf_6_0 (by decide) zC_6 (z_goodV qw_1056 qw_1058 qw_30 qw_42 qw_1059) (by decide +kernel) ⟨Nat.le_of_ble_eq_true rfl, Nat.le_of_ble_eq_true rfl⟩ ⟨rfl, rfl⟩ rfl hl.1 rfl (Nat.le_of_ble_eq_true rfl) dX5_sumBy_21 ⟨Nat.le_of_ble_eq_true rfl, Nat.le_of_ble_eq_true rfl⟩ (fun H locs hw => ?_)
    clear h1
    generalize g1 = g at *
    refine zr_iadd hF dX5_sumBy_24 ?_
    refine zr_let h (fun v2 h => ?_)
    refine lv_istore_n (lv' := [(2, z_v v2), (0, z_r N 6 0), (1, z_v x1), (3, z_v x3)]) hx hb dX5_sumBy_25 rfl hl (by decide) rfl (fun ls hl => ?_)
    refine zr_iinc hF (lv' := fun v3 => [(3, z_v v3), (2, z_v v2), (0, z_r N 6 0), (1, z_v x1)]) h dX5_sumBy_26 hl (k := 3) rfl (by decide) (fun _ => rfl) (fun v3 ls hl h => ?_)
    refine lv_goto (tgt := 9) hx hb dX5_sumBy_29 (by decide) ?_
    exact hK0 x1 v2 v3 _ _ _ _  hw (lv_sub hl [2, 3, 1, 0] rfl) h
set_option maxHeartbeats 4000000 in
set_option maxRecDepth 100000 in
theorem wX5_sumBy_run {p : Program} {l : Launch} {e : Env} {s : State} {m : MethodId} {args : Array Value} {below : List Frame} {meth : Method} {c : Code} {X : zC} {N : zN} {r : Int} {g' : zG} (hF : zF p s m args meth c X cX5_sumBy 4 RX5) (hr : meth.sig.returnType = (some .int)) {n0 : Nat} : ∀ n : Nat, (∀ (x1 : Int) (x2 : Int) (x3 : Int) (g : zG) (H : Heap) (locs : List Loc) (ls : Array Slot), zH X N g s H locs → lv_has ls 4 [(0, z_r N 6 0), (1, z_v x1), (2, z_v x2), (3, z_v x3)] → sX5_sumBy_run n0 n 0 x1 x2 x3 g = some (r, g') → W p l e { frames := 6, cells := 0, slots := 0, locals := 143 } s m args below meth c H locs 0 0 (MQ below (zQi X N r g') args s 0 0 (zA X)) (F0 m 9 ls [])) := by
  intro n
  induction n with
  | zero => exact fun _ _ _ _ _ _ _ _ _  h => (by cases h)
  | succ n ih => exact fun x1 x2 x3 g H locs ls  hw hl h => wX5_sumBy_h9 hF hr ih  hw hl h
set_option maxHeartbeats 4000000 in
set_option maxRecDepth 100000 in
theorem czX5_sumBy (l : Launch) (X : zC) (N : zN) {n : Nat} {x1 : Int} {g g' : zG} {r : Int} (h : sX5_sumBy n x1 g = some (r, g')) : zM l yX5_sumBy cX5_sumBy 4 (some .int) { frames := 6, cells := 0, slots := 0, locals := 143 } X N g [z_r N 6 0, z_v x1] (zQi X N r g') := by
  refine z_ofW (own := RX5) (by decide +kernel) rfl (Nat.le_of_ble_eq_true rfl) ?_
  intro p e s m args below meth c ls hF hr hw hl
  have hl : lv_has ls 4 [(0, z_r N 6 0), (1, z_v x1)] := hl
  have hx := hF.1.1
  have hb := hF.1.2.1
  have hKK := wX5_sumBy_run hF hr (r := r) (g' := g') (X := X) (N := N) (n0 := n) (l := l) (e := e) (below := below) n
  have hK0 := hKK
  unfold sX5_sumBy at h
  generalize s.heap = H at hw ⊢
  generalize ([] : List Loc) = locs at hw ⊢
  refine lv_aload_n hx hb dX5_sumBy_0 rfl (lv_at hl 0 rfl) ?_
  refine lv_iload_n hx hb dX5_sumBy_1 rfl (lv_at hl 1 rfl) ?_
  obtain ⟨r1, g1, h1, h⟩ := zbd_some h
  refine zr_callVv (n := 1) (As := [z_v x1]) (rest := []) hF hw (czX5_dealAll l X N h1) zEf_6_0 (by decide) zC_6 (z_goodV qw_1052 qw_1054 qw_29 qw_42 qw_1055) (by decide +kernel) ⟨Nat.le_of_ble_eq_true rfl, Nat.le_of_ble_eq_true rfl⟩ ⟨rfl, rfl⟩ rfl hl.1 rfl (Nat.le_of_ble_eq_true rfl) dX5_sumBy_2 ⟨Nat.le_of_ble_eq_true rfl, Nat.le_of_ble_eq_true rfl⟩ (fun H locs hw => ?_)
  clear h1
  generalize g1 = g at *
  refine lv_iconst hx hb dX5_sumBy_5 rfl ?_
  refine lv_istore_n (lv' := [(2, z_v 0), (0, z_r N 6 0), (1, z_v x1)]) hx hb dX5_sumBy_6 rfl hl (by decide) rfl (fun ls hl => ?_)
  refine lv_iconst hx hb dX5_sumBy_7 rfl ?_
  refine lv_istore_n (lv' := [(3, z_v 0), (2, z_v 0), (0, z_r N 6 0), (1, z_v x1)]) hx hb dX5_sumBy_8 rfl hl (by decide) rfl (fun ls hl => ?_)
  exact hK0 x1 0 0 _ _ _ _  hw (lv_sub hl [2, 3, 1, 0] rfl) h
set_option maxHeartbeats 4000000 in
set_option maxRecDepth 100000 in
theorem czX5_allDue (l : Launch) (X : zC) (N : zN) {n : Nat} {g g' : zG} {r : Int} (h : sX5_allDue n g = some (r, g')) : zM l yX5_allDue cX5_allDue 1 (some .int) { frames := 7, cells := 0, slots := 0, locals := 166 } X N g [z_r N 6 0] (zQi X N r g') := by
  refine z_ofW (own := RX5) (by decide +kernel) rfl (Nat.le_of_ble_eq_true rfl) ?_
  intro p e s m args below meth c ls hF hr hw hl
  have hl : lv_has ls 1 [(0, z_r N 6 0)] := hl
  have hx := hF.1.1
  have hb := hF.1.2.1
  unfold sX5_allDue at h
  generalize s.heap = H at hw ⊢
  generalize ([] : List Loc) = locs at hw ⊢
  refine lv_aload_n hx hb dX5_allDue_0 rfl (lv_at hl 0 rfl) ?_
  refine lv_iconst hx hb dX5_allDue_1 rfl ?_
  refine zr_put hF hw zEf_6_0 (by decide) zC_6 0 (by decide) (by decide) qw_822 rfl (by decide +kernel) h dX5_allDue_2 (fun g H locs hw h => ?_)
  refine lv_aload_n hx hb dX5_allDue_5 rfl (lv_at hl 0 rfl) ?_
  refine lv_aload_n hx hb dX5_allDue_6 rfl (lv_at hl 0 rfl) ?_
  refine zr_get hF hw zEf_6_0 (by decide) zC_6 14 (by decide) qw_836 rfl dX5_allDue_7 ?_
  obtain ⟨r1, g1, h1, h⟩ := zbd_some h
  refine zr_callVi (n := 1) (As := [z_v (g 6 0 14)]) (rest := []) hF hw (czX5_sumBy l X N h1) zEf_6_0 (by decide) zC_6 (z_goodV qw_1073 qw_1075 qw_32 qw_42 qw_1076) (by decide +kernel) ⟨Nat.le_of_ble_eq_true rfl, Nat.le_of_ble_eq_true rfl⟩ ⟨rfl, rfl⟩ rfl hl.1 rfl (Nat.le_of_ble_eq_true rfl) dX5_allDue_10 ⟨Nat.le_of_ble_eq_true rfl, Nat.le_of_ble_eq_true rfl⟩ (fun H locs hw => ?_)
  clear h1
  generalize g1 = g at *
  exact zr_iret hF hr hw h dX5_allDue_13
set_option maxHeartbeats 4000000 in
set_option maxRecDepth 100000 in
theorem wX5_would_j27 {p : Program} {l : Launch} {e : Env} {s : State} {m : MethodId} {args : Array Value} {below : List Frame} {meth : Method} {c : Code} {X : zC} {N : zN} {r : Int} {g' : zG} {H : Heap} {locs : List Loc} {ls : Array Slot} (hF : zF p s m args meth c X cX5_would 5 RX5) (hr : meth.sig.returnType = (some .int)) {n : Nat} {x1 : Int} {x2 : Int} {x3 : Int} {x4 : Int} {t1 : Int} {g : zG} (hw : zH X N g s H locs) (hl : lv_has ls 5 [(0, z_r N 6 0), (1, z_v x1), (2, z_v x2), (3, z_v x3), (4, z_v x4)]) (h : sX5_would_j27 n x1 x2 x3 x4 t1 g = some (r, g')) : W p l e { frames := 7, cells := 0, slots := 0, locals := 166 } s m args below meth c H locs 0 0 (MQ below (zQi X N r g') args s 0 0 (zA X)) (F0 m 27 ls [z_v t1, z_r N 6 0]) := by
  have hx := hF.1.1
  have hb := hF.1.2.1
  unfold sX5_would_j27 at h
  obtain ⟨r1, g1, h1, h⟩ := zbd_some h
  refine zr_callVi (n := 1) (As := [z_v t1]) (rest := []) hF hw (czX5_holds l X N h1) zEf_6_0 (by decide) zC_6 (z_goodV qw_925 qw_927 qw_14 qw_42 qw_928) (by decide +kernel) ⟨Nat.le_of_ble_eq_true rfl, Nat.le_of_ble_eq_true rfl⟩ ⟨rfl, rfl⟩ rfl hl.1 rfl (Nat.le_of_ble_eq_true rfl) dX5_would_27 ⟨Nat.le_of_ble_eq_true rfl, Nat.le_of_ble_eq_true rfl⟩ (fun H locs hw => ?_)
  clear h1
  generalize g1 = g at *
  refine zr_if_ne (tgt := 35) hF h dX5_would_30 (by decide) (fun h => ?_) (fun h => ?_)
  · refine lv_aload_n hx hb dX5_would_35 rfl (lv_at hl 0 rfl) ?_
    refine lv_aload_n hx hb dX5_would_36 rfl (lv_at hl 0 rfl) ?_
    refine zr_get hF hw zEf_6_0 (by decide) zC_6 14 (by decide) qw_836 rfl dX5_would_37 ?_
    refine lv_iload_n hx hb dX5_would_40 rfl (lv_at hl 1 rfl) ?_
    refine lv_iload_n hx hb dX5_would_41 rfl (lv_at hl 2 rfl) ?_
    refine lv_iload_n hx hb dX5_would_42 rfl (lv_at hl 3 rfl) ?_
    refine lv_iload hx hb dX5_would_43 (lv_at hl 4 rfl) ?_
    obtain ⟨r2, g1, h1, h⟩ := zbd_some h
    refine zr_callVv (n := 5) (As := [z_v (g 6 0 14), z_v x1, z_v x2, z_v x3, z_v x4]) (rest := []) hF hw (czX5_lays l X N h1) zEf_6_0 (by decide) zC_6 (z_goodV qw_992 qw_994 qw_20 qw_42 qw_995) (by decide +kernel) ⟨Nat.le_of_ble_eq_true rfl, Nat.le_of_ble_eq_true rfl⟩ ⟨rfl, rfl⟩ rfl hl.1 rfl (Nat.le_of_ble_eq_true rfl) dX5_would_45 ⟨Nat.le_of_ble_eq_true rfl, Nat.le_of_ble_eq_true rfl⟩ (fun H locs hw => ?_)
    clear h1
    generalize g1 = g at *
    refine lv_aload_n hx hb dX5_would_48 rfl (lv_at hl 0 rfl) ?_
    refine lv_aload_n hx hb dX5_would_49 rfl (lv_at hl 0 rfl) ?_
    refine zr_get hF hw zEf_6_0 (by decide) zC_6 14 (by decide) qw_836 rfl dX5_would_50 ?_
    refine lv_iconst hx hb dX5_would_53 rfl ?_
    refine zr_iadd hF dX5_would_54 ?_
    obtain ⟨r3, g1, h1, h⟩ := zbd_some h
    refine zr_callVi (n := 1) (As := [z_v ((g 6 0 14) + 1)]) (rest := []) hF hw (czX5_sumBy l X N h1) zEf_6_0 (by decide) zC_6 (z_goodV qw_1073 qw_1075 qw_32 qw_42 qw_1076) (by decide +kernel) ⟨Nat.le_of_ble_eq_true rfl, Nat.le_of_ble_eq_true rfl⟩ ⟨rfl, rfl⟩ rfl hl.1 rfl (Nat.le_of_ble_eq_true rfl) dX5_would_55 ⟨Nat.le_of_ble_eq_true rfl, Nat.le_of_ble_eq_true rfl⟩ (fun H locs hw => ?_)
    clear h1
    generalize g1 = g at *
    exact zr_iret hF hr hw h dX5_would_58
  · refine lv_iconst hx hb dX5_would_33 rfl ?_
    exact zr_iret hF hr hw h dX5_would_34
set_option maxHeartbeats 4000000 in
set_option maxRecDepth 100000 in
theorem czX5_would (l : Launch) (X : zC) (N : zN) {n : Nat} {x1 : Int} {x2 : Int} {x3 : Int} {x4 : Int} {g g' : zG} {r : Int} (h : sX5_would n x1 x2 x3 x4 g = some (r, g')) : zM l yX5_would cX5_would 5 (some .int) { frames := 7, cells := 0, slots := 0, locals := 166 } X N g [z_r N 6 0, z_v x1, z_v x2, z_v x3, z_v x4] (zQi X N r g') := by
  refine z_ofW (own := RX5) (by decide +kernel) rfl (Nat.le_of_ble_eq_true rfl) ?_
  intro p e s m args below meth c ls hF hr hw hl
  have hl : lv_has ls 5 [(0, z_r N 6 0), (1, z_v x1), (2, z_v x2), (3, z_v x3), (4, z_v x4)] := hl
  have hx := hF.1.1
  have hb := hF.1.2.1
  unfold sX5_would at h
  generalize s.heap = H at hw ⊢
  generalize ([] : List Loc) = locs at hw ⊢
  refine lv_aload_n hx hb dX5_would_0 rfl (lv_at hl 0 rfl) ?_
  refine lv_iload_n hx hb dX5_would_1 rfl (lv_at hl 1 rfl) ?_
  obtain ⟨r1, g1, h1, h⟩ := zbd_some h
  refine zr_callSi (n := 1) (As := [z_v x1]) (rest := [z_r N 6 0]) hF hw (czX5_isSector l X N h1) (z_goodS qw_937 qw_938 qw_42 qw_939) (by decide +kernel) ⟨Nat.le_of_ble_eq_true rfl, Nat.le_of_ble_eq_true rfl⟩ ⟨rfl, rfl⟩ rfl hl.1 rfl (Nat.le_of_ble_eq_true rfl) dX5_would_2 ⟨Nat.le_of_ble_eq_true rfl, Nat.le_of_ble_eq_true rfl⟩ (fun H locs hw => ?_)
  clear h1
  generalize g1 = g at *
  refine zr_if_ne (tgt := 12) hF h dX5_would_5 (by decide) (fun h => ?_) (fun h => ?_)
  · refine lv_iload_n hx hb dX5_would_12 rfl (lv_at hl 2 rfl) ?_
    refine lv_iload_n hx hb dX5_would_13 rfl (lv_at hl 3 rfl) ?_
    refine lv_iload hx hb dX5_would_14 (lv_at hl 4 rfl) ?_
    obtain ⟨r2, g1, h1, h⟩ := zbd_some h
    refine zr_callSi (n := 3) (As := [z_v x2, z_v x3, z_v x4]) (rest := [z_r N 6 0]) hF hw (czX5_isPart l X N h1) (z_goodS qw_989 qw_990 qw_42 qw_991) (by decide +kernel) ⟨Nat.le_of_ble_eq_true rfl, Nat.le_of_ble_eq_true rfl⟩ ⟨rfl, rfl⟩ rfl hl.1 rfl (Nat.le_of_ble_eq_true rfl) dX5_would_16 ⟨Nat.le_of_ble_eq_true rfl, Nat.le_of_ble_eq_true rfl⟩ (fun H locs hw => ?_)
    clear h1
    generalize g1 = g at *
    refine zr_if_eq (tgt := 26) hF h dX5_would_19 (by decide) (fun h => ?_) (fun h => ?_)
    · refine lv_iconst hx hb dX5_would_26 rfl ?_
      exact wX5_would_j27 hF hr  hw (lv_sub hl [0, 1, 2, 3, 4] rfl) h
    · refine lv_iconst hx hb dX5_would_22 rfl ?_
      refine lv_goto (tgt := 27) hx hb dX5_would_23 (by decide) ?_
      exact wX5_would_j27 hF hr  hw (lv_sub hl [0, 1, 2, 3, 4] rfl) h
  · refine lv_iconst hx hb dX5_would_8 rfl ?_
    refine lv_goto (tgt := 27) hx hb dX5_would_9 (by decide) ?_
    exact wX5_would_j27 hF hr  hw (lv_sub hl [0, 1, 2, 3, 4] rfl) h
set_option maxHeartbeats 4000000 in
set_option maxRecDepth 100000 in
theorem wX5_deals_j116 {p : Program} {l : Launch} {e : Env} {s : State} {m : MethodId} {args : Array Value} {below : List Frame} {meth : Method} {c : Code} {X : zC} {N : zN} {r : Int} {g' : zG} {H : Heap} {locs : List Loc} {ls : Array Slot} (hF : zF p s m args meth c X cX5_deals 6 RX5) (hr : meth.sig.returnType = none) {n : Nat} {t1 : Int} {t2 : Int} {g : zG} (hw : zH X N g s H locs) (hl : lv_has ls 6 []) (h : sX5_deals_j116 n t1 t2 g = some (r, g')) : W p l e { frames := 2, cells := 0, slots := 0, locals := 49 } s m args below meth c H locs 0 0 (MQ below (zQv X N g') args s 0 0 (zA X)) (F0 m 116 ls [z_v t2, z_v t1, z_r N 25 0]) := by
  have hx := hF.1.1
  have hb := hF.1.2.1
  unfold sX5_deals_j116 at h
  refine zr_iast hF hw zEf_25_0 (by decide) h dX5_deals_116 (fun g H locs hw h => ?_)
  exact zr_vret hF hr hw h dX5_deals_117
set_option maxHeartbeats 4000000 in
set_option maxRecDepth 100000 in
theorem wX5_deals_j95 {p : Program} {l : Launch} {e : Env} {s : State} {m : MethodId} {args : Array Value} {below : List Frame} {meth : Method} {c : Code} {X : zC} {N : zN} {r : Int} {g' : zG} {H : Heap} {locs : List Loc} {ls : Array Slot} (hF : zF p s m args meth c X cX5_deals 6 RX5) (hr : meth.sig.returnType = none) {n : Nat} {x1 : Int} {x3 : Int} {x5 : Int} {t1 : Int} {t2 : Int} {g : zG} (hw : zH X N g s H locs) (hl : lv_has ls 6 [(0, z_r N 6 0), (1, z_v x1), (3, z_v x3), (5, z_v x5)]) (h : sX5_deals_j95 n x1 x3 x5 t1 t2 g = some (r, g')) : W p l e { frames := 2, cells := 0, slots := 0, locals := 49 } s m args below meth c H locs 0 0 (MQ below (zQv X N g') args s 0 0 (zA X)) (F0 m 95 ls [z_v t2, z_v t1, z_r N 24 0]) := by
  have hx := hF.1.1
  have hb := hF.1.2.1
  unfold sX5_deals_j95 at h
  refine zr_iast hF hw zEf_24_0 (by decide) h dX5_deals_95 (fun g H locs hw h => ?_)
  refine lv_aload_n hx hb dX5_deals_96 rfl (lv_at hl 0 rfl) ?_
  refine zr_get hF hw zEf_6_0 (by decide) zC_6 7 (by decide) qw_829 rfl dX5_deals_97 ?_
  refine lv_iload_n hx hb dX5_deals_100 rfl (lv_at hl 1 rfl) ?_
  refine lv_iload hx hb dX5_deals_101 (lv_at hl 3 rfl) ?_
  refine zr_if_eq (tgt := 115) hF h dX5_deals_103 (by decide) (fun h => ?_) (fun h => ?_)
  · refine lv_iload_n hx hb dX5_deals_115 rfl (lv_at hl 2 rfl) ?_
    exact wX5_deals_j116 hF hr  hw (lv_sub hl [] rfl) h
  · refine lv_aload_n hx hb dX5_deals_106 rfl (lv_at hl 0 rfl) ?_
    refine zr_get hF hw zEf_6_0 (by decide) zC_6 7 (by decide) qw_829 rfl dX5_deals_107 ?_
    refine lv_iload_n hx hb dX5_deals_110 rfl (lv_at hl 1 rfl) ?_
    refine zr_iald hF hw zEf_25_0 (by decide) h dX5_deals_111 (fun h => ?_)
    refine lv_goto (tgt := 116) hx hb dX5_deals_112 (by decide) ?_
    exact wX5_deals_j116 hF hr  hw (lv_sub hl [] rfl) h
set_option maxHeartbeats 4000000 in
set_option maxRecDepth 100000 in
theorem wX5_deals_j72 {p : Program} {l : Launch} {e : Env} {s : State} {m : MethodId} {args : Array Value} {below : List Frame} {meth : Method} {c : Code} {X : zC} {N : zN} {r : Int} {g' : zG} {H : Heap} {locs : List Loc} {ls : Array Slot} (hF : zF p s m args meth c X cX5_deals 6 RX5) (hr : meth.sig.returnType = none) {n : Nat} {x1 : Int} {x3 : Int} {x4 : Int} {t0 : Int} {g : zG} (hw : zH X N g s H locs) (hl : lv_has ls 6 [(0, z_r N 6 0), (1, z_v x1), (3, z_v x3), (4, z_v x4)]) (h : sX5_deals_j72 n x1 x3 x4 t0 g = some (r, g')) : W p l e { frames := 2, cells := 0, slots := 0, locals := 49 } s m args below meth c H locs 0 0 (MQ below (zQv X N g') args s 0 0 (zA X)) (F0 m 72 ls [z_v t0]) := by
  have hx := hF.1.1
  have hb := hF.1.2.1
  unfold sX5_deals_j72 at h
  refine lv_istore (lv' := [(5, z_v t0), (0, z_r N 6 0), (1, z_v x1), (3, z_v x3), (4, z_v x4)]) hx hb dX5_deals_72 hl (by decide) rfl (fun ls hl => ?_)
  refine lv_aload_n hx hb dX5_deals_74 rfl (lv_at hl 1 rfl) ?_
  refine zr_get hF hw zEf_6_0 (by decide) zC_6 6 (by decide) qw_828 rfl dX5_deals_75 ?_
  refine lv_iload_n hx hb dX5_deals_78 rfl (lv_at hl 2 rfl) ?_
  refine lv_iload hx hb dX5_deals_79 (lv_at hl 0 rfl) ?_
  refine zr_if_eq (tgt := 93) hF h dX5_deals_81 (by decide) (fun h => ?_) (fun h => ?_)
  · refine lv_iload hx hb dX5_deals_93 (lv_at hl 4 rfl) ?_
    exact wX5_deals_j95 hF hr  hw (lv_sub hl [1, 2, 3, 0] rfl) h
  · refine lv_aload_n hx hb dX5_deals_84 rfl (lv_at hl 1 rfl) ?_
    refine zr_get hF hw zEf_6_0 (by decide) zC_6 6 (by decide) qw_828 rfl dX5_deals_85 ?_
    refine lv_iload_n hx hb dX5_deals_88 rfl (lv_at hl 2 rfl) ?_
    refine zr_iald hF hw zEf_24_0 (by decide) h dX5_deals_89 (fun h => ?_)
    refine lv_goto (tgt := 95) hx hb dX5_deals_90 (by decide) ?_
    exact wX5_deals_j95 hF hr  hw (lv_sub hl [1, 2, 3, 0] rfl) h
set_option maxHeartbeats 4000000 in
set_option maxRecDepth 100000 in
theorem wX5_deals_j71 {p : Program} {l : Launch} {e : Env} {s : State} {m : MethodId} {args : Array Value} {below : List Frame} {meth : Method} {c : Code} {X : zC} {N : zN} {r : Int} {g' : zG} {H : Heap} {locs : List Loc} {ls : Array Slot} (hF : zF p s m args meth c X cX5_deals 6 RX5) (hr : meth.sig.returnType = none) {n : Nat} {x1 : Int} {x3 : Int} {x4 : Int} {g : zG} (hw : zH X N g s H locs) (hl : lv_has ls 6 [(0, z_r N 6 0), (1, z_v x1), (3, z_v x3), (4, z_v x4)]) (h : sX5_deals_j71 n x1 x3 x4 g = some (r, g')) : W p l e { frames := 2, cells := 0, slots := 0, locals := 49 } s m args below meth c H locs 0 0 (MQ below (zQv X N g') args s 0 0 (zA X)) (F0 m 71 ls []) := by
  have hx := hF.1.1
  have hb := hF.1.2.1
  unfold sX5_deals_j71 at h
  refine lv_iconst hx hb dX5_deals_71 rfl ?_
  exact wX5_deals_j72 hF hr  hw (lv_sub hl [0, 1, 2, 3] rfl) h
set_option maxHeartbeats 4000000 in
set_option maxRecDepth 100000 in
theorem wX5_deals_j35 {p : Program} {l : Launch} {e : Env} {s : State} {m : MethodId} {args : Array Value} {below : List Frame} {meth : Method} {c : Code} {X : zC} {N : zN} {r : Int} {g' : zG} {H : Heap} {locs : List Loc} {ls : Array Slot} (hF : zF p s m args meth c X cX5_deals 6 RX5) (hr : meth.sig.returnType = none) {n : Nat} {x1 : Int} {x2 : Int} {x3 : Int} {t0 : Int} {g : zG} (hw : zH X N g s H locs) (hl : lv_has ls 6 [(0, z_r N 6 0), (1, z_v x1), (2, z_v x2), (3, z_v x3)]) (h : sX5_deals_j35 n x1 x2 x3 t0 g = some (r, g')) : W p l e { frames := 2, cells := 0, slots := 0, locals := 49 } s m args below meth c H locs 0 0 (MQ below (zQv X N g') args s 0 0 (zA X)) (F0 m 35 ls [z_v t0]) := by
  have hx := hF.1.1
  have hb := hF.1.2.1
  unfold sX5_deals_j35 at h
  refine lv_istore (lv' := [(4, z_v t0), (0, z_r N 6 0), (1, z_v x1), (2, z_v x2), (3, z_v x3)]) hx hb dX5_deals_35 hl (by decide) rfl (fun ls hl => ?_)
  refine lv_iload_n hx hb dX5_deals_37 rfl (lv_at hl 4 rfl) ?_
  refine lv_iconst hx hb dX5_deals_38 rfl ?_
  refine zr_icmp_eq (tgt := 71) hF h dX5_deals_39 (by decide) (fun h => ?_) (fun h => ?_)
  · exact wX5_deals_j71 hF hr  hw (lv_sub hl [1, 2, 4, 0] rfl) h
  · refine lv_iload_n hx hb dX5_deals_42 rfl (lv_at hl 3 rfl) ?_
    refine zr_if_ne (tgt := 71) hF h dX5_deals_43 (by decide) (fun h => ?_) (fun h => ?_)
    · exact wX5_deals_j71 hF hr  hw (lv_sub hl [1, 2, 4, 0] rfl) h
    · refine lv_aload_n hx hb dX5_deals_46 rfl (lv_at hl 1 rfl) ?_
      refine zr_get hF hw zEf_6_0 (by decide) zC_6 6 (by decide) qw_828 rfl dX5_deals_47 ?_
      refine lv_iload_n hx hb dX5_deals_50 rfl (lv_at hl 2 rfl) ?_
      refine zr_iald hF hw zEf_24_0 (by decide) h dX5_deals_51 (fun h => ?_)
      refine lv_iconst hx hb dX5_deals_52 rfl ?_
      refine zr_icmp_eq (tgt := 71) hF h dX5_deals_53 (by decide) (fun h => ?_) (fun h => ?_)
      · exact wX5_deals_j71 hF hr  hw (lv_sub hl [1, 2, 4, 0] rfl) h
      · refine lv_iload hx hb dX5_deals_56 (lv_at hl 0 rfl) ?_
        refine lv_aload_n hx hb dX5_deals_58 rfl (lv_at hl 1 rfl) ?_
        refine zr_get hF hw zEf_6_0 (by decide) zC_6 6 (by decide) qw_828 rfl dX5_deals_59 ?_
        refine lv_iload_n hx hb dX5_deals_62 rfl (lv_at hl 2 rfl) ?_
        refine zr_iald hF hw zEf_24_0 (by decide) h dX5_deals_63 (fun h => ?_)
        refine zr_icmp_le (tgt := 71) hF h dX5_deals_64 (by decide) (fun h => ?_) (fun h => ?_)
        · exact wX5_deals_j71 hF hr  hw (lv_sub hl [1, 2, 4, 0] rfl) h
        · refine lv_iconst hx hb dX5_deals_67 rfl ?_
          refine lv_goto (tgt := 72) hx hb dX5_deals_68 (by decide) ?_
          exact wX5_deals_j72 hF hr  hw (lv_sub hl [1, 2, 4, 0] rfl) h
set_option maxHeartbeats 4000000 in
set_option maxRecDepth 100000 in
theorem czX5_deals (l : Launch) (X : zC) (N : zN) {n : Nat} {x1 : Int} {x2 : Int} {g g' : zG} {r : Int} (h : sX5_deals n x1 x2 g = some (r, g')) : zM l yX5_deals cX5_deals 6 none { frames := 2, cells := 0, slots := 0, locals := 49 } X N g [z_r N 6 0, z_v x1, z_v x2] (zQv X N g') := by
  refine z_ofW (own := RX5) (by decide +kernel) rfl (Nat.le_of_ble_eq_true rfl) ?_
  intro p e s m args below meth c ls hF hr hw hl
  have hl : lv_has ls 6 [(0, z_r N 6 0), (1, z_v x1), (2, z_v x2)] := hl
  have hx := hF.1.1
  have hb := hF.1.2.1
  unfold sX5_deals at h
  generalize s.heap = H at hw ⊢
  generalize ([] : List Loc) = locs at hw ⊢
  refine lv_aload_n hx hb dX5_deals_0 rfl (lv_at hl 0 rfl) ?_
  refine lv_iload_n hx hb dX5_deals_1 rfl (lv_at hl 1 rfl) ?_
  refine lv_aload_n hx hb dX5_deals_2 rfl (lv_at hl 0 rfl) ?_
  refine zr_get hF hw zEf_6_0 (by decide) zC_6 14 (by decide) qw_836 rfl dX5_deals_3 ?_
  obtain ⟨r1, g1, h1, h⟩ := zbd_some h
  refine zr_callVi (n := 2) (As := [z_v x1, z_v (g 6 0 14)]) (rest := []) hF hw (czX5_dueBy l X N h1) zEf_6_0 (by decide) zC_6 (z_goodV qw_1060 qw_1062 qw_31 qw_42 qw_1063) (by decide +kernel) ⟨Nat.le_of_ble_eq_true rfl, Nat.le_of_ble_eq_true rfl⟩ ⟨rfl, rfl⟩ rfl hl.1 rfl (Nat.le_of_ble_eq_true rfl) dX5_deals_6 ⟨Nat.le_of_ble_eq_true rfl, Nat.le_of_ble_eq_true rfl⟩ (fun H locs hw => ?_)
  clear h1
  generalize g1 = g at *
  refine lv_istore_n (lv' := [(3, z_v r1), (0, z_r N 6 0), (1, z_v x1), (2, z_v x2)]) hx hb dX5_deals_9 rfl hl (by decide) rfl (fun ls hl => ?_)
  refine lv_iload_n hx hb dX5_deals_10 rfl (lv_at hl 0 rfl) ?_
  refine lv_iconst hx hb dX5_deals_11 rfl ?_
  refine zr_icmp_ne (tgt := 19) hF h dX5_deals_12 (by decide) (fun h => ?_) (fun h => ?_)
  · refine lv_aload_n hx hb dX5_deals_19 rfl (lv_at hl 1 rfl) ?_
    refine zr_get hF hw zEf_6_0 (by decide) zC_6 3 (by decide) qw_825 rfl dX5_deals_20 ?_
    refine lv_iload_n hx hb dX5_deals_23 rfl (lv_at hl 2 rfl) ?_
    refine zr_iald hF hw zEf_21_0 (by decide) h dX5_deals_24 (fun h => ?_)
    refine lv_aload_n hx hb dX5_deals_25 rfl (lv_at hl 1 rfl) ?_
    refine lv_iload_n hx hb dX5_deals_26 rfl (lv_at hl 2 rfl) ?_
    refine lv_aload_n hx hb dX5_deals_27 rfl (lv_at hl 1 rfl) ?_
    refine zr_get hF hw zEf_6_0 (by decide) zC_6 14 (by decide) qw_836 rfl dX5_deals_28 ?_
    obtain ⟨v3, hv3⟩ : ∃ y : Int, y = g 21 0 (x1).toNat := ⟨_, rfl⟩
    have h := zlet_elim h
    rw [← hv3] at h ⊢
    clear hv3
    obtain ⟨r2, g1, h1, h⟩ := zbd_some h
    refine zr_callVi (n := 2) (As := [z_v x1, z_v (g 6 0 14)]) (rest := [z_v v3]) hF hw (czX5_dueOf l X N h1) zEf_6_0 (by decide) zC_6 (z_goodV qw_1056 qw_1058 qw_30 qw_42 qw_1059) (by decide +kernel) ⟨Nat.le_of_ble_eq_true rfl, Nat.le_of_ble_eq_true rfl⟩ ⟨rfl, rfl⟩ rfl hl.1 rfl (Nat.le_of_ble_eq_true rfl) dX5_deals_31 ⟨Nat.le_of_ble_eq_true rfl, Nat.le_of_ble_eq_true rfl⟩ (fun H locs hw => ?_)
    clear h1
    generalize g1 = g at *
    refine zr_iadd hF dX5_deals_34 ?_
    exact wX5_deals_j35 hF hr  hw (lv_sub hl [1, 2, 3, 0] rfl) h
  · refine lv_iconst hx hb dX5_deals_15 rfl ?_
    refine lv_goto (tgt := 35) hx hb dX5_deals_16 (by decide) ?_
    exact wX5_deals_j35 hF hr  hw (lv_sub hl [1, 2, 3, 0] rfl) h
set_option maxHeartbeats 4000000 in
set_option maxRecDepth 100000 in
theorem wX5_deal_j77 {p : Program} {l : Launch} {e : Env} {s : State} {m : MethodId} {args : Array Value} {below : List Frame} {meth : Method} {c : Code} {X : zC} {N : zN} {r : Int} {g' : zG} {H : Heap} {locs : List Loc} {ls : Array Slot} (hF : zF p s m args meth c X cX5_deal 4 RX5) (hr : meth.sig.returnType = (some .int)) {n : Nat} {K : Nat → Int → Int → Int → zG → Option (Int × zG)} (hK0 : ∀ (x1 : Int) (x2 : Int) (x3 : Int) (g : zG) (H : Heap) (locs : List Loc) (ls : Array Slot), zH X N g s H locs → lv_has ls 4 [(0, z_r N 6 0), (1, z_v x1), (2, z_v x2), (3, z_v x3)] → K 0 x1 x2 x3 g = some (r, g') → W p l e { frames := 6, cells := 0, slots := 0, locals := 143 } s m args below meth c H locs 0 0 (MQ below (zQi X N r g') args s 0 0 (zA X)) (F0 m 17 ls [])) {x1 : Int} {x3 : Int} {t0 : Int} {t1 : Int} {g : zG} (hw : zH X N g s H locs) (hl : lv_has ls 4 [(0, z_r N 6 0), (1, z_v x1), (3, z_v x3)]) (h : sX5_deal_j77 n K x1 x3 t0 t1 g = some (r, g')) : W p l e { frames := 6, cells := 0, slots := 0, locals := 143 } s m args below meth c H locs 0 0 (MQ below (zQi X N r g') args s 0 0 (zA X)) (F0 m 77 ls [z_v t1, z_v t0]) := by
  have hx := hF.1.1
  have hb := hF.1.2.1
  unfold sX5_deal_j77 at h
  refine zr_iadd hF dX5_deal_77 ?_
  refine zr_let h (fun v1 h => ?_)
  refine lv_istore_n (lv' := [(2, z_v v1), (0, z_r N 6 0), (1, z_v x1), (3, z_v x3)]) hx hb dX5_deal_78 rfl hl (by decide) rfl (fun ls hl => ?_)
  refine zr_iinc hF (lv' := fun v2 => [(3, z_v v2), (2, z_v v1), (0, z_r N 6 0), (1, z_v x1)]) h dX5_deal_79 hl (k := 3) rfl (by decide) (fun _ => rfl) (fun v2 ls hl h => ?_)
  refine lv_goto (tgt := 17) hx hb dX5_deal_82 (by decide) ?_
  exact hK0 x1 v1 v2 _ _ _ _  hw (lv_sub hl [2, 3, 1, 0] rfl) h
set_option maxHeartbeats 4000000 in
set_option maxRecDepth 100000 in
theorem wX5_deal_h17 {p : Program} {l : Launch} {e : Env} {s : State} {m : MethodId} {args : Array Value} {below : List Frame} {meth : Method} {c : Code} {X : zC} {N : zN} {r : Int} {g' : zG} {H : Heap} {locs : List Loc} {ls : Array Slot} (hF : zF p s m args meth c X cX5_deal 4 RX5) (hr : meth.sig.returnType = (some .int)) {n : Nat} {K : Nat → Int → Int → Int → zG → Option (Int × zG)} (hK0 : ∀ (x1 : Int) (x2 : Int) (x3 : Int) (g : zG) (H : Heap) (locs : List Loc) (ls : Array Slot), zH X N g s H locs → lv_has ls 4 [(0, z_r N 6 0), (1, z_v x1), (2, z_v x2), (3, z_v x3)] → K 0 x1 x2 x3 g = some (r, g') → W p l e { frames := 6, cells := 0, slots := 0, locals := 143 } s m args below meth c H locs 0 0 (MQ below (zQi X N r g') args s 0 0 (zA X)) (F0 m 17 ls [])) {x1 : Int} {x2 : Int} {x3 : Int} {g : zG} (hw : zH X N g s H locs) (hl : lv_has ls 4 [(0, z_r N 6 0), (1, z_v x1), (2, z_v x2), (3, z_v x3)]) (h : sX5_deal_h17 n K x1 x2 x3 g = some (r, g')) : W p l e { frames := 6, cells := 0, slots := 0, locals := 143 } s m args below meth c H locs 0 0 (MQ below (zQi X N r g') args s 0 0 (zA X)) (F0 m 17 ls []) := by
  have hx := hF.1.1
  have hb := hF.1.2.1
  unfold sX5_deal_h17 at h
  refine lv_iload_n hx hb dX5_deal_17 rfl (lv_at hl 3 rfl) ?_
  refine lv_aload_n hx hb dX5_deal_18 rfl (lv_at hl 0 rfl) ?_
  refine zr_get hF hw zEf_6_0 (by decide) zC_6 1 (by decide) qw_823 rfl dX5_deal_19 ?_
  refine zr_icmp_ge (tgt := 85) hF h dX5_deal_22 (by decide) (fun h => ?_) (fun h => ?_)
  · refine lv_iload_n hx hb dX5_deal_85 rfl (lv_at hl 2 rfl) ?_
    exact zr_iret hF hr hw h dX5_deal_86
  · refine lv_aload_n hx hb dX5_deal_25 rfl (lv_at hl 0 rfl) ?_
    refine zr_get hF hw zEf_6_0 (by decide) zC_6 4 (by decide) qw_826 rfl dX5_deal_26 ?_
    refine lv_iload_n hx hb dX5_deal_29 rfl (lv_at hl 3 rfl) ?_
    refine zr_iald hF hw zEf_22_0 (by decide) h dX5_deal_30 (fun h => ?_)
    refine zr_if_ne (tgt := 79) hF h dX5_deal_31 (by decide) (fun h => ?_) (fun h => ?_)
    · refine zr_iinc hF (lv' := fun v1 => [(3, z_v v1), (0, z_r N 6 0), (1, z_v x1), (2, z_v x2)]) h dX5_deal_79 hl (k := 3) rfl (by decide) (fun _ => rfl) (fun v1 ls hl h => ?_)
      refine lv_goto (tgt := 17) hx hb dX5_deal_82 (by decide) ?_
      exact hK0 x1 x2 v1 _ _ _ _  hw (lv_sub hl [1, 2, 3, 0] rfl) h
    · refine lv_aload_n hx hb dX5_deal_34 rfl (lv_at hl 0 rfl) ?_
      refine zr_get hF hw zEf_6_0 (by decide) zC_6 11 (by decide) qw_833 rfl dX5_deal_35 ?_
      refine lv_iload_n hx hb dX5_deal_38 rfl (lv_at hl 3 rfl) ?_
      refine zr_zald hF hw zEf_29_0 (by decide) h dX5_deal_39 (fun h => ?_)
      refine zr_if_ne (tgt := 79) hF h dX5_deal_40 (by decide) (fun h => ?_) (fun h => ?_)
      · refine zr_iinc hF (lv' := fun v2 => [(3, z_v v2), (0, z_r N 6 0), (1, z_v x1), (2, z_v x2)]) h dX5_deal_79 hl (k := 3) rfl (by decide) (fun _ => rfl) (fun v2 ls hl h => ?_)
        refine lv_goto (tgt := 17) hx hb dX5_deal_82 (by decide) ?_
        exact hK0 x1 x2 v2 _ _ _ _  hw (lv_sub hl [1, 2, 3, 0] rfl) h
      · refine lv_aload_n hx hb dX5_deal_43 rfl (lv_at hl 0 rfl) ?_
        refine lv_iload_n hx hb dX5_deal_44 rfl (lv_at hl 3 rfl) ?_
        refine lv_iload_n hx hb dX5_deal_45 rfl (lv_at hl 1 rfl) ?_
        obtain ⟨r3, g1, h1, h⟩ := zbd_some h
        refine zr_callVv (n := 2) (As := [z_v x3, z_v x1]) (rest := []) hF hw (czX5_deals l X N h1) zEf_6_0 (by decide) zC_6 (z_goodV qw_1085 qw_1087 qw_33 qw_42 qw_1088) (by decide +kernel) ⟨Nat.le_of_ble_eq_true rfl, Nat.le_of_ble_eq_true rfl⟩ ⟨rfl, rfl⟩ rfl hl.1 rfl (Nat.le_of_ble_eq_true rfl) dX5_deal_46 ⟨Nat.le_of_ble_eq_true rfl, Nat.le_of_ble_eq_true rfl⟩ (fun H locs hw => ?_)
        clear h1
        generalize g1 = g at *
        refine lv_iload_n hx hb dX5_deal_49 rfl (lv_at hl 2 rfl) ?_
        refine lv_aload_n hx hb dX5_deal_50 rfl (lv_at hl 0 rfl) ?_
        refine zr_get hF hw zEf_6_0 (by decide) zC_6 6 (by decide) qw_828 rfl dX5_deal_51 ?_
        refine lv_iload_n hx hb dX5_deal_54 rfl (lv_at hl 3 rfl) ?_
        refine zr_iald hF hw zEf_24_0 (by decide) h dX5_deal_55 (fun h => ?_)
        refine lv_iconst hx hb dX5_deal_56 rfl ?_
        refine zr_icmp_ne (tgt := 64) hF h dX5_deal_57 (by decide) (fun h => ?_) (fun h => ?_)
        · refine lv_aload_n hx hb dX5_deal_64 rfl (lv_at hl 0 rfl) ?_
          refine zr_get hF hw zEf_6_0 (by decide) zC_6 6 (by decide) qw_828 rfl dX5_deal_65 ?_
          refine lv_iload_n hx hb dX5_deal_68 rfl (lv_at hl 3 rfl) ?_
          refine zr_iald hF hw zEf_24_0 (by decide) h dX5_deal_69 (fun h => ?_)
          refine lv_aload_n hx hb dX5_deal_70 rfl (lv_at hl 0 rfl) ?_
          refine zr_get hF hw zEf_6_0 (by decide) zC_6 3 (by decide) qw_825 rfl dX5_deal_71 ?_
          refine lv_iload_n hx hb dX5_deal_74 rfl (lv_at hl 3 rfl) ?_
          refine zr_iald hF hw zEf_21_0 (by decide) h dX5_deal_75 (fun h => ?_)
          refine zr_isub hF dX5_deal_76 ?_
          exact wX5_deal_j77 hF hr hK0  hw (lv_sub hl [0, 1, 3] rfl) h
        · refine lv_iconst hx hb dX5_deal_60 rfl ?_
          refine lv_goto (tgt := 77) hx hb dX5_deal_61 (by decide) ?_
          exact wX5_deal_j77 hF hr hK0  hw (lv_sub hl [0, 1, 3] rfl) h
set_option maxHeartbeats 4000000 in
set_option maxRecDepth 100000 in
theorem wX5_deal_run {p : Program} {l : Launch} {e : Env} {s : State} {m : MethodId} {args : Array Value} {below : List Frame} {meth : Method} {c : Code} {X : zC} {N : zN} {r : Int} {g' : zG} (hF : zF p s m args meth c X cX5_deal 4 RX5) (hr : meth.sig.returnType = (some .int)) {n0 : Nat} : ∀ n : Nat, (∀ (x1 : Int) (x2 : Int) (x3 : Int) (g : zG) (H : Heap) (locs : List Loc) (ls : Array Slot), zH X N g s H locs → lv_has ls 4 [(0, z_r N 6 0), (1, z_v x1), (2, z_v x2), (3, z_v x3)] → sX5_deal_run n0 n 0 x1 x2 x3 g = some (r, g') → W p l e { frames := 6, cells := 0, slots := 0, locals := 143 } s m args below meth c H locs 0 0 (MQ below (zQi X N r g') args s 0 0 (zA X)) (F0 m 17 ls [])) := by
  intro n
  induction n with
  | zero => exact fun _ _ _ _ _ _ _ _ _  h => (by cases h)
  | succ n ih => exact fun x1 x2 x3 g H locs ls  hw hl h => wX5_deal_h17 hF hr ih  hw hl h
set_option maxHeartbeats 4000000 in
set_option maxRecDepth 100000 in
theorem czX5_deal (l : Launch) (X : zC) (N : zN) {n : Nat} {x1 : Int} {g g' : zG} {r : Int} (h : sX5_deal n x1 g = some (r, g')) : zM l yX5_deal cX5_deal 4 (some .int) { frames := 6, cells := 0, slots := 0, locals := 143 } X N g [z_r N 6 0, z_v x1] (zQi X N r g') := by
  refine z_ofW (own := RX5) (by decide +kernel) rfl (Nat.le_of_ble_eq_true rfl) ?_
  intro p e s m args below meth c ls hF hr hw hl
  have hl : lv_has ls 4 [(0, z_r N 6 0), (1, z_v x1)] := hl
  have hx := hF.1.1
  have hb := hF.1.2.1
  have hKK := wX5_deal_run hF hr (r := r) (g' := g') (X := X) (N := N) (n0 := n) (l := l) (e := e) (below := below) n
  have hK0 := hKK
  unfold sX5_deal at h
  generalize s.heap = H at hw ⊢
  generalize ([] : List Loc) = locs at hw ⊢
  refine lv_aload_n hx hb dX5_deal_0 rfl (lv_at hl 0 rfl) ?_
  refine lv_iconst hx hb dX5_deal_1 rfl ?_
  refine zr_put hF hw zEf_6_0 (by decide) zC_6 0 (by decide) (by decide) qw_822 rfl (by decide +kernel) h dX5_deal_2 (fun g H locs hw h => ?_)
  refine lv_aload_n hx hb dX5_deal_5 rfl (lv_at hl 0 rfl) ?_
  refine lv_aload_n hx hb dX5_deal_6 rfl (lv_at hl 0 rfl) ?_
  refine zr_get hF hw zEf_6_0 (by decide) zC_6 14 (by decide) qw_836 rfl dX5_deal_7 ?_
  obtain ⟨r1, g1, h1, h⟩ := zbd_some h
  refine zr_callVv (n := 1) (As := [z_v (g 6 0 14)]) (rest := []) hF hw (czX5_dealAll l X N h1) zEf_6_0 (by decide) zC_6 (z_goodV qw_1052 qw_1054 qw_29 qw_42 qw_1055) (by decide +kernel) ⟨Nat.le_of_ble_eq_true rfl, Nat.le_of_ble_eq_true rfl⟩ ⟨rfl, rfl⟩ rfl hl.1 rfl (Nat.le_of_ble_eq_true rfl) dX5_deal_10 ⟨Nat.le_of_ble_eq_true rfl, Nat.le_of_ble_eq_true rfl⟩ (fun H locs hw => ?_)
  clear h1
  generalize g1 = g at *
  refine lv_iconst hx hb dX5_deal_13 rfl ?_
  refine lv_istore_n (lv' := [(2, z_v 0), (0, z_r N 6 0), (1, z_v x1)]) hx hb dX5_deal_14 rfl hl (by decide) rfl (fun ls hl => ?_)
  refine lv_iconst hx hb dX5_deal_15 rfl ?_
  refine lv_istore_n (lv' := [(3, z_v 0), (2, z_v 0), (0, z_r N 6 0), (1, z_v x1)]) hx hb dX5_deal_16 rfl hl (by decide) rfl (fun ls hl => ?_)
  exact hK0 x1 0 0 _ _ _ _  hw (lv_sub hl [2, 3, 1, 0] rfl) h
set_option maxHeartbeats 4000000 in
set_option maxRecDepth 100000 in
theorem wX5_swap_j242 {p : Program} {l : Launch} {e : Env} {s : State} {m : MethodId} {args : Array Value} {below : List Frame} {meth : Method} {c : Code} {X : zC} {N : zN} {r : Int} {g' : zG} {H : Heap} {locs : List Loc} {ls : Array Slot} (hF : zF p s m args meth c X cX5_swap 8 RX5) (hr : meth.sig.returnType = none) {x1 : Int} {x2 : Int} {x6 : Int} {x7 : Int} {t1 : Int} {g : zG} (hw : zH X N g s H locs) (hl : lv_has ls 8 [(0, z_r N 6 0), (1, z_v x1), (2, z_v x2), (6, z_v x6), (7, z_v x7)]) (h : sX5_swap_j242 x1 x2 x6 x7 t1 g = some (r, g')) : W p l e { frames := 2, cells := 0, slots := 0, locals := 43 } s m args below meth c H locs 0 0 (MQ below (zQv X N g') args s 0 0 (zA X)) (F0 m 242 ls [z_v t1, z_r N 6 0]) := by
  have hx := hF.1.1
  have hb := hF.1.2.1
  unfold sX5_swap_j242 at h
  obtain ⟨r1, g1, h1, h⟩ := zbd_some h
  refine zr_callVi (n := 1) (As := [z_v t1]) (rest := []) hF hw (czX5_holds l X N h1) zEf_6_0 (by decide) zC_6 (z_goodV qw_925 qw_927 qw_14 qw_42 qw_928) (by decide +kernel) ⟨Nat.le_of_ble_eq_true rfl, Nat.le_of_ble_eq_true rfl⟩ ⟨rfl, rfl⟩ rfl hl.1 rfl (Nat.le_of_ble_eq_true rfl) dX5_swap_242 ⟨Nat.le_of_ble_eq_true rfl, Nat.le_of_ble_eq_true rfl⟩ (fun H locs hw => ?_)
  clear h1
  generalize g1 = g at *
  refine zr_if_eq (tgt := 264) hF h dX5_swap_245 (by decide) (fun h => ?_) (fun h => ?_)
  · exact zr_vret hF hr hw h dX5_swap_264
  · refine lv_aload_n hx hb dX5_swap_248 rfl (lv_at hl 0 rfl) ?_
    refine zr_get hF hw zEf_6_0 (by decide) zC_6 6 (by decide) qw_828 rfl dX5_swap_249 ?_
    refine lv_iload_n hx hb dX5_swap_252 rfl (lv_at hl 1 rfl) ?_
    refine lv_iload hx hb dX5_swap_253 (lv_at hl 3 rfl) ?_
    refine zr_iast hF hw zEf_24_0 (by decide) h dX5_swap_255 (fun g H locs hw h => ?_)
    refine lv_aload_n hx hb dX5_swap_256 rfl (lv_at hl 0 rfl) ?_
    refine zr_get hF hw zEf_6_0 (by decide) zC_6 6 (by decide) qw_828 rfl dX5_swap_257 ?_
    refine lv_iload_n hx hb dX5_swap_260 rfl (lv_at hl 2 rfl) ?_
    refine lv_iload hx hb dX5_swap_261 (lv_at hl 4 rfl) ?_
    refine zr_iast hF hw zEf_24_0 (by decide) h dX5_swap_263 (fun g H locs hw h => ?_)
    exact zr_vret hF hr hw h dX5_swap_264
set_option maxHeartbeats 4000000 in
set_option maxRecDepth 100000 in
theorem wX5_swap_j212 {p : Program} {l : Launch} {e : Env} {s : State} {m : MethodId} {args : Array Value} {below : List Frame} {meth : Method} {c : Code} {X : zC} {N : zN} {r : Int} {g' : zG} {H : Heap} {locs : List Loc} {ls : Array Slot} (hF : zF p s m args meth c X cX5_swap 8 RX5) (hr : meth.sig.returnType = none) {x1 : Int} {x2 : Int} {x3 : Int} {x6 : Int} {x7 : Int} {t0 : Int} {g : zG} (hw : zH X N g s H locs) (hl : lv_has ls 8 [(0, z_r N 6 0), (1, z_v x1), (2, z_v x2), (3, z_v x3), (6, z_v x6), (7, z_v x7)]) (h : sX5_swap_j212 x1 x2 x3 x6 x7 t0 g = some (r, g')) : W p l e { frames := 2, cells := 0, slots := 0, locals := 43 } s m args below meth c H locs 0 0 (MQ below (zQv X N g') args s 0 0 (zA X)) (F0 m 212 ls [z_v t0]) := by
  have hx := hF.1.1
  have hb := hF.1.2.1
  unfold sX5_swap_j212 at h
  refine lv_istore (lv' := [(4, z_v t0), (0, z_r N 6 0), (1, z_v x1), (2, z_v x2), (3, z_v x3), (6, z_v x6), (7, z_v x7)]) hx hb dX5_swap_212 hl (by decide) rfl (fun ls hl => ?_)
  refine lv_aload_n hx hb dX5_swap_214 rfl (lv_at hl 1 rfl) ?_
  refine lv_iload_n hx hb dX5_swap_215 rfl (lv_at hl 4 rfl) ?_
  refine zr_if_ne (tgt := 223) hF h dX5_swap_216 (by decide) (fun h => ?_) (fun h => ?_)
  · refine lv_iload_n hx hb dX5_swap_223 rfl (lv_at hl 2 rfl) ?_
    refine lv_iload_n hx hb dX5_swap_224 rfl (lv_at hl 3 rfl) ?_
    refine zr_icmp_ne (tgt := 232) hF h dX5_swap_225 (by decide) (fun h => ?_) (fun h => ?_)
    · refine lv_iload hx hb dX5_swap_232 (lv_at hl 0 rfl) ?_
      refine zr_if_eq (tgt := 241) hF h dX5_swap_234 (by decide) (fun h => ?_) (fun h => ?_)
      · refine lv_iconst hx hb dX5_swap_241 rfl ?_
        exact wX5_swap_j242 hF hr  hw (lv_sub hl [1, 2, 3, 5, 6] rfl) h
      · refine lv_iconst hx hb dX5_swap_237 rfl ?_
        refine lv_goto (tgt := 242) hx hb dX5_swap_238 (by decide) ?_
        exact wX5_swap_j242 hF hr  hw (lv_sub hl [1, 2, 3, 5, 6] rfl) h
    · refine lv_iconst hx hb dX5_swap_228 rfl ?_
      refine lv_goto (tgt := 242) hx hb dX5_swap_229 (by decide) ?_
      exact wX5_swap_j242 hF hr  hw (lv_sub hl [1, 2, 3, 5, 6] rfl) h
  · refine lv_iconst hx hb dX5_swap_219 rfl ?_
    refine lv_goto (tgt := 242) hx hb dX5_swap_220 (by decide) ?_
    exact wX5_swap_j242 hF hr  hw (lv_sub hl [1, 2, 3, 5, 6] rfl) h
set_option maxHeartbeats 4000000 in
set_option maxRecDepth 100000 in
theorem wX5_swap_j211 {p : Program} {l : Launch} {e : Env} {s : State} {m : MethodId} {args : Array Value} {below : List Frame} {meth : Method} {c : Code} {X : zC} {N : zN} {r : Int} {g' : zG} {H : Heap} {locs : List Loc} {ls : Array Slot} (hF : zF p s m args meth c X cX5_swap 8 RX5) (hr : meth.sig.returnType = none) {x1 : Int} {x2 : Int} {x3 : Int} {x6 : Int} {x7 : Int} {g : zG} (hw : zH X N g s H locs) (hl : lv_has ls 8 [(0, z_r N 6 0), (1, z_v x1), (2, z_v x2), (3, z_v x3), (6, z_v x6), (7, z_v x7)]) (h : sX5_swap_j211 x1 x2 x3 x6 x7 g = some (r, g')) : W p l e { frames := 2, cells := 0, slots := 0, locals := 43 } s m args below meth c H locs 0 0 (MQ below (zQv X N g') args s 0 0 (zA X)) (F0 m 211 ls []) := by
  have hx := hF.1.1
  have hb := hF.1.2.1
  unfold sX5_swap_j211 at h
  refine lv_iconst hx hb dX5_swap_211 rfl ?_
  exact wX5_swap_j212 hF hr  hw (lv_sub hl [0, 1, 2, 3, 4, 5] rfl) h
set_option maxHeartbeats 4000000 in
set_option maxRecDepth 100000 in
theorem wX5_swap_j178 {p : Program} {l : Launch} {e : Env} {s : State} {m : MethodId} {args : Array Value} {below : List Frame} {meth : Method} {c : Code} {X : zC} {N : zN} {r : Int} {g' : zG} {H : Heap} {locs : List Loc} {ls : Array Slot} (hF : zF p s m args meth c X cX5_swap 8 RX5) (hr : meth.sig.returnType = none) {x1 : Int} {x2 : Int} {x3 : Int} {x4 : Int} {x6 : Int} {t0 : Int} {g : zG} (hw : zH X N g s H locs) (hl : lv_has ls 8 [(0, z_r N 6 0), (1, z_v x1), (2, z_v x2), (3, z_v x3), (4, z_v x4), (6, z_v x6)]) (h : sX5_swap_j178 x1 x2 x3 x4 x6 t0 g = some (r, g')) : W p l e { frames := 2, cells := 0, slots := 0, locals := 43 } s m args below meth c H locs 0 0 (MQ below (zQv X N g') args s 0 0 (zA X)) (F0 m 178 ls [z_v t0]) := by
  have hx := hF.1.1
  have hb := hF.1.2.1
  unfold sX5_swap_j178 at h
  refine lv_istore (lv' := [(7, z_v t0), (0, z_r N 6 0), (1, z_v x1), (2, z_v x2), (3, z_v x3), (4, z_v x4), (6, z_v x6)]) hx hb dX5_swap_178 hl (by decide) rfl (fun ls hl => ?_)
  refine lv_iload hx hb dX5_swap_180 (lv_at hl 5 rfl) ?_
  refine zr_if_eq (tgt := 211) hF h dX5_swap_182 (by decide) (fun h => ?_) (fun h => ?_)
  · exact wX5_swap_j211 hF hr  hw (lv_sub hl [1, 2, 3, 4, 6, 0] rfl) h
  · refine lv_iload hx hb dX5_swap_185 (lv_at hl 6 rfl) ?_
    refine lv_aload_n hx hb dX5_swap_187 rfl (lv_at hl 1 rfl) ?_
    refine zr_get hF hw zEf_6_0 (by decide) zC_6 3 (by decide) qw_825 rfl dX5_swap_188 ?_
    refine lv_iload_n hx hb dX5_swap_191 rfl (lv_at hl 2 rfl) ?_
    refine zr_iald hF hw zEf_21_0 (by decide) h dX5_swap_192 (fun h => ?_)
    refine zr_icmp_lt (tgt := 211) hF h dX5_swap_193 (by decide) (fun h => ?_) (fun h => ?_)
    · exact wX5_swap_j211 hF hr  hw (lv_sub hl [1, 2, 3, 4, 6, 0] rfl) h
    · refine lv_iload hx hb dX5_swap_196 (lv_at hl 0 rfl) ?_
      refine lv_aload_n hx hb dX5_swap_198 rfl (lv_at hl 1 rfl) ?_
      refine zr_get hF hw zEf_6_0 (by decide) zC_6 3 (by decide) qw_825 rfl dX5_swap_199 ?_
      refine lv_iload_n hx hb dX5_swap_202 rfl (lv_at hl 3 rfl) ?_
      refine zr_iald hF hw zEf_21_0 (by decide) h dX5_swap_203 (fun h => ?_)
      refine zr_icmp_lt (tgt := 211) hF h dX5_swap_204 (by decide) (fun h => ?_) (fun h => ?_)
      · exact wX5_swap_j211 hF hr  hw (lv_sub hl [1, 2, 3, 4, 6, 0] rfl) h
      · refine lv_iconst hx hb dX5_swap_207 rfl ?_
        refine lv_goto (tgt := 212) hx hb dX5_swap_208 (by decide) ?_
        exact wX5_swap_j212 hF hr  hw (lv_sub hl [1, 2, 3, 4, 6, 0] rfl) h
set_option maxHeartbeats 4000000 in
set_option maxRecDepth 100000 in
theorem wX5_swap_j147 {p : Program} {l : Launch} {e : Env} {s : State} {m : MethodId} {args : Array Value} {below : List Frame} {meth : Method} {c : Code} {X : zC} {N : zN} {r : Int} {g' : zG} {H : Heap} {locs : List Loc} {ls : Array Slot} (hF : zF p s m args meth c X cX5_swap 8 RX5) (hr : meth.sig.returnType = none) {x1 : Int} {x2 : Int} {x3 : Int} {x4 : Int} {x5 : Int} {t0 : Int} {g : zG} (hw : zH X N g s H locs) (hl : lv_has ls 8 [(0, z_r N 6 0), (1, z_v x1), (2, z_v x2), (3, z_v x3), (4, z_v x4), (5, z_v x5)]) (h : sX5_swap_j147 x1 x2 x3 x4 x5 t0 g = some (r, g')) : W p l e { frames := 2, cells := 0, slots := 0, locals := 43 } s m args below meth c H locs 0 0 (MQ below (zQv X N g') args s 0 0 (zA X)) (F0 m 147 ls [z_v t0]) := by
  have hx := hF.1.1
  have hb := hF.1.2.1
  unfold sX5_swap_j147 at h
  refine lv_istore (lv' := [(6, z_v t0), (0, z_r N 6 0), (1, z_v x1), (2, z_v x2), (3, z_v x3), (4, z_v x4), (5, z_v x5)]) hx hb dX5_swap_147 hl (by decide) rfl (fun ls hl => ?_)
  refine lv_iload hx hb dX5_swap_149 (lv_at hl 5 rfl) ?_
  refine zr_if_eq (tgt := 177) hF h dX5_swap_151 (by decide) (fun h => ?_) (fun h => ?_)
  · refine lv_iconst hx hb dX5_swap_177 rfl ?_
    exact wX5_swap_j178 hF hr  hw (lv_sub hl [1, 2, 3, 4, 5, 0] rfl) h
  · refine lv_aload_n hx hb dX5_swap_154 rfl (lv_at hl 1 rfl) ?_
    refine lv_iload_n hx hb dX5_swap_155 rfl (lv_at hl 2 rfl) ?_
    refine lv_iload hx hb dX5_swap_156 (lv_at hl 6 rfl) ?_
    obtain ⟨r1, g1, h1, h⟩ := zbd_some h
    refine zr_callVi (n := 2) (As := [z_v x1, z_v x5]) (rest := []) hF hw (czX5_overOf l X N h1) zEf_6_0 (by decide) zC_6 (z_goodV qw_960 qw_962 qw_18 qw_42 qw_963) (by decide +kernel) ⟨Nat.le_of_ble_eq_true rfl, Nat.le_of_ble_eq_true rfl⟩ ⟨rfl, rfl⟩ rfl hl.1 rfl (Nat.le_of_ble_eq_true rfl) dX5_swap_158 ⟨Nat.le_of_ble_eq_true rfl, Nat.le_of_ble_eq_true rfl⟩ (fun H locs hw => ?_)
    clear h1
    generalize g1 = g at *
    refine lv_aload_n hx hb dX5_swap_161 rfl (lv_at hl 1 rfl) ?_
    refine zr_get hF hw zEf_6_0 (by decide) zC_6 12 (by decide) qw_834 rfl dX5_swap_162 ?_
    refine lv_bipush (v := Int32.ofInt (6)) hx hb dX5_swap_165 (by decide) ?_
    refine lv_iload_n hx hb dX5_swap_167 rfl (lv_at hl 3 rfl) ?_
    refine zr_imul hF dX5_swap_168 ?_
    refine lv_iload hx hb dX5_swap_169 (lv_at hl 6 rfl) ?_
    refine zr_iadd hF dX5_swap_171 ?_
    refine zr_iald hF hw zEf_30_0 (by decide) h dX5_swap_172 (fun h => ?_)
    refine zr_isub hF dX5_swap_173 ?_
    refine lv_goto (tgt := 178) hx hb dX5_swap_174 (by decide) ?_
    exact wX5_swap_j178 hF hr  hw (lv_sub hl [1, 2, 3, 4, 5, 0] rfl) h
set_option maxHeartbeats 4000000 in
set_option maxRecDepth 100000 in
theorem wX5_swap_j116 {p : Program} {l : Launch} {e : Env} {s : State} {m : MethodId} {args : Array Value} {below : List Frame} {meth : Method} {c : Code} {X : zC} {N : zN} {r : Int} {g' : zG} {H : Heap} {locs : List Loc} {ls : Array Slot} (hF : zF p s m args meth c X cX5_swap 8 RX5) (hr : meth.sig.returnType = none) {x1 : Int} {x2 : Int} {x3 : Int} {x4 : Int} {t0 : Int} {g : zG} (hw : zH X N g s H locs) (hl : lv_has ls 8 [(0, z_r N 6 0), (1, z_v x1), (2, z_v x2), (3, z_v x3), (4, z_v x4)]) (h : sX5_swap_j116 x1 x2 x3 x4 t0 g = some (r, g')) : W p l e { frames := 2, cells := 0, slots := 0, locals := 43 } s m args below meth c H locs 0 0 (MQ below (zQv X N g') args s 0 0 (zA X)) (F0 m 116 ls [z_v t0]) := by
  have hx := hF.1.1
  have hb := hF.1.2.1
  unfold sX5_swap_j116 at h
  refine lv_istore (lv' := [(5, z_v t0), (0, z_r N 6 0), (1, z_v x1), (2, z_v x2), (3, z_v x3), (4, z_v x4)]) hx hb dX5_swap_116 hl (by decide) rfl (fun ls hl => ?_)
  refine lv_iload hx hb dX5_swap_118 (lv_at hl 5 rfl) ?_
  refine zr_if_eq (tgt := 146) hF h dX5_swap_120 (by decide) (fun h => ?_) (fun h => ?_)
  · refine lv_iconst hx hb dX5_swap_146 rfl ?_
    exact wX5_swap_j147 hF hr  hw (lv_sub hl [1, 2, 3, 4, 5, 0] rfl) h
  · refine lv_aload_n hx hb dX5_swap_123 rfl (lv_at hl 1 rfl) ?_
    refine lv_iload_n hx hb dX5_swap_124 rfl (lv_at hl 3 rfl) ?_
    refine lv_iload hx hb dX5_swap_125 (lv_at hl 0 rfl) ?_
    obtain ⟨r1, g1, h1, h⟩ := zbd_some h
    refine zr_callVi (n := 2) (As := [z_v x2, z_v t0]) (rest := []) hF hw (czX5_overOf l X N h1) zEf_6_0 (by decide) zC_6 (z_goodV qw_960 qw_962 qw_18 qw_42 qw_963) (by decide +kernel) ⟨Nat.le_of_ble_eq_true rfl, Nat.le_of_ble_eq_true rfl⟩ ⟨rfl, rfl⟩ rfl hl.1 rfl (Nat.le_of_ble_eq_true rfl) dX5_swap_127 ⟨Nat.le_of_ble_eq_true rfl, Nat.le_of_ble_eq_true rfl⟩ (fun H locs hw => ?_)
    clear h1
    generalize g1 = g at *
    refine lv_aload_n hx hb dX5_swap_130 rfl (lv_at hl 1 rfl) ?_
    refine zr_get hF hw zEf_6_0 (by decide) zC_6 12 (by decide) qw_834 rfl dX5_swap_131 ?_
    refine lv_bipush (v := Int32.ofInt (6)) hx hb dX5_swap_134 (by decide) ?_
    refine lv_iload_n hx hb dX5_swap_136 rfl (lv_at hl 2 rfl) ?_
    refine zr_imul hF dX5_swap_137 ?_
    refine lv_iload hx hb dX5_swap_138 (lv_at hl 0 rfl) ?_
    refine zr_iadd hF dX5_swap_140 ?_
    refine zr_iald hF hw zEf_30_0 (by decide) h dX5_swap_141 (fun h => ?_)
    refine zr_isub hF dX5_swap_142 ?_
    refine lv_goto (tgt := 147) hx hb dX5_swap_143 (by decide) ?_
    exact wX5_swap_j147 hF hr  hw (lv_sub hl [1, 2, 3, 4, 5, 0] rfl) h
set_option maxHeartbeats 4000000 in
set_option maxRecDepth 100000 in
theorem wX5_swap_j94 {p : Program} {l : Launch} {e : Env} {s : State} {m : MethodId} {args : Array Value} {below : List Frame} {meth : Method} {c : Code} {X : zC} {N : zN} {r : Int} {g' : zG} {H : Heap} {locs : List Loc} {ls : Array Slot} (hF : zF p s m args meth c X cX5_swap 8 RX5) (hr : meth.sig.returnType = none) {x1 : Int} {x2 : Int} {x3 : Int} {t0 : Int} {g : zG} (hw : zH X N g s H locs) (hl : lv_has ls 8 [(0, z_r N 6 0), (1, z_v x1), (2, z_v x2), (3, z_v x3)]) (h : sX5_swap_j94 x1 x2 x3 t0 g = some (r, g')) : W p l e { frames := 2, cells := 0, slots := 0, locals := 43 } s m args below meth c H locs 0 0 (MQ below (zQv X N g') args s 0 0 (zA X)) (F0 m 94 ls [z_v t0]) := by
  have hx := hF.1.1
  have hb := hF.1.2.1
  unfold sX5_swap_j94 at h
  refine lv_istore (lv' := [(4, z_v t0), (0, z_r N 6 0), (1, z_v x1), (2, z_v x2), (3, z_v x3)]) hx hb dX5_swap_94 hl (by decide) rfl (fun ls hl => ?_)
  refine lv_iload hx hb dX5_swap_96 (lv_at hl 0 rfl) ?_
  refine zr_if_eq (tgt := 115) hF h dX5_swap_98 (by decide) (fun h => ?_) (fun h => ?_)
  · refine lv_iconst hx hb dX5_swap_115 rfl ?_
    exact wX5_swap_j116 hF hr  hw (lv_sub hl [1, 2, 3, 4, 0] rfl) h
  · refine lv_aload_n hx hb dX5_swap_101 rfl (lv_at hl 1 rfl) ?_
    refine zr_get hF hw zEf_6_0 (by decide) zC_6 15 (by decide) qw_837 rfl dX5_swap_102 ?_
    refine lv_aload_n hx hb dX5_swap_105 rfl (lv_at hl 1 rfl) ?_
    refine zr_get hF hw zEf_6_0 (by decide) zC_6 7 (by decide) qw_829 rfl dX5_swap_106 ?_
    refine lv_iload_n hx hb dX5_swap_109 rfl (lv_at hl 2 rfl) ?_
    refine zr_iald hF hw zEf_25_0 (by decide) h dX5_swap_110 (fun h => ?_)
    refine zr_iald hF hw zEf_32_0 (by decide) h dX5_swap_111 (fun h => ?_)
    refine lv_goto (tgt := 116) hx hb dX5_swap_112 (by decide) ?_
    exact wX5_swap_j116 hF hr  hw (lv_sub hl [1, 2, 3, 4, 0] rfl) h
set_option maxHeartbeats 4000000 in
set_option maxRecDepth 100000 in
theorem wX5_swap_j93 {p : Program} {l : Launch} {e : Env} {s : State} {m : MethodId} {args : Array Value} {below : List Frame} {meth : Method} {c : Code} {X : zC} {N : zN} {r : Int} {g' : zG} {H : Heap} {locs : List Loc} {ls : Array Slot} (hF : zF p s m args meth c X cX5_swap 8 RX5) (hr : meth.sig.returnType = none) {x1 : Int} {x2 : Int} {x3 : Int} {g : zG} (hw : zH X N g s H locs) (hl : lv_has ls 8 [(0, z_r N 6 0), (1, z_v x1), (2, z_v x2), (3, z_v x3)]) (h : sX5_swap_j93 x1 x2 x3 g = some (r, g')) : W p l e { frames := 2, cells := 0, slots := 0, locals := 43 } s m args below meth c H locs 0 0 (MQ below (zQv X N g') args s 0 0 (zA X)) (F0 m 93 ls []) := by
  have hx := hF.1.1
  have hb := hF.1.2.1
  unfold sX5_swap_j93 at h
  refine lv_iconst hx hb dX5_swap_93 rfl ?_
  exact wX5_swap_j94 hF hr  hw (lv_sub hl [0, 1, 2, 3] rfl) h
set_option maxHeartbeats 4000000 in
set_option maxRecDepth 100000 in
theorem wX5_swap_j21 {p : Program} {l : Launch} {e : Env} {s : State} {m : MethodId} {args : Array Value} {below : List Frame} {meth : Method} {c : Code} {X : zC} {N : zN} {r : Int} {g' : zG} {H : Heap} {locs : List Loc} {ls : Array Slot} (hF : zF p s m args meth c X cX5_swap 8 RX5) (hr : meth.sig.returnType = none) {x1 : Int} {x2 : Int} {t0 : Int} {g : zG} (hw : zH X N g s H locs) (hl : lv_has ls 8 [(0, z_r N 6 0), (1, z_v x1), (2, z_v x2)]) (h : sX5_swap_j21 x1 x2 t0 g = some (r, g')) : W p l e { frames := 2, cells := 0, slots := 0, locals := 43 } s m args below meth c H locs 0 0 (MQ below (zQv X N g') args s 0 0 (zA X)) (F0 m 21 ls [z_v t0]) := by
  have hx := hF.1.1
  have hb := hF.1.2.1
  unfold sX5_swap_j21 at h
  refine lv_istore_n (lv' := [(3, z_v t0), (0, z_r N 6 0), (1, z_v x1), (2, z_v x2)]) hx hb dX5_swap_21 rfl hl (by decide) rfl (fun ls hl => ?_)
  refine lv_iload_n hx hb dX5_swap_22 rfl (lv_at hl 0 rfl) ?_
  refine zr_if_eq (tgt := 93) hF h dX5_swap_23 (by decide) (fun h => ?_) (fun h => ?_)
  · exact wX5_swap_j93 hF hr  hw (lv_sub hl [1, 2, 3, 0] rfl) h
  · refine lv_iload_n hx hb dX5_swap_26 rfl (lv_at hl 2 rfl) ?_
    refine lv_iload_n hx hb dX5_swap_27 rfl (lv_at hl 3 rfl) ?_
    refine zr_icmp_eq (tgt := 93) hF h dX5_swap_28 (by decide) (fun h => ?_) (fun h => ?_)
    · exact wX5_swap_j93 hF hr  hw (lv_sub hl [1, 2, 3, 0] rfl) h
    · refine lv_aload_n hx hb dX5_swap_31 rfl (lv_at hl 1 rfl) ?_
      refine zr_get hF hw zEf_6_0 (by decide) zC_6 4 (by decide) qw_826 rfl dX5_swap_32 ?_
      refine lv_iload_n hx hb dX5_swap_35 rfl (lv_at hl 2 rfl) ?_
      refine zr_iald hF hw zEf_22_0 (by decide) h dX5_swap_36 (fun h => ?_)
      refine zr_if_ne (tgt := 93) hF h dX5_swap_37 (by decide) (fun h => ?_) (fun h => ?_)
      · exact wX5_swap_j93 hF hr  hw (lv_sub hl [1, 2, 3, 0] rfl) h
      · refine lv_aload_n hx hb dX5_swap_40 rfl (lv_at hl 1 rfl) ?_
        refine zr_get hF hw zEf_6_0 (by decide) zC_6 4 (by decide) qw_826 rfl dX5_swap_41 ?_
        refine lv_iload_n hx hb dX5_swap_44 rfl (lv_at hl 3 rfl) ?_
        refine zr_iald hF hw zEf_22_0 (by decide) h dX5_swap_45 (fun h => ?_)
        refine zr_if_ne (tgt := 93) hF h dX5_swap_46 (by decide) (fun h => ?_) (fun h => ?_)
        · exact wX5_swap_j93 hF hr  hw (lv_sub hl [1, 2, 3, 0] rfl) h
        · refine lv_aload_n hx hb dX5_swap_49 rfl (lv_at hl 1 rfl) ?_
          refine zr_get hF hw zEf_6_0 (by decide) zC_6 2 (by decide) qw_824 rfl dX5_swap_50 ?_
          refine lv_iload_n hx hb dX5_swap_53 rfl (lv_at hl 2 rfl) ?_
          refine zr_iald hF hw zEf_20_0 (by decide) h dX5_swap_54 (fun h => ?_)
          refine lv_aload_n hx hb dX5_swap_55 rfl (lv_at hl 1 rfl) ?_
          refine zr_get hF hw zEf_6_0 (by decide) zC_6 2 (by decide) qw_824 rfl dX5_swap_56 ?_
          refine lv_iload_n hx hb dX5_swap_59 rfl (lv_at hl 3 rfl) ?_
          refine zr_iald hF hw zEf_20_0 (by decide) h dX5_swap_60 (fun h => ?_)
          refine zr_icmp_ne (tgt := 93) hF h dX5_swap_61 (by decide) (fun h => ?_) (fun h => ?_)
          · exact wX5_swap_j93 hF hr  hw (lv_sub hl [1, 2, 3, 0] rfl) h
          · refine lv_aload_n hx hb dX5_swap_64 rfl (lv_at hl 1 rfl) ?_
            refine zr_get hF hw zEf_6_0 (by decide) zC_6 7 (by decide) qw_829 rfl dX5_swap_65 ?_
            refine lv_iload_n hx hb dX5_swap_68 rfl (lv_at hl 2 rfl) ?_
            refine zr_iald hF hw zEf_25_0 (by decide) h dX5_swap_69 (fun h => ?_)
            refine lv_iconst hx hb dX5_swap_70 rfl ?_
            refine zr_icmp_eq (tgt := 93) hF h dX5_swap_71 (by decide) (fun h => ?_) (fun h => ?_)
            · exact wX5_swap_j93 hF hr  hw (lv_sub hl [1, 2, 3, 0] rfl) h
            · refine lv_aload_n hx hb dX5_swap_74 rfl (lv_at hl 1 rfl) ?_
              refine zr_get hF hw zEf_6_0 (by decide) zC_6 7 (by decide) qw_829 rfl dX5_swap_75 ?_
              refine lv_iload_n hx hb dX5_swap_78 rfl (lv_at hl 2 rfl) ?_
              refine zr_iald hF hw zEf_25_0 (by decide) h dX5_swap_79 (fun h => ?_)
              refine lv_aload_n hx hb dX5_swap_80 rfl (lv_at hl 1 rfl) ?_
              refine zr_get hF hw zEf_6_0 (by decide) zC_6 7 (by decide) qw_829 rfl dX5_swap_81 ?_
              refine lv_iload_n hx hb dX5_swap_84 rfl (lv_at hl 3 rfl) ?_
              refine zr_iald hF hw zEf_25_0 (by decide) h dX5_swap_85 (fun h => ?_)
              refine zr_icmp_ne (tgt := 93) hF h dX5_swap_86 (by decide) (fun h => ?_) (fun h => ?_)
              · exact wX5_swap_j93 hF hr  hw (lv_sub hl [1, 2, 3, 0] rfl) h
              · refine lv_iconst hx hb dX5_swap_89 rfl ?_
                refine lv_goto (tgt := 94) hx hb dX5_swap_90 (by decide) ?_
                exact wX5_swap_j94 hF hr  hw (lv_sub hl [1, 2, 3, 0] rfl) h
set_option maxHeartbeats 4000000 in
set_option maxRecDepth 100000 in
theorem wX5_swap_j20 {p : Program} {l : Launch} {e : Env} {s : State} {m : MethodId} {args : Array Value} {below : List Frame} {meth : Method} {c : Code} {X : zC} {N : zN} {r : Int} {g' : zG} {H : Heap} {locs : List Loc} {ls : Array Slot} (hF : zF p s m args meth c X cX5_swap 8 RX5) (hr : meth.sig.returnType = none) {x1 : Int} {x2 : Int} {g : zG} (hw : zH X N g s H locs) (hl : lv_has ls 8 [(0, z_r N 6 0), (1, z_v x1), (2, z_v x2)]) (h : sX5_swap_j20 x1 x2 g = some (r, g')) : W p l e { frames := 2, cells := 0, slots := 0, locals := 43 } s m args below meth c H locs 0 0 (MQ below (zQv X N g') args s 0 0 (zA X)) (F0 m 20 ls []) := by
  have hx := hF.1.1
  have hb := hF.1.2.1
  unfold sX5_swap_j20 at h
  refine lv_iconst hx hb dX5_swap_20 rfl ?_
  exact wX5_swap_j21 hF hr  hw (lv_sub hl [0, 1, 2] rfl) h
set_option maxHeartbeats 4000000 in
set_option maxRecDepth 100000 in
theorem czX5_swap (l : Launch) (X : zC) (N : zN) {x1 : Int} {x2 : Int} {g g' : zG} {r : Int} (h : sX5_swap x1 x2 g = some (r, g')) : zM l yX5_swap cX5_swap 8 none { frames := 2, cells := 0, slots := 0, locals := 43 } X N g [z_r N 6 0, z_v x1, z_v x2] (zQv X N g') := by
  refine z_ofW (own := RX5) (by decide +kernel) rfl (Nat.le_of_ble_eq_true rfl) ?_
  intro p e s m args below meth c ls hF hr hw hl
  have hl : lv_has ls 8 [(0, z_r N 6 0), (1, z_v x1), (2, z_v x2)] := hl
  have hx := hF.1.1
  have hb := hF.1.2.1
  unfold sX5_swap at h
  generalize s.heap = H at hw ⊢
  generalize ([] : List Loc) = locs at hw ⊢
  refine lv_aload_n hx hb dX5_swap_0 rfl (lv_at hl 0 rfl) ?_
  refine lv_iload_n hx hb dX5_swap_1 rfl (lv_at hl 1 rfl) ?_
  obtain ⟨r1, g1, h1, h⟩ := zbd_some h
  refine zr_callVi (n := 1) (As := [z_v x1]) (rest := []) hF hw (czX5_isFlight l X N h1) zEf_6_0 (by decide) zC_6 (z_goodV qw_933 qw_935 qw_15 qw_42 qw_936) (by decide +kernel) ⟨Nat.le_of_ble_eq_true rfl, Nat.le_of_ble_eq_true rfl⟩ ⟨rfl, rfl⟩ rfl hl.1 rfl (Nat.le_of_ble_eq_true rfl) dX5_swap_2 ⟨Nat.le_of_ble_eq_true rfl, Nat.le_of_ble_eq_true rfl⟩ (fun H locs hw => ?_)
  clear h1
  generalize g1 = g at *
  refine zr_if_eq (tgt := 20) hF h dX5_swap_5 (by decide) (fun h => ?_) (fun h => ?_)
  · exact wX5_swap_j20 hF hr  hw (lv_sub hl [0, 1, 2] rfl) h
  · refine lv_aload_n hx hb dX5_swap_8 rfl (lv_at hl 0 rfl) ?_
    refine lv_iload_n hx hb dX5_swap_9 rfl (lv_at hl 2 rfl) ?_
    obtain ⟨r2, g1, h1, h⟩ := zbd_some h
    refine zr_callVi (n := 1) (As := [z_v x2]) (rest := []) hF hw (czX5_isFlight l X N h1) zEf_6_0 (by decide) zC_6 (z_goodV qw_933 qw_935 qw_15 qw_42 qw_936) (by decide +kernel) ⟨Nat.le_of_ble_eq_true rfl, Nat.le_of_ble_eq_true rfl⟩ ⟨rfl, rfl⟩ rfl hl.1 rfl (Nat.le_of_ble_eq_true rfl) dX5_swap_10 ⟨Nat.le_of_ble_eq_true rfl, Nat.le_of_ble_eq_true rfl⟩ (fun H locs hw => ?_)
    clear h1
    generalize g1 = g at *
    refine zr_if_eq (tgt := 20) hF h dX5_swap_13 (by decide) (fun h => ?_) (fun h => ?_)
    · exact wX5_swap_j20 hF hr  hw (lv_sub hl [0, 1, 2] rfl) h
    · refine lv_iconst hx hb dX5_swap_16 rfl ?_
      refine lv_goto (tgt := 21) hx hb dX5_swap_17 (by decide) ?_
      exact wX5_swap_j21 hF hr  hw (lv_sub hl [0, 1, 2] rfl) h
set_option maxHeartbeats 4000000 in
set_option maxRecDepth 100000 in
theorem wX5_goes_j109 {p : Program} {l : Launch} {e : Env} {s : State} {m : MethodId} {args : Array Value} {below : List Frame} {meth : Method} {c : Code} {X : zC} {N : zN} {r : Int} {g' : zG} {H : Heap} {locs : List Loc} {ls : Array Slot} (hF : zF p s m args meth c X cX5_goes 4 RX5) (hr : meth.sig.returnType = none) {t1 : Int} {t2 : Int} {t3 : Int} {g : zG} (hw : zH X N g s H locs) (hl : lv_has ls 4 []) (h : sX5_goes_j109 t1 t2 t3 g = some (r, g')) : W p l e { frames := 1, cells := 0, slots := 0, locals := 22 } s m args below meth c H locs 0 0 (MQ below (zQv X N g') args s 0 0 (zA X)) (F0 m 109 ls [z_v t3, z_v t2, z_v t1, z_r N 39 0]) := by
  have hx := hF.1.1
  have hb := hF.1.2.1
  unfold sX5_goes_j109 at h
  refine zr_iadd hF dX5_goes_109 ?_
  refine zr_iast hF hw zEf_39_0 (by decide) h dX5_goes_110 (fun g H locs hw h => ?_)
  exact zr_vret hF hr hw h dX5_goes_111
set_option maxHeartbeats 4000000 in
set_option maxRecDepth 100000 in
theorem czX5_goes (l : Launch) (X : zC) (N : zN) {x1 : Int} {x2 : Int} {g g' : zG} {r : Int} (h : sX5_goes x1 x2 g = some (r, g')) : zM l yX5_goes cX5_goes 4 none { frames := 1, cells := 0, slots := 0, locals := 22 } X N g [z_r N 6 0, z_v x1, z_v x2] (zQv X N g') := by
  refine z_ofW (own := RX5) (by decide +kernel) rfl (Nat.le_of_ble_eq_true rfl) ?_
  intro p e s m args below meth c ls hF hr hw hl
  have hl : lv_has ls 4 [(0, z_r N 6 0), (1, z_v x1), (2, z_v x2)] := hl
  have hx := hF.1.1
  have hb := hF.1.2.1
  unfold sX5_goes at h
  generalize s.heap = H at hw ⊢
  generalize ([] : List Loc) = locs at hw ⊢
  refine lv_aload_n hx hb dX5_goes_0 rfl (lv_at hl 0 rfl) ?_
  refine zr_get hF hw zEf_6_0 (by decide) zC_6 4 (by decide) qw_826 rfl dX5_goes_1 ?_
  refine lv_iload_n hx hb dX5_goes_4 rfl (lv_at hl 1 rfl) ?_
  refine lv_iconst hx hb dX5_goes_5 rfl ?_
  refine zr_iast hF hw zEf_22_0 (by decide) h dX5_goes_6 (fun g H locs hw h => ?_)
  refine lv_aload_n hx hb dX5_goes_7 rfl (lv_at hl 0 rfl) ?_
  refine zr_get hF hw zEf_6_0 (by decide) zC_6 5 (by decide) qw_827 rfl dX5_goes_8 ?_
  refine lv_iload_n hx hb dX5_goes_11 rfl (lv_at hl 1 rfl) ?_
  refine lv_iload_n hx hb dX5_goes_12 rfl (lv_at hl 2 rfl) ?_
  refine zr_iast hF hw zEf_23_0 (by decide) h dX5_goes_13 (fun g H locs hw h => ?_)
  refine lv_aload_n hx hb dX5_goes_14 rfl (lv_at hl 0 rfl) ?_
  refine zr_get hF hw zEf_6_0 (by decide) zC_6 6 (by decide) qw_828 rfl dX5_goes_15 ?_
  refine lv_iload_n hx hb dX5_goes_18 rfl (lv_at hl 1 rfl) ?_
  refine zr_iald hF hw zEf_24_0 (by decide) h dX5_goes_19 (fun h => ?_)
  refine lv_iconst hx hb dX5_goes_20 rfl ?_
  refine zr_icmp_eq (tgt := 111) hF h dX5_goes_21 (by decide) (fun h => ?_) (fun h => ?_)
  · exact zr_vret hF hr hw h dX5_goes_111
  · refine lv_aload_n hx hb dX5_goes_24 rfl (lv_at hl 0 rfl) ?_
    refine zr_get hF hw zEf_6_0 (by decide) zC_6 6 (by decide) qw_828 rfl dX5_goes_25 ?_
    refine lv_iload_n hx hb dX5_goes_28 rfl (lv_at hl 1 rfl) ?_
    refine zr_iald hF hw zEf_24_0 (by decide) h dX5_goes_29 (fun h => ?_)
    refine lv_aload_n hx hb dX5_goes_30 rfl (lv_at hl 0 rfl) ?_
    refine zr_get hF hw zEf_6_0 (by decide) zC_6 3 (by decide) qw_825 rfl dX5_goes_31 ?_
    refine lv_iload_n hx hb dX5_goes_34 rfl (lv_at hl 1 rfl) ?_
    refine zr_iald hF hw zEf_21_0 (by decide) h dX5_goes_35 (fun h => ?_)
    refine zr_isub hF dX5_goes_36 ?_
    refine zr_let h (fun v1 h => ?_)
    refine lv_istore_n (lv' := [(3, z_v v1), (0, z_r N 6 0), (1, z_v x1), (2, z_v x2)]) hx hb dX5_goes_37 rfl hl (by decide) rfl (fun ls hl => ?_)
    refine lv_aload_n hx hb dX5_goes_38 rfl (lv_at hl 1 rfl) ?_
    refine zr_get hF hw zEf_6_0 (by decide) zC_6 19 (by decide) qw_841 rfl dX5_goes_39 ?_
    refine lv_aload_n hx hb dX5_goes_42 rfl (lv_at hl 1 rfl) ?_
    refine zr_get hF hw zEf_6_0 (by decide) zC_6 7 (by decide) qw_829 rfl dX5_goes_43 ?_
    refine lv_iload_n hx hb dX5_goes_46 rfl (lv_at hl 2 rfl) ?_
    refine zr_iald hF hw zEf_25_0 (by decide) h dX5_goes_47 (fun h => ?_)
    refine lv_dup2_11 hx hb dX5_goes_48 rfl rfl ?_
    refine zr_iald hF hw zEf_36_0 (by decide) h dX5_goes_49 (fun h => ?_)
    refine lv_iload_n hx hb dX5_goes_50 rfl (lv_at hl 0 rfl) ?_
    refine zr_iadd hF dX5_goes_51 ?_
    refine zr_iast hF hw zEf_36_0 (by decide) h dX5_goes_52 (fun g H locs hw h => ?_)
    refine lv_aload_n hx hb dX5_goes_53 rfl (lv_at hl 1 rfl) ?_
    refine zr_get hF hw zEf_6_0 (by decide) zC_6 21 (by decide) qw_843 rfl dX5_goes_54 ?_
    refine lv_aload_n hx hb dX5_goes_57 rfl (lv_at hl 1 rfl) ?_
    refine zr_get hF hw zEf_6_0 (by decide) zC_6 2 (by decide) qw_824 rfl dX5_goes_58 ?_
    refine lv_iload_n hx hb dX5_goes_61 rfl (lv_at hl 2 rfl) ?_
    refine zr_iald hF hw zEf_20_0 (by decide) h dX5_goes_62 (fun h => ?_)
    refine lv_dup2_11 hx hb dX5_goes_63 rfl rfl ?_
    refine zr_iald hF hw zEf_38_0 (by decide) h dX5_goes_64 (fun h => ?_)
    refine lv_iload_n hx hb dX5_goes_65 rfl (lv_at hl 0 rfl) ?_
    refine zr_iadd hF dX5_goes_66 ?_
    refine zr_iast hF hw zEf_38_0 (by decide) h dX5_goes_67 (fun g H locs hw h => ?_)
    refine lv_aload_n hx hb dX5_goes_68 rfl (lv_at hl 1 rfl) ?_
    refine zr_get hF hw zEf_6_0 (by decide) zC_6 22 (by decide) qw_844 rfl dX5_goes_69 ?_
    refine lv_aload_n hx hb dX5_goes_72 rfl (lv_at hl 1 rfl) ?_
    refine zr_get hF hw zEf_6_0 (by decide) zC_6 2 (by decide) qw_824 rfl dX5_goes_73 ?_
    refine lv_iload_n hx hb dX5_goes_76 rfl (lv_at hl 2 rfl) ?_
    refine zr_iald hF hw zEf_20_0 (by decide) h dX5_goes_77 (fun h => ?_)
    refine lv_dup2_11 hx hb dX5_goes_78 rfl rfl ?_
    refine zr_iald hF hw zEf_39_0 (by decide) h dX5_goes_79 (fun h => ?_)
    refine lv_iload_n hx hb dX5_goes_80 rfl (lv_at hl 3 rfl) ?_
    refine lv_aload_n hx hb dX5_goes_81 rfl (lv_at hl 1 rfl) ?_
    refine zr_get hF hw zEf_6_0 (by decide) zC_6 6 (by decide) qw_828 rfl dX5_goes_82 ?_
    refine lv_iload_n hx hb dX5_goes_85 rfl (lv_at hl 2 rfl) ?_
    refine zr_iald hF hw zEf_24_0 (by decide) h dX5_goes_86 (fun h => ?_)
    refine lv_iconst hx hb dX5_goes_87 rfl ?_
    refine zr_isub hF dX5_goes_88 ?_
    refine lv_aload_n hx hb dX5_goes_89 rfl (lv_at hl 1 rfl) ?_
    refine zr_get hF hw zEf_6_0 (by decide) zC_6 6 (by decide) qw_828 rfl dX5_goes_90 ?_
    refine lv_iload_n hx hb dX5_goes_93 rfl (lv_at hl 2 rfl) ?_
    refine zr_iald hF hw zEf_24_0 (by decide) h dX5_goes_94 (fun h => ?_)
    refine lv_bipush (v := Int32.ofInt (10)) hx hb dX5_goes_95 (by decide) ?_
    refine zr_iadd hF dX5_goes_97 ?_
    obtain ⟨v3, hv3⟩ : ∃ y : Int, y = g 39 0 (g 20 0 (x1).toNat).toNat := ⟨_, rfl⟩
    have h := zlet_elim h
    rw [← hv3] at h ⊢
    clear hv3
    obtain ⟨v4, hv4⟩ : ∃ y : Int, y = g 20 0 (x1).toNat := ⟨_, rfl⟩
    have h := zlet_elim h
    rw [← hv4] at h ⊢
    clear hv4
    obtain ⟨r2, g1, h1, h⟩ := zbd_some h
    refine zr_callSi (n := 3) (As := [z_v x2, z_v ((g 24 0 (x1).toNat) - 5), z_v ((g 24 0 (x1).toNat) + 10)]) (rest := [z_v v3, z_v v4, z_r N 39 0]) hF hw (czX5_isIn l X N h1) (z_goodS qw_922 qw_923 qw_42 qw_924) (by decide +kernel) ⟨Nat.le_of_ble_eq_true rfl, Nat.le_of_ble_eq_true rfl⟩ ⟨rfl, rfl⟩ rfl hl.1 rfl (Nat.le_of_ble_eq_true rfl) dX5_goes_98 ⟨Nat.le_of_ble_eq_true rfl, Nat.le_of_ble_eq_true rfl⟩ (fun H locs hw => ?_)
    clear h1
    generalize g1 = g at *
    refine zr_if_eq (tgt := 108) hF h dX5_goes_101 (by decide) (fun h => ?_) (fun h => ?_)
    · refine lv_iconst hx hb dX5_goes_108 rfl ?_
      exact wX5_goes_j109 hF hr  hw (lv_sub hl [] rfl) h
    · refine lv_iconst hx hb dX5_goes_104 rfl ?_
      refine lv_goto (tgt := 109) hx hb dX5_goes_105 (by decide) ?_
      exact wX5_goes_j109 hF hr  hw (lv_sub hl [] rfl) h
set_option maxHeartbeats 4000000 in
set_option maxRecDepth 100000 in
theorem wX5_message_j181 {p : Program} {l : Launch} {e : Env} {s : State} {m : MethodId} {args : Array Value} {below : List Frame} {meth : Method} {c : Code} {X : zC} {N : zN} {r : Int} {g' : zG} {H : Heap} {locs : List Loc} {ls : Array Slot} (hF : zF p s m args meth c X cX5_message 8 RX5) (hr : meth.sig.returnType = (some .boolean)) {t1 : Int} {t2 : Int} {g : zG} (hw : zH X N g s H locs) (hl : lv_has ls 8 []) (h : sX5_message_j181 t1 t2 g = some (r, g')) : W p l e { frames := 2, cells := 0, slots := 0, locals := 45 } s m args below meth c H locs 0 0 (MQ below (zQi X N r g') args s 0 0 (zA X)) (F0 m 181 ls [z_v t2, z_v t1, z_r N 25 0]) := by
  have hx := hF.1.1
  have hb := hF.1.2.1
  unfold sX5_message_j181 at h
  refine zr_iast hF hw zEf_25_0 (by decide) h dX5_message_181 (fun g H locs hw h => ?_)
  refine lv_goto (tgt := 207) hx hb dX5_message_182 (by decide) ?_
  refine lv_iconst hx hb dX5_message_207 rfl ?_
  exact zr_zret hF hr hw h dX5_message_208
set_option maxHeartbeats 4000000 in
set_option maxRecDepth 100000 in
theorem wX5_message_j160 {p : Program} {l : Launch} {e : Env} {s : State} {m : MethodId} {args : Array Value} {below : List Frame} {meth : Method} {c : Code} {X : zC} {N : zN} {r : Int} {g' : zG} {H : Heap} {locs : List Loc} {ls : Array Slot} (hF : zF p s m args meth c X cX5_message 8 RX5) (hr : meth.sig.returnType = (some .boolean)) {x1 : Int} {x7 : Int} {t1 : Int} {t2 : Int} {g : zG} (hw : zH X N g s H locs) (hl : lv_has ls 8 [(0, z_r N 6 0), (1, z_v x1), (7, z_v x7)]) (h : sX5_message_j160 x1 x7 t1 t2 g = some (r, g')) : W p l e { frames := 2, cells := 0, slots := 0, locals := 45 } s m args below meth c H locs 0 0 (MQ below (zQi X N r g') args s 0 0 (zA X)) (F0 m 160 ls [z_v t2, z_v t1, z_r N 24 0]) := by
  have hx := hF.1.1
  have hb := hF.1.2.1
  unfold sX5_message_j160 at h
  refine zr_iast hF hw zEf_24_0 (by decide) h dX5_message_160 (fun g H locs hw h => ?_)
  refine lv_aload_n hx hb dX5_message_161 rfl (lv_at hl 0 rfl) ?_
  refine zr_get hF hw zEf_6_0 (by decide) zC_6 7 (by decide) qw_829 rfl dX5_message_162 ?_
  refine lv_iload_n hx hb dX5_message_165 rfl (lv_at hl 1 rfl) ?_
  refine lv_iload hx hb dX5_message_166 (lv_at hl 2 rfl) ?_
  refine zr_if_eq (tgt := 175) hF h dX5_message_168 (by decide) (fun h => ?_) (fun h => ?_)
  · refine lv_aload_n hx hb dX5_message_175 rfl (lv_at hl 0 rfl) ?_
    refine zr_get hF hw zEf_6_0 (by decide) zC_6 7 (by decide) qw_829 rfl dX5_message_176 ?_
    refine lv_iload_n hx hb dX5_message_179 rfl (lv_at hl 1 rfl) ?_
    refine zr_iald hF hw zEf_25_0 (by decide) h dX5_message_180 (fun h => ?_)
    exact wX5_message_j181 hF hr  hw (lv_sub hl [] rfl) h
  · refine lv_iconst hx hb dX5_message_171 rfl ?_
    refine lv_goto (tgt := 181) hx hb dX5_message_172 (by decide) ?_
    exact wX5_message_j181 hF hr  hw (lv_sub hl [] rfl) h
set_option maxHeartbeats 4000000 in
set_option maxRecDepth 100000 in
theorem wX5_message_j130 {p : Program} {l : Launch} {e : Env} {s : State} {m : MethodId} {args : Array Value} {below : List Frame} {meth : Method} {c : Code} {X : zC} {N : zN} {r : Int} {g' : zG} {H : Heap} {locs : List Loc} {ls : Array Slot} (hF : zF p s m args meth c X cX5_message 8 RX5) (hr : meth.sig.returnType = (some .boolean)) {x1 : Int} {x4 : Int} {t0 : Int} {g : zG} (hw : zH X N g s H locs) (hl : lv_has ls 8 [(0, z_r N 6 0), (1, z_v x1), (4, z_v x4)]) (h : sX5_message_j130 x1 x4 t0 g = some (r, g')) : W p l e { frames := 2, cells := 0, slots := 0, locals := 45 } s m args below meth c H locs 0 0 (MQ below (zQi X N r g') args s 0 0 (zA X)) (F0 m 130 ls [z_v t0]) := by
  have hx := hF.1.1
  have hb := hF.1.2.1
  unfold sX5_message_j130 at h
  refine lv_istore (lv' := [(7, z_v t0), (0, z_r N 6 0), (1, z_v x1), (4, z_v x4)]) hx hb dX5_message_130 hl (by decide) rfl (fun ls hl => ?_)
  refine lv_aload_n hx hb dX5_message_132 rfl (lv_at hl 1 rfl) ?_
  refine zr_get hF hw zEf_6_0 (by decide) zC_6 3 (by decide) qw_825 rfl dX5_message_133 ?_
  refine lv_iload_n hx hb dX5_message_136 rfl (lv_at hl 2 rfl) ?_
  refine lv_iload hx hb dX5_message_137 (lv_at hl 3 rfl) ?_
  refine zr_iast hF hw zEf_21_0 (by decide) h dX5_message_139 (fun g H locs hw h => ?_)
  refine lv_aload_n hx hb dX5_message_140 rfl (lv_at hl 1 rfl) ?_
  refine zr_get hF hw zEf_6_0 (by decide) zC_6 6 (by decide) qw_828 rfl dX5_message_141 ?_
  refine lv_iload_n hx hb dX5_message_144 rfl (lv_at hl 2 rfl) ?_
  refine lv_iload hx hb dX5_message_145 (lv_at hl 0 rfl) ?_
  refine zr_if_eq (tgt := 154) hF h dX5_message_147 (by decide) (fun h => ?_) (fun h => ?_)
  · refine lv_aload_n hx hb dX5_message_154 rfl (lv_at hl 1 rfl) ?_
    refine zr_get hF hw zEf_6_0 (by decide) zC_6 6 (by decide) qw_828 rfl dX5_message_155 ?_
    refine lv_iload_n hx hb dX5_message_158 rfl (lv_at hl 2 rfl) ?_
    refine zr_iald hF hw zEf_24_0 (by decide) h dX5_message_159 (fun h => ?_)
    exact wX5_message_j160 hF hr  hw (lv_sub hl [1, 2, 0] rfl) h
  · refine lv_iconst hx hb dX5_message_150 rfl ?_
    refine lv_goto (tgt := 160) hx hb dX5_message_151 (by decide) ?_
    exact wX5_message_j160 hF hr  hw (lv_sub hl [1, 2, 0] rfl) h
set_option maxHeartbeats 4000000 in
set_option maxRecDepth 100000 in
theorem wX5_message_j74 {p : Program} {l : Launch} {e : Env} {s : State} {m : MethodId} {args : Array Value} {below : List Frame} {meth : Method} {c : Code} {X : zC} {N : zN} {r : Int} {g' : zG} {H : Heap} {locs : List Loc} {ls : Array Slot} (hF : zF p s m args meth c X cX5_message 8 RX5) (hr : meth.sig.returnType = (some .boolean)) {x1 : Int} {x2 : Int} {x3 : Int} {x4 : Int} {t1 : Int} {g : zG} (hw : zH X N g s H locs) (hl : lv_has ls 8 [(0, z_r N 6 0), (1, z_v x1), (2, z_v x2), (3, z_v x3), (4, z_v x4)]) (h : sX5_message_j74 x1 x2 x3 x4 t1 g = some (r, g')) : W p l e { frames := 2, cells := 0, slots := 0, locals := 45 } s m args below meth c H locs 0 0 (MQ below (zQi X N r g') args s 0 0 (zA X)) (F0 m 74 ls [z_v t1, z_r N 6 0]) := by
  have hx := hF.1.1
  have hb := hF.1.2.1
  unfold sX5_message_j74 at h
  obtain ⟨r1, g1, h1, h⟩ := zbd_some h
  refine zr_callVi (n := 1) (As := [z_v t1]) (rest := []) hF hw (czX5_holds l X N h1) zEf_6_0 (by decide) zC_6 (z_goodV qw_925 qw_927 qw_14 qw_42 qw_928) (by decide +kernel) ⟨Nat.le_of_ble_eq_true rfl, Nat.le_of_ble_eq_true rfl⟩ ⟨rfl, rfl⟩ rfl hl.1 rfl (Nat.le_of_ble_eq_true rfl) dX5_message_74 ⟨Nat.le_of_ble_eq_true rfl, Nat.le_of_ble_eq_true rfl⟩ (fun H locs hw => ?_)
  clear h1
  generalize g1 = g at *
  refine zr_if_ne (tgt := 82) hF h dX5_message_77 (by decide) (fun h => ?_) (fun h => ?_)
  · refine lv_aload_n hx hb dX5_message_82 rfl (lv_at hl 0 rfl) ?_
    refine zr_get hF hw zEf_6_0 (by decide) zC_6 4 (by decide) qw_826 rfl dX5_message_83 ?_
    refine lv_iload_n hx hb dX5_message_86 rfl (lv_at hl 1 rfl) ?_
    refine zr_iald hF hw zEf_22_0 (by decide) h dX5_message_87 (fun h => ?_)
    refine zr_if_ne (tgt := 101) hF h dX5_message_88 (by decide) (fun h => ?_) (fun h => ?_)
    · refine lv_iconst hx hb dX5_message_101 rfl ?_
      exact zr_zret hF hr hw h dX5_message_102
    · refine lv_iload_n hx hb dX5_message_91 rfl (lv_at hl 2 rfl) ?_
      refine lv_aload_n hx hb dX5_message_92 rfl (lv_at hl 0 rfl) ?_
      refine zr_get hF hw zEf_6_0 (by decide) zC_6 10 (by decide) qw_832 rfl dX5_message_93 ?_
      refine lv_iload_n hx hb dX5_message_96 rfl (lv_at hl 1 rfl) ?_
      refine zr_iald hF hw zEf_28_0 (by decide) h dX5_message_97 (fun h => ?_)
      refine zr_icmp_gt (tgt := 103) hF h dX5_message_98 (by decide) (fun h => ?_) (fun h => ?_)
      · refine lv_aload_n hx hb dX5_message_103 rfl (lv_at hl 0 rfl) ?_
        refine zr_get hF hw zEf_6_0 (by decide) zC_6 10 (by decide) qw_832 rfl dX5_message_104 ?_
        refine lv_iload_n hx hb dX5_message_107 rfl (lv_at hl 1 rfl) ?_
        refine lv_iload_n hx hb dX5_message_108 rfl (lv_at hl 2 rfl) ?_
        refine zr_iast hF hw zEf_28_0 (by decide) h dX5_message_109 (fun g H locs hw h => ?_)
        refine lv_iload_n hx hb dX5_message_110 rfl (lv_at hl 3 rfl) ?_
        refine zr_if_ne (tgt := 185) hF h dX5_message_111 (by decide) (fun h => ?_) (fun h => ?_)
        · refine lv_iload_n hx hb dX5_message_185 rfl (lv_at hl 3 rfl) ?_
          refine lv_iconst hx hb dX5_message_186 rfl ?_
          refine zr_icmp_ne (tgt := 200) hF h dX5_message_187 (by decide) (fun h => ?_) (fun h => ?_)
          · refine lv_aload_n hx hb dX5_message_200 rfl (lv_at hl 0 rfl) ?_
            refine lv_iload_n hx hb dX5_message_201 rfl (lv_at hl 1 rfl) ?_
            refine lv_iload hx hb dX5_message_202 (lv_at hl 4 rfl) ?_
            obtain ⟨r2, g1, h1, h⟩ := zbd_some h
            refine zr_callVv (n := 2) (As := [z_v x1, z_v x4]) (rest := []) hF hw (czX5_goes l X N h1) zEf_6_0 (by decide) zC_6 (z_goodV qw_1097 qw_1099 qw_34 qw_42 qw_1100) (by decide +kernel) ⟨Nat.le_of_ble_eq_true rfl, Nat.le_of_ble_eq_true rfl⟩ ⟨rfl, rfl⟩ rfl hl.1 rfl (Nat.le_of_ble_eq_true rfl) dX5_message_204 ⟨Nat.le_of_ble_eq_true rfl, Nat.le_of_ble_eq_true rfl⟩ (fun H locs hw => ?_)
            clear h1
            generalize g1 = g at *
            refine lv_iconst hx hb dX5_message_207 rfl ?_
            exact zr_zret hF hr hw h dX5_message_208
          · refine lv_aload_n hx hb dX5_message_190 rfl (lv_at hl 0 rfl) ?_
            refine zr_get hF hw zEf_6_0 (by decide) zC_6 4 (by decide) qw_826 rfl dX5_message_191 ?_
            refine lv_iload_n hx hb dX5_message_194 rfl (lv_at hl 1 rfl) ?_
            refine lv_iconst hx hb dX5_message_195 rfl ?_
            refine zr_iast hF hw zEf_22_0 (by decide) h dX5_message_196 (fun g H locs hw h => ?_)
            refine lv_goto (tgt := 207) hx hb dX5_message_197 (by decide) ?_
            refine lv_iconst hx hb dX5_message_207 rfl ?_
            exact zr_zret hF hr hw h dX5_message_208
        · refine lv_aload_n hx hb dX5_message_114 rfl (lv_at hl 0 rfl) ?_
          refine zr_get hF hw zEf_6_0 (by decide) zC_6 6 (by decide) qw_828 rfl dX5_message_115 ?_
          refine lv_iload_n hx hb dX5_message_118 rfl (lv_at hl 1 rfl) ?_
          refine zr_iald hF hw zEf_24_0 (by decide) h dX5_message_119 (fun h => ?_)
          refine lv_iload hx hb dX5_message_120 (lv_at hl 4 rfl) ?_
          refine zr_icmp_ge (tgt := 129) hF h dX5_message_122 (by decide) (fun h => ?_) (fun h => ?_)
          · refine lv_iconst hx hb dX5_message_129 rfl ?_
            exact wX5_message_j130 hF hr  hw (lv_sub hl [0, 1, 4] rfl) h
          · refine lv_iconst hx hb dX5_message_125 rfl ?_
            refine lv_goto (tgt := 130) hx hb dX5_message_126 (by decide) ?_
            exact wX5_message_j130 hF hr  hw (lv_sub hl [0, 1, 4] rfl) h
      · refine lv_iconst hx hb dX5_message_101 rfl ?_
        exact zr_zret hF hr hw h dX5_message_102
  · refine lv_iconst hx hb dX5_message_80 rfl ?_
    exact zr_zret hF hr hw h dX5_message_81
set_option maxHeartbeats 4000000 in
set_option maxRecDepth 100000 in
theorem wX5_message_j45 {p : Program} {l : Launch} {e : Env} {s : State} {m : MethodId} {args : Array Value} {below : List Frame} {meth : Method} {c : Code} {X : zC} {N : zN} {r : Int} {g' : zG} {H : Heap} {locs : List Loc} {ls : Array Slot} (hF : zF p s m args meth c X cX5_message 8 RX5) (hr : meth.sig.returnType = (some .boolean)) {x1 : Int} {x2 : Int} {x3 : Int} {x4 : Int} {t0 : Int} {g : zG} (hw : zH X N g s H locs) (hl : lv_has ls 8 [(0, z_r N 6 0), (1, z_v x1), (2, z_v x2), (3, z_v x3), (4, z_v x4)]) (h : sX5_message_j45 x1 x2 x3 x4 t0 g = some (r, g')) : W p l e { frames := 2, cells := 0, slots := 0, locals := 45 } s m args below meth c H locs 0 0 (MQ below (zQi X N r g') args s 0 0 (zA X)) (F0 m 45 ls [z_v t0]) := by
  have hx := hF.1.1
  have hb := hF.1.2.1
  unfold sX5_message_j45 at h
  refine lv_istore (lv' := [(5, z_v t0), (0, z_r N 6 0), (1, z_v x1), (2, z_v x2), (3, z_v x3), (4, z_v x4)]) hx hb dX5_message_45 hl (by decide) rfl (fun ls hl => ?_)
  refine lv_aload_n hx hb dX5_message_47 rfl (lv_at hl 1 rfl) ?_
  refine lv_iload_n hx hb dX5_message_48 rfl (lv_at hl 2 rfl) ?_
  obtain ⟨r1, g1, h1, h⟩ := zbd_some h
  refine zr_callVi (n := 1) (As := [z_v x1]) (rest := []) hF hw (czX5_isFlight l X N h1) zEf_6_0 (by decide) zC_6 (z_goodV qw_933 qw_935 qw_15 qw_42 qw_936) (by decide +kernel) ⟨Nat.le_of_ble_eq_true rfl, Nat.le_of_ble_eq_true rfl⟩ ⟨rfl, rfl⟩ rfl hl.1 rfl (Nat.le_of_ble_eq_true rfl) dX5_message_49 ⟨Nat.le_of_ble_eq_true rfl, Nat.le_of_ble_eq_true rfl⟩ (fun H locs hw => ?_)
  clear h1
  generalize g1 = g at *
  refine lv_istore (lv' := [(6, z_v r1), (5, z_v t0), (0, z_r N 6 0), (1, z_v x1), (2, z_v x2), (3, z_v x3), (4, z_v x4)]) hx hb dX5_message_52 hl (by decide) rfl (fun ls hl => ?_)
  refine lv_aload_n hx hb dX5_message_54 rfl (lv_at hl 2 rfl) ?_
  refine lv_iload hx hb dX5_message_55 (lv_at hl 0 rfl) ?_
  refine zr_if_ne (tgt := 64) hF h dX5_message_57 (by decide) (fun h => ?_) (fun h => ?_)
  · refine lv_iload hx hb dX5_message_64 (lv_at hl 1 rfl) ?_
    refine zr_if_eq (tgt := 73) hF h dX5_message_66 (by decide) (fun h => ?_) (fun h => ?_)
    · refine lv_iconst hx hb dX5_message_73 rfl ?_
      exact wX5_message_j74 hF hr  hw (lv_sub hl [2, 3, 4, 5, 6] rfl) h
    · refine lv_iconst hx hb dX5_message_69 rfl ?_
      refine lv_goto (tgt := 74) hx hb dX5_message_70 (by decide) ?_
      exact wX5_message_j74 hF hr  hw (lv_sub hl [2, 3, 4, 5, 6] rfl) h
  · refine lv_iconst hx hb dX5_message_60 rfl ?_
    refine lv_goto (tgt := 74) hx hb dX5_message_61 (by decide) ?_
    exact wX5_message_j74 hF hr  hw (lv_sub hl [2, 3, 4, 5, 6] rfl) h
set_option maxHeartbeats 4000000 in
set_option maxRecDepth 100000 in
theorem wX5_message_j44 {p : Program} {l : Launch} {e : Env} {s : State} {m : MethodId} {args : Array Value} {below : List Frame} {meth : Method} {c : Code} {X : zC} {N : zN} {r : Int} {g' : zG} {H : Heap} {locs : List Loc} {ls : Array Slot} (hF : zF p s m args meth c X cX5_message 8 RX5) (hr : meth.sig.returnType = (some .boolean)) {x1 : Int} {x2 : Int} {x3 : Int} {x4 : Int} {g : zG} (hw : zH X N g s H locs) (hl : lv_has ls 8 [(0, z_r N 6 0), (1, z_v x1), (2, z_v x2), (3, z_v x3), (4, z_v x4)]) (h : sX5_message_j44 x1 x2 x3 x4 g = some (r, g')) : W p l e { frames := 2, cells := 0, slots := 0, locals := 45 } s m args below meth c H locs 0 0 (MQ below (zQi X N r g') args s 0 0 (zA X)) (F0 m 44 ls []) := by
  have hx := hF.1.1
  have hb := hF.1.2.1
  unfold sX5_message_j44 at h
  refine lv_iconst hx hb dX5_message_44 rfl ?_
  exact wX5_message_j45 hF hr  hw (lv_sub hl [0, 1, 2, 3, 4] rfl) h
set_option maxHeartbeats 4000000 in
set_option maxRecDepth 100000 in
theorem wX5_message_j34 {p : Program} {l : Launch} {e : Env} {s : State} {m : MethodId} {args : Array Value} {below : List Frame} {meth : Method} {c : Code} {X : zC} {N : zN} {r : Int} {g' : zG} {H : Heap} {locs : List Loc} {ls : Array Slot} (hF : zF p s m args meth c X cX5_message 8 RX5) (hr : meth.sig.returnType = (some .boolean)) {x1 : Int} {x2 : Int} {x3 : Int} {x4 : Int} {t0 : Int} {t1 : Int} {t2 : Int} {g : zG} (hw : zH X N g s H locs) (hl : lv_has ls 8 [(0, z_r N 6 0), (1, z_v x1), (2, z_v x2), (3, z_v x3), (4, z_v x4)]) (h : sX5_message_j34 x1 x2 x3 x4 t0 t1 t2 g = some (r, g')) : W p l e { frames := 2, cells := 0, slots := 0, locals := 45 } s m args below meth c H locs 0 0 (MQ below (zQi X N r g') args s 0 0 (zA X)) (F0 m 34 ls [z_v t2, z_v t1, z_v t0]) := by
  have hx := hF.1.1
  have hb := hF.1.2.1
  unfold sX5_message_j34 at h
  obtain ⟨r1, g1, h1, h⟩ := zbd_some h
  refine zr_callSi (n := 3) (As := [z_v t0, z_v t1, z_v t2]) (rest := []) hF hw (czX5_isIn l X N h1) (z_goodS qw_922 qw_923 qw_42 qw_924) (by decide +kernel) ⟨Nat.le_of_ble_eq_true rfl, Nat.le_of_ble_eq_true rfl⟩ ⟨rfl, rfl⟩ rfl hl.1 rfl (Nat.le_of_ble_eq_true rfl) dX5_message_34 ⟨Nat.le_of_ble_eq_true rfl, Nat.le_of_ble_eq_true rfl⟩ (fun H locs hw => ?_)
  clear h1
  generalize g1 = g at *
  refine zr_if_eq (tgt := 44) hF h dX5_message_37 (by decide) (fun h => ?_) (fun h => ?_)
  · exact wX5_message_j44 hF hr  hw (lv_sub hl [0, 1, 2, 3, 4] rfl) h
  · refine lv_iconst hx hb dX5_message_40 rfl ?_
    refine lv_goto (tgt := 45) hx hb dX5_message_41 (by decide) ?_
    exact wX5_message_j45 hF hr  hw (lv_sub hl [0, 1, 2, 3, 4] rfl) h
set_option maxHeartbeats 4000000 in
set_option maxRecDepth 100000 in
theorem czX5_message (l : Launch) (X : zC) (N : zN) {x1 : Int} {x2 : Int} {x3 : Int} {x4 : Int} {g g' : zG} {r : Int} (h : sX5_message x1 x2 x3 x4 g = some (r, g')) : zM l yX5_message cX5_message 8 (some .boolean) { frames := 2, cells := 0, slots := 0, locals := 45 } X N g [z_r N 6 0, z_v x1, z_v x2, z_v x3, z_v x4] (zQi X N r g') := by
  refine z_ofW (own := RX5) (by decide +kernel) rfl (Nat.le_of_ble_eq_true rfl) ?_
  intro p e s m args below meth c ls hF hr hw hl
  have hl : lv_has ls 8 [(0, z_r N 6 0), (1, z_v x1), (2, z_v x2), (3, z_v x3), (4, z_v x4)] := hl
  have hx := hF.1.1
  have hb := hF.1.2.1
  unfold sX5_message at h
  generalize s.heap = H at hw ⊢
  generalize ([] : List Loc) = locs at hw ⊢
  refine lv_iload_n hx hb dX5_message_0 rfl (lv_at hl 2 rfl) ?_
  refine lv_iconst hx hb dX5_message_1 rfl ?_
  refine lv_bipush (v := Int32.ofInt (99)) hx hb dX5_message_2 (by decide) ?_
  obtain ⟨r1, g1, h1, h⟩ := zbd_some h
  refine zr_callSi (n := 3) (As := [z_v x2, z_v 1, z_v 99]) (rest := []) hF hw (czX5_isIn l X N h1) (z_goodS qw_922 qw_923 qw_42 qw_924) (by decide +kernel) ⟨Nat.le_of_ble_eq_true rfl, Nat.le_of_ble_eq_true rfl⟩ ⟨rfl, rfl⟩ rfl hl.1 rfl (Nat.le_of_ble_eq_true rfl) dX5_message_4 ⟨Nat.le_of_ble_eq_true rfl, Nat.le_of_ble_eq_true rfl⟩ (fun H locs hw => ?_)
  clear h1
  generalize g1 = g at *
  refine zr_if_eq (tgt := 44) hF h dX5_message_7 (by decide) (fun h => ?_) (fun h => ?_)
  · exact wX5_message_j44 hF hr  hw (lv_sub hl [0, 1, 2, 3, 4] rfl) h
  · refine lv_iload_n hx hb dX5_message_10 rfl (lv_at hl 3 rfl) ?_
    refine lv_iconst hx hb dX5_message_11 rfl ?_
    refine lv_iconst hx hb dX5_message_12 rfl ?_
    obtain ⟨r2, g1, h1, h⟩ := zbd_some h
    refine zr_callSi (n := 3) (As := [z_v x3, z_v 0, z_v 2]) (rest := []) hF hw (czX5_isIn l X N h1) (z_goodS qw_922 qw_923 qw_42 qw_924) (by decide +kernel) ⟨Nat.le_of_ble_eq_true rfl, Nat.le_of_ble_eq_true rfl⟩ ⟨rfl, rfl⟩ rfl hl.1 rfl (Nat.le_of_ble_eq_true rfl) dX5_message_13 ⟨Nat.le_of_ble_eq_true rfl, Nat.le_of_ble_eq_true rfl⟩ (fun H locs hw => ?_)
    clear h1
    generalize g1 = g at *
    refine zr_if_eq (tgt := 44) hF h dX5_message_16 (by decide) (fun h => ?_) (fun h => ?_)
    · exact wX5_message_j44 hF hr  hw (lv_sub hl [0, 1, 2, 3, 4] rfl) h
    · refine lv_iload hx hb dX5_message_19 (lv_at hl 4 rfl) ?_
      refine lv_iconst hx hb dX5_message_21 rfl ?_
      refine lv_iload_n hx hb dX5_message_22 rfl (lv_at hl 3 rfl) ?_
      refine lv_iconst hx hb dX5_message_23 rfl ?_
      refine zr_icmp_ne (tgt := 31) hF h dX5_message_24 (by decide) (fun h => ?_) (fun h => ?_)
      · refine lv_sipush (v := Int32.ofInt (1439)) hx hb dX5_message_31 (by decide) ?_
        exact wX5_message_j34 hF hr  hw (lv_sub hl [0, 1, 2, 3, 4] rfl) h
      · refine lv_iconst hx hb dX5_message_27 rfl ?_
        refine lv_goto (tgt := 34) hx hb dX5_message_28 (by decide) ?_
        exact wX5_message_j34 hF hr  hw (lv_sub hl [0, 1, 2, 3, 4] rfl) h
set_option maxHeartbeats 4000000 in
set_option maxRecDepth 100000 in
theorem wX5_companyIs_j28 {p : Program} {l : Launch} {e : Env} {s : State} {m : MethodId} {args : Array Value} {below : List Frame} {meth : Method} {c : Code} {X : zC} {N : zN} {r : Int} {g' : zG} {H : Heap} {locs : List Loc} {ls : Array Slot} (hF : zF p s m args meth c X cX5_companyIs 5 RX5) (hr : meth.sig.returnType = (some .int)) {n : Nat} {K : Nat → Int → Int → Int → Int → zG → Option (Int × zG)} (hK0 : ∀ (x1 : Int) (x2 : Int) (x3 : Int) (x4 : Int) (g : zG) (H : Heap) (locs : List Loc) (ls : Array Slot), zH X N g s H locs → lv_has ls 5 [(0, z_r N 6 0), (1, z_v x1), (2, z_v x2), (3, z_v x3), (4, z_v x4)] → K 0 x1 x2 x3 x4 g = some (r, g') → W p l e { frames := 1, cells := 0, slots := 0, locals := 22 } s m args below meth c H locs 0 0 (MQ below (zQi X N r g') args s 0 0 (zA X)) (F0 m 41 ls [])) {x1 : Int} {x2 : Int} {t1 : Int} {g : zG} (hw : zH X N g s H locs) (hl : lv_has ls 5 [(0, z_r N 6 0), (1, z_v x1), (2, z_v x2)]) (h : sX5_companyIs_j28 n K x1 x2 t1 g = some (r, g')) : W p l e { frames := 1, cells := 0, slots := 0, locals := 22 } s m args below meth c H locs 0 0 (MQ below (zQi X N r g') args s 0 0 (zA X)) (F0 m 28 ls [z_v t1, z_r N 6 0]) := by
  have hx := hF.1.1
  have hb := hF.1.2.1
  unfold sX5_companyIs_j28 at h
  obtain ⟨r1, g1, h1, h⟩ := zbd_some h
  refine zr_callVi (n := 1) (As := [z_v t1]) (rest := []) hF hw (czX5_holds l X N h1) zEf_6_0 (by decide) zC_6 (z_goodV qw_925 qw_927 qw_14 qw_42 qw_928) (by decide +kernel) ⟨Nat.le_of_ble_eq_true rfl, Nat.le_of_ble_eq_true rfl⟩ ⟨rfl, rfl⟩ rfl hl.1 rfl (Nat.le_of_ble_eq_true rfl) dX5_companyIs_28 ⟨Nat.le_of_ble_eq_true rfl, Nat.le_of_ble_eq_true rfl⟩ (fun H locs hw => ?_)
  clear h1
  generalize g1 = g at *
  refine zr_if_ne (tgt := 36) hF h dX5_companyIs_31 (by decide) (fun h => ?_) (fun h => ?_)
  · refine lv_iconst hx hb dX5_companyIs_36 rfl ?_
    refine lv_istore_n (lv' := [(3, z_v 0), (0, z_r N 6 0), (1, z_v x1), (2, z_v x2)]) hx hb dX5_companyIs_37 rfl hl (by decide) rfl (fun ls hl => ?_)
    refine lv_iconst hx hb dX5_companyIs_38 rfl ?_
    refine lv_istore (lv' := [(4, z_v 0), (3, z_v 0), (0, z_r N 6 0), (1, z_v x1), (2, z_v x2)]) hx hb dX5_companyIs_39 hl (by decide) rfl (fun ls hl => ?_)
    exact hK0 x1 x2 0 0 _ _ _ _  hw (lv_sub hl [2, 3, 4, 1, 0] rfl) h
  · refine lv_iconst hx hb dX5_companyIs_34 rfl ?_
    exact zr_iret hF hr hw h dX5_companyIs_35
set_option maxHeartbeats 4000000 in
set_option maxRecDepth 100000 in
theorem wX5_companyIs_j78 {p : Program} {l : Launch} {e : Env} {s : State} {m : MethodId} {args : Array Value} {below : List Frame} {meth : Method} {c : Code} {X : zC} {N : zN} {r : Int} {g' : zG} {H : Heap} {locs : List Loc} {ls : Array Slot} (hF : zF p s m args meth c X cX5_companyIs 5 RX5) (hr : meth.sig.returnType = (some .int)) {n : Nat} {K : Nat → Int → Int → Int → Int → zG → Option (Int × zG)} (hK0 : ∀ (x1 : Int) (x2 : Int) (x3 : Int) (x4 : Int) (g : zG) (H : Heap) (locs : List Loc) (ls : Array Slot), zH X N g s H locs → lv_has ls 5 [(0, z_r N 6 0), (1, z_v x1), (2, z_v x2), (3, z_v x3), (4, z_v x4)] → K 0 x1 x2 x3 x4 g = some (r, g') → W p l e { frames := 1, cells := 0, slots := 0, locals := 22 } s m args below meth c H locs 0 0 (MQ below (zQi X N r g') args s 0 0 (zA X)) (F0 m 41 ls [])) {x1 : Int} {x2 : Int} {x4 : Int} {t0 : Int} {t1 : Int} {g : zG} (hw : zH X N g s H locs) (hl : lv_has ls 5 [(0, z_r N 6 0), (1, z_v x1), (2, z_v x2), (4, z_v x4)]) (h : sX5_companyIs_j78 n K x1 x2 x4 t0 t1 g = some (r, g')) : W p l e { frames := 1, cells := 0, slots := 0, locals := 22 } s m args below meth c H locs 0 0 (MQ below (zQi X N r g') args s 0 0 (zA X)) (F0 m 78 ls [z_v t1, z_v t0]) := by
  have hx := hF.1.1
  have hb := hF.1.2.1
  unfold sX5_companyIs_j78 at h
  refine zr_iadd hF dX5_companyIs_78 ?_
  refine zr_let h (fun v1 h => ?_)
  refine lv_istore_n (lv' := [(3, z_v v1), (0, z_r N 6 0), (1, z_v x1), (2, z_v x2), (4, z_v x4)]) hx hb dX5_companyIs_79 rfl hl (by decide) rfl (fun ls hl => ?_)
  refine zr_iinc hF (lv' := fun v2 => [(4, z_v v2), (3, z_v v1), (0, z_r N 6 0), (1, z_v x1), (2, z_v x2)]) h dX5_companyIs_80 hl (k := 4) rfl (by decide) (fun _ => rfl) (fun v2 ls hl h => ?_)
  refine lv_goto (tgt := 41) hx hb dX5_companyIs_83 (by decide) ?_
  exact hK0 x1 x2 v1 v2 _ _ _ _  hw (lv_sub hl [2, 3, 4, 1, 0] rfl) h
set_option maxHeartbeats 4000000 in
set_option maxRecDepth 100000 in
theorem wX5_companyIs_j77 {p : Program} {l : Launch} {e : Env} {s : State} {m : MethodId} {args : Array Value} {below : List Frame} {meth : Method} {c : Code} {X : zC} {N : zN} {r : Int} {g' : zG} {H : Heap} {locs : List Loc} {ls : Array Slot} (hF : zF p s m args meth c X cX5_companyIs 5 RX5) (hr : meth.sig.returnType = (some .int)) {n : Nat} {K : Nat → Int → Int → Int → Int → zG → Option (Int × zG)} (hK0 : ∀ (x1 : Int) (x2 : Int) (x3 : Int) (x4 : Int) (g : zG) (H : Heap) (locs : List Loc) (ls : Array Slot), zH X N g s H locs → lv_has ls 5 [(0, z_r N 6 0), (1, z_v x1), (2, z_v x2), (3, z_v x3), (4, z_v x4)] → K 0 x1 x2 x3 x4 g = some (r, g') → W p l e { frames := 1, cells := 0, slots := 0, locals := 22 } s m args below meth c H locs 0 0 (MQ below (zQi X N r g') args s 0 0 (zA X)) (F0 m 41 ls [])) {x1 : Int} {x2 : Int} {x4 : Int} {t0 : Int} {g : zG} (hw : zH X N g s H locs) (hl : lv_has ls 5 [(0, z_r N 6 0), (1, z_v x1), (2, z_v x2), (4, z_v x4)]) (h : sX5_companyIs_j77 n K x1 x2 x4 t0 g = some (r, g')) : W p l e { frames := 1, cells := 0, slots := 0, locals := 22 } s m args below meth c H locs 0 0 (MQ below (zQi X N r g') args s 0 0 (zA X)) (F0 m 77 ls [z_v t0]) := by
  have hx := hF.1.1
  have hb := hF.1.2.1
  unfold sX5_companyIs_j77 at h
  refine lv_iconst hx hb dX5_companyIs_77 rfl ?_
  exact wX5_companyIs_j78 hF hr hK0  hw (lv_sub hl [0, 1, 2, 3] rfl) h
set_option maxHeartbeats 4000000 in
set_option maxRecDepth 100000 in
theorem wX5_companyIs_h41 {p : Program} {l : Launch} {e : Env} {s : State} {m : MethodId} {args : Array Value} {below : List Frame} {meth : Method} {c : Code} {X : zC} {N : zN} {r : Int} {g' : zG} {H : Heap} {locs : List Loc} {ls : Array Slot} (hF : zF p s m args meth c X cX5_companyIs 5 RX5) (hr : meth.sig.returnType = (some .int)) {n : Nat} {K : Nat → Int → Int → Int → Int → zG → Option (Int × zG)} (hK0 : ∀ (x1 : Int) (x2 : Int) (x3 : Int) (x4 : Int) (g : zG) (H : Heap) (locs : List Loc) (ls : Array Slot), zH X N g s H locs → lv_has ls 5 [(0, z_r N 6 0), (1, z_v x1), (2, z_v x2), (3, z_v x3), (4, z_v x4)] → K 0 x1 x2 x3 x4 g = some (r, g') → W p l e { frames := 1, cells := 0, slots := 0, locals := 22 } s m args below meth c H locs 0 0 (MQ below (zQi X N r g') args s 0 0 (zA X)) (F0 m 41 ls [])) {x1 : Int} {x2 : Int} {x3 : Int} {x4 : Int} {g : zG} (hw : zH X N g s H locs) (hl : lv_has ls 5 [(0, z_r N 6 0), (1, z_v x1), (2, z_v x2), (3, z_v x3), (4, z_v x4)]) (h : sX5_companyIs_h41 n K x1 x2 x3 x4 g = some (r, g')) : W p l e { frames := 1, cells := 0, slots := 0, locals := 22 } s m args below meth c H locs 0 0 (MQ below (zQi X N r g') args s 0 0 (zA X)) (F0 m 41 ls []) := by
  have hx := hF.1.1
  have hb := hF.1.2.1
  unfold sX5_companyIs_h41 at h
  refine lv_iload hx hb dX5_companyIs_41 (lv_at hl 4 rfl) ?_
  refine lv_aload_n hx hb dX5_companyIs_43 rfl (lv_at hl 0 rfl) ?_
  refine zr_get hF hw zEf_6_0 (by decide) zC_6 1 (by decide) qw_823 rfl dX5_companyIs_44 ?_
  refine zr_icmp_ge (tgt := 86) hF h dX5_companyIs_47 (by decide) (fun h => ?_) (fun h => ?_)
  · refine lv_iload_n hx hb dX5_companyIs_86 rfl (lv_at hl 2 rfl) ?_
    refine zr_if_ne (tgt := 99) hF h dX5_companyIs_87 (by decide) (fun h => ?_) (fun h => ?_)
    · refine lv_iload_n hx hb dX5_companyIs_99 rfl (lv_at hl 2 rfl) ?_
      refine lv_iconst hx hb dX5_companyIs_100 rfl ?_
      refine zr_icmp_ne (tgt := 113) hF h dX5_companyIs_101 (by decide) (fun h => ?_) (fun h => ?_)
      · refine lv_iload_n hx hb dX5_companyIs_113 rfl (lv_at hl 3 rfl) ?_
        exact zr_iret hF hr hw h dX5_companyIs_114
      · refine lv_aload_n hx hb dX5_companyIs_104 rfl (lv_at hl 0 rfl) ?_
        refine zr_get hF hw zEf_6_0 (by decide) zC_6 22 (by decide) qw_844 rfl dX5_companyIs_105 ?_
        refine lv_iload_n hx hb dX5_companyIs_108 rfl (lv_at hl 1 rfl) ?_
        refine zr_iald hF hw zEf_39_0 (by decide) h dX5_companyIs_109 (fun h => ?_)
        refine lv_goto (tgt := 114) hx hb dX5_companyIs_110 (by decide) ?_
        exact zr_iret hF hr hw h dX5_companyIs_114
    · refine lv_aload_n hx hb dX5_companyIs_90 rfl (lv_at hl 0 rfl) ?_
      refine zr_get hF hw zEf_6_0 (by decide) zC_6 21 (by decide) qw_843 rfl dX5_companyIs_91 ?_
      refine lv_iload_n hx hb dX5_companyIs_94 rfl (lv_at hl 1 rfl) ?_
      refine zr_iald hF hw zEf_38_0 (by decide) h dX5_companyIs_95 (fun h => ?_)
      refine lv_goto (tgt := 114) hx hb dX5_companyIs_96 (by decide) ?_
      exact zr_iret hF hr hw h dX5_companyIs_114
  · refine lv_iload_n hx hb dX5_companyIs_50 rfl (lv_at hl 3 rfl) ?_
    refine lv_aload_n hx hb dX5_companyIs_51 rfl (lv_at hl 0 rfl) ?_
    refine zr_get hF hw zEf_6_0 (by decide) zC_6 2 (by decide) qw_824 rfl dX5_companyIs_52 ?_
    refine lv_iload hx hb dX5_companyIs_55 (lv_at hl 4 rfl) ?_
    refine zr_iald hF hw zEf_20_0 (by decide) h dX5_companyIs_57 (fun h => ?_)
    refine lv_iload_n hx hb dX5_companyIs_58 rfl (lv_at hl 1 rfl) ?_
    refine zr_icmp_ne (tgt := 77) hF h dX5_companyIs_59 (by decide) (fun h => ?_) (fun h => ?_)
    · exact wX5_companyIs_j77 hF hr hK0  hw (lv_sub hl [0, 1, 2, 4] rfl) h
    · refine lv_aload_n hx hb dX5_companyIs_62 rfl (lv_at hl 0 rfl) ?_
      refine zr_get hF hw zEf_6_0 (by decide) zC_6 4 (by decide) qw_826 rfl dX5_companyIs_63 ?_
      refine lv_iload hx hb dX5_companyIs_66 (lv_at hl 4 rfl) ?_
      refine zr_iald hF hw zEf_22_0 (by decide) h dX5_companyIs_68 (fun h => ?_)
      refine lv_iconst hx hb dX5_companyIs_69 rfl ?_
      refine zr_icmp_ne (tgt := 77) hF h dX5_companyIs_70 (by decide) (fun h => ?_) (fun h => ?_)
      · exact wX5_companyIs_j77 hF hr hK0  hw (lv_sub hl [0, 1, 2, 4] rfl) h
      · refine lv_iconst hx hb dX5_companyIs_73 rfl ?_
        refine lv_goto (tgt := 78) hx hb dX5_companyIs_74 (by decide) ?_
        exact wX5_companyIs_j78 hF hr hK0  hw (lv_sub hl [0, 1, 2, 4] rfl) h
set_option maxHeartbeats 4000000 in
set_option maxRecDepth 100000 in
theorem wX5_companyIs_run {p : Program} {l : Launch} {e : Env} {s : State} {m : MethodId} {args : Array Value} {below : List Frame} {meth : Method} {c : Code} {X : zC} {N : zN} {r : Int} {g' : zG} (hF : zF p s m args meth c X cX5_companyIs 5 RX5) (hr : meth.sig.returnType = (some .int)) {n0 : Nat} : ∀ n : Nat, (∀ (x1 : Int) (x2 : Int) (x3 : Int) (x4 : Int) (g : zG) (H : Heap) (locs : List Loc) (ls : Array Slot), zH X N g s H locs → lv_has ls 5 [(0, z_r N 6 0), (1, z_v x1), (2, z_v x2), (3, z_v x3), (4, z_v x4)] → sX5_companyIs_run n0 n 0 x1 x2 x3 x4 g = some (r, g') → W p l e { frames := 1, cells := 0, slots := 0, locals := 22 } s m args below meth c H locs 0 0 (MQ below (zQi X N r g') args s 0 0 (zA X)) (F0 m 41 ls [])) := by
  intro n
  induction n with
  | zero => exact fun _ _ _ _ _ _ _ _ _ _  h => (by cases h)
  | succ n ih => exact fun x1 x2 x3 x4 g H locs ls  hw hl h => wX5_companyIs_h41 hF hr ih  hw hl h
set_option maxHeartbeats 4000000 in
set_option maxRecDepth 100000 in
theorem czX5_companyIs (l : Launch) (X : zC) (N : zN) {n : Nat} {x1 : Int} {x2 : Int} {g g' : zG} {r : Int} (h : sX5_companyIs n x1 x2 g = some (r, g')) : zM l yX5_companyIs cX5_companyIs 5 (some .int) { frames := 1, cells := 0, slots := 0, locals := 22 } X N g [z_r N 6 0, z_v x1, z_v x2] (zQi X N r g') := by
  refine z_ofW (own := RX5) (by decide +kernel) rfl (Nat.le_of_ble_eq_true rfl) ?_
  intro p e s m args below meth c ls hF hr hw hl
  have hl : lv_has ls 5 [(0, z_r N 6 0), (1, z_v x1), (2, z_v x2)] := hl
  have hx := hF.1.1
  have hb := hF.1.2.1
  have hKK := wX5_companyIs_run hF hr (r := r) (g' := g') (X := X) (N := N) (n0 := n) (l := l) (e := e) (below := below) n
  have hK0 := hKK
  unfold sX5_companyIs at h
  generalize s.heap = H at hw ⊢
  generalize ([] : List Loc) = locs at hw ⊢
  refine lv_aload_n hx hb dX5_companyIs_0 rfl (lv_at hl 0 rfl) ?_
  refine lv_iload_n hx hb dX5_companyIs_1 rfl (lv_at hl 1 rfl) ?_
  refine lv_iconst hx hb dX5_companyIs_2 rfl ?_
  refine lv_iconst hx hb dX5_companyIs_3 rfl ?_
  obtain ⟨r1, g1, h1, h⟩ := zbd_some h
  refine zr_callSi (n := 3) (As := [z_v x1, z_v 0, z_v 3]) (rest := [z_r N 6 0]) hF hw (czX5_isIn l X N h1) (z_goodS qw_922 qw_923 qw_42 qw_924) (by decide +kernel) ⟨Nat.le_of_ble_eq_true rfl, Nat.le_of_ble_eq_true rfl⟩ ⟨rfl, rfl⟩ rfl hl.1 rfl (Nat.le_of_ble_eq_true rfl) dX5_companyIs_4 ⟨Nat.le_of_ble_eq_true rfl, Nat.le_of_ble_eq_true rfl⟩ (fun H locs hw => ?_)
  clear h1
  generalize g1 = g at *
  refine zr_if_ne (tgt := 14) hF h dX5_companyIs_7 (by decide) (fun h => ?_) (fun h => ?_)
  · refine lv_iload_n hx hb dX5_companyIs_14 rfl (lv_at hl 2 rfl) ?_
    refine lv_iconst hx hb dX5_companyIs_15 rfl ?_
    refine lv_iconst hx hb dX5_companyIs_16 rfl ?_
    obtain ⟨r2, g1, h1, h⟩ := zbd_some h
    refine zr_callSi (n := 3) (As := [z_v x2, z_v 0, z_v 2]) (rest := [z_r N 6 0]) hF hw (czX5_isIn l X N h1) (z_goodS qw_922 qw_923 qw_42 qw_924) (by decide +kernel) ⟨Nat.le_of_ble_eq_true rfl, Nat.le_of_ble_eq_true rfl⟩ ⟨rfl, rfl⟩ rfl hl.1 rfl (Nat.le_of_ble_eq_true rfl) dX5_companyIs_17 ⟨Nat.le_of_ble_eq_true rfl, Nat.le_of_ble_eq_true rfl⟩ (fun H locs hw => ?_)
    clear h1
    generalize g1 = g at *
    refine zr_if_eq (tgt := 27) hF h dX5_companyIs_20 (by decide) (fun h => ?_) (fun h => ?_)
    · refine lv_iconst hx hb dX5_companyIs_27 rfl ?_
      exact wX5_companyIs_j28 hF hr hK0  hw (lv_sub hl [0, 1, 2] rfl) h
    · refine lv_iconst hx hb dX5_companyIs_23 rfl ?_
      refine lv_goto (tgt := 28) hx hb dX5_companyIs_24 (by decide) ?_
      exact wX5_companyIs_j28 hF hr hK0  hw (lv_sub hl [0, 1, 2] rfl) h
  · refine lv_iconst hx hb dX5_companyIs_10 rfl ?_
    refine lv_goto (tgt := 28) hx hb dX5_companyIs_11 (by decide) ?_
    exact wX5_companyIs_j28 hF hr hK0  hw (lv_sub hl [0, 1, 2] rfl) h

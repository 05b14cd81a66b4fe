/-! telling: rates, ends, exemptions, entries -/
section BAD
variable {L : List Nat} {A : Option ((Nat × Int) × zG)} {B : zG → Option (Int × zG)} {c F R : Nat} {g : zG}
theorem u_bad (hI : INV g F R) (hRf : REF g g F R) (hA : A = some ((c + 1, 0), g)) (hL : L[0]? = some (c + 1) ∨ L[1]? = some (c + 1) ∨ L[2]? = some (c + 1)) (hB : ∀ g1, KS R g g1 → REF g1 g F R → zT (B g1) (fun _ g2 => g2 = zup g1 6 0 0 (uPos L (c + 1)))) :
    ∃ g', zbd (zbc L A (fun r1 g => zri r1 (zix 0 1 (zst g 17 0 (0 : Int).toNat r1 (fun g => some (0, g)))))) (fun r1 g => zbd (B g) (fun r2 g => zbd (sX5_thrown g) (fun r3 g => zeq r3 r1 (zeq r1 0 (zix 0 1 (zri r2 (zri (g 17 0 (0 : Int).toNat) (zri r2 (zeq (zcm (g 17 0 (0 : Int).toNat) r2) 0 (some g) (none)))))) (some g)) (none)))) = some g' ∧ REL g' :=
  z_cmp (O := (c + 1, 0)) (P1 := fun g1 => KS R g g1) ⟨_, _, hA, rfl, KS.rf⟩ (Or.inr hL) (fun z => by cases z) (fun _ _ h => h.sk (Or.inl rfl)) (fun g1 h => zT_mono (hB g1 h (hRf.l h)) (fun r g2 e => by
    subst e
    exact ⟨u600, (fun z => by cases z), by simp [zup_rd], REL.ks hI hRf (h.sk (Or.inr ⟨rfl, rfl⟩))⟩))
theorem u_badv (hI : INV g F R) (hRf : REF g g F R) (hA : A = some ((c + 1, 0), g)) (hL : L[0]? = some (c + 1) ∨ L[1]? = some (c + 1) ∨ L[2]? = some (c + 1)) (hB : ∀ g1, KS R g g1 → REF g1 g F R → zT (B g1) (fun _ g2 => g2 = zup g1 6 0 0 (uPos L (c + 1)))) :
    ∃ g', zbd (zbc L A (fun _ g => some (0, g))) (fun r1 g => zbd (B g) (fun _ g => zbd (sX5_thrown g) (fun r3 g => zeq r3 r1 (some g) (none)))) = some g' ∧ REL g' :=
  z_cmpv (O := (c + 1, 0)) (P1 := fun g1 => KS R g g1) ⟨_, _, hA, rfl, KS.rf⟩ (Or.inr hL) (fun g1 h => zT_mono (hB g1 h (hRf.l h)) (fun r g2 e => by
    subst e
    exact ⟨u600, REL.ks hI hRf (h.sk (Or.inr ⟨rfl, rfl⟩))⟩))
theorem u_badb (hI : INV g F R) (hRf : REF g g F R) (hA : A = some ((c + 1, 0), g)) (hL : L[0]? = some (c + 1) ∨ L[1]? = some (c + 1) ∨ L[2]? = some (c + 1)) (hB : ∀ g1, KS R g g1 → REF g1 g F R → zT (B g1) (fun _ g2 => g2 = zup g1 6 0 0 (uPos L (c + 1)))) :
    ∃ g', zbd (zbc L A (fun r1 g => zeq r1 0 (zix 0 1 (zst g 17 0 (0 : Int).toNat 0 (fun g => some (0, g)))) (zix 0 1 (zst g 17 0 (0 : Int).toNat 1 (fun g => some (0, g)))))) (fun r1 g => zbd (B g) (fun r2 g => zbd (sX5_thrown g) (fun r3 g => zeq r3 r1 (zeq r1 0 (zix 0 1 (zeq r2 0 (zri (g 17 0 (0 : Int).toNat) (zri 0 (zeq (zcm (g 17 0 (0 : Int).toNat) 0) 0 (some g) (none)))) (zri (g 17 0 (0 : Int).toNat) (zri 1 (zeq (zcm (g 17 0 (0 : Int).toNat) 1) 0 (some g) (none)))))) (some g)) (none)))) = some g' ∧ REL g' :=
  z_cmpb (O := (c + 1, 0)) (P1 := fun g1 => KS R g g1) ⟨_, _, hA, rfl, KS.rf⟩ (Or.inr hL) (fun z => by cases z) (fun _ _ h => h.sk (Or.inl rfl)) (fun g1 h => zT_mono (hB g1 h (hRf.l h)) (fun r g2 e => by
    subst e
    exact ⟨u600, (fun z => by cases z), by simp [zup_rd], REL.ks hI hRf (h.sk (Or.inr ⟨rfl, rfl⟩))⟩))
end BAD
theorem zup_id {g : zG} {k i p : Nat} : zup g k i p (g k i p) = g := by
  funext a b c
  rw [zup_rd]
  split
  · rename_i z
    rw [z.1, z.2.1, z.2.2]
  · rfl
/-- one regulation is changed, on both sides -/
theorem REL.rg {F R r : Nat} {g g' : zG} (hI : INV g F R) (hRf : REF g g F R) (hr : r < R)
    (hfr : ∀ a j p, ¬ ((a = 5 ∧ j = r ∧ (p = 3 ∨ p = 4)) ∨ ((a = 35 ∨ a = 37) ∧ j = 0 ∧ p = r)) → g' a j p = g a j p) (hok : rgok g' r) (h35 : g' 35 0 r = g' 5 r 3) (h37 : g' 37 0 r = g' 5 r 4) : INV g' F R ∧ REF g' g' F R := by
  obtain ⟨i1, i2, i3⟩ := hI
  obtain ⟨a1, a2, a3, a4, a5, a6⟩ := hRf
  have cf : CF g g' := fun a j p q => hfr a j p (by omega)
  refine ⟨⟨i1.cf cf, ⟨by rw [hfr 1 1 2 (by omega)]; exact i2.1, i2.2.1, fun q hq => ?_⟩, fun j hj => ?_⟩, ⟨⟨by rw [hfr 6 0 1 (by omega), a1.1], fun j hj => ?_⟩, ⟨by rw [hfr 6 0 14 (by omega), a2.1], fun q hq => ?_⟩, fun j h1 h2 => ?_, fun q h1 h2 => ?_, fun q hq => ?_, fun c hc => ?_⟩⟩
  · by_cases c : q = r
    · rw [c]; exact hok
    · have z := i2.2.2 q hq
      unfold rgok at z ⊢
      rw [hfr 5 q 0 (by omega), hfr 5 q 1 (by omega), hfr 5 q 2 (by omega), hfr 5 q 3 (by omega), hfr 5 q 4 (by omega)]
      exact z
  · have q := i3 j hj
    unfold sok at q ⊢
    rw [cf.f (k := j) (p := 1) (by decide), cf.f (k := j) (p := 2) (by decide), cf.f (k := j) (p := 3) (by decide), cf.f (k := j) (p := 4) (by decide), cf.f (k := j) (p := 5) (by decide), hfr 5 _ 0 (by omega), cf.b]
    exact q
  · have q := a1.2 j hj
    rw [hfr 20 0 j (by omega), hfr 21 0 j (by omega), hfr 22 0 j (by omega), hfr 23 0 j (by omega), hfr 24 0 j (by omega), hfr 25 0 j (by omega), hfr 26 0 j (by omega), hfr 27 0 j (by omega), hfr 28 0 j (by omega), hfr 29 0 j (by omega)]
    rw [cf.f (k := j) (p := 0) (by decide), cf.f (k := j) (p := 1) (by decide), cf.f (k := j) (p := 2) (by decide), cf.f (k := j) (p := 3) (by decide), cf.f (k := j) (p := 4) (by decide), cf.f (k := j) (p := 5) (by decide), cf.f (k := j) (p := 6) (by decide), cf.f (k := j) (p := 7) (by decide), cf.f (k := j) (p := 8) (by decide), cf.f (k := j) (p := 9) (by decide)]
    refine ⟨q.1, fun s h1 h2 => ?_⟩
    rw [hfr 14 j s.toNat (by omega), hfr 15 j s.toNat (by omega), hfr 30 0 _ (by omega), hfr 31 0 _ (by omega)]
    exact q.2 s h1 h2
  · have z := a2.2 q hq
    by_cases c : q = r
    · rw [c] at z ⊢
      unfold RREF at z ⊢
      rw [h35, h37, hfr 32 0 r (by omega), hfr 33 0 r (by omega), hfr 34 0 r (by omega), hfr 5 r 0 (by omega), hfr 5 r 1 (by omega), hfr 5 r 2 (by omega)]
      exact ⟨z.1, z.2.1, z.2.2.1, rfl, rfl⟩
    · unfold RREF at z ⊢
      rw [hfr 5 q 0 (by omega), hfr 5 q 1 (by omega), hfr 5 q 2 (by omega), hfr 5 q 3 (by omega), hfr 5 q 4 (by omega), hfr 32 0 q (by omega), hfr 33 0 q (by omega), hfr 34 0 q (by omega), hfr 35 0 q (by omega), hfr 37 0 q (by omega)]
      exact z
  · have q := a3 j h1 h2
    rw [hfr 22 0 j (by omega), hfr 26 0 j (by omega), hfr 28 0 j (by omega), hfr 29 0 j (by omega)]
    refine ⟨q.1, fun s h3 h4 => ?_⟩
    rw [hfr 31 0 _ (by omega)]
    exact q.2 s h3 h4
  · rw [hfr 37 0 q (by omega)]
    exact a4 q h1 h2
  · rw [hfr 36 0 q (by omega), a5 q hq]
    exact uSum_congr (fun k _ => (uCh_cf cf).symm)
  · obtain ⟨p1, p2⟩ := a6 c hc
    rw [hfr 38 0 c (by omega), hfr 39 0 c (by omega), p1, p2]
    exact ⟨uSum_congr (fun k _ => (uCo_cf cf).symm), uSum_congr (fun k _ => (uCo_cf cf).symm)⟩
section TELL
variable {g : zG} {a1 a2 a3 a4 : Int}
theorem case10 (hr : REL g) (h1 : zIn a1) (h2 : zIn a2) : ∃ g', sLc10 4000 a1 a2 a3 a4 g = some g' ∧ REL g' := by
  obtain ⟨F, R, hI, hRf⟩ := hr
  have hR6 := hI.2.1.2.1
  unfold sLc10 sL_rate
  have e1 := e_regulationAt hI.2.1.1 hR6 h1
  by_cases c1 : 0 ≤ a1 ∧ a1 < (R : Int)
  · rw [if_pos c1] at e1
    obtain ⟨r, rfl⟩ : ∃ r : Nat, a1 = (r : Int) := ⟨a1.toNat, by omega⟩
    have hrR : r < R := by omega
    have hrg := hI.2.1.2.2 r hrR
    have hrg2 := hrg
    unfold rgok at hrg2
    have e2 := e_checkRange (g := g) (x := a2) (a := 0) (b := 60) h2 (by decide) (by decide)
    by_cases c2 : 0 ≤ a2 ∧ a2 ≤ 60
    · rw [if_pos c2] at e2
      have e3 := e_checkNotEnded hrg
      by_cases c3 : g 5 r 4 = 0
      · rw [if_pos c3] at e3
        refine z_cmp (O := (0, g 5 r 3)) (P1 := fun g1 => KS R (zup g 5 r 3 a2) g1) ?_ (Or.inl rfl) (fun _ => ⟨by show -2147483648 ≤ g 5 r 3; omega, by show g 5 r 3 ≤ 2147483647; omega⟩) (fun _ _ h => h.sk (Or.inl rfl)) (fun g1 h => ?_)
        · unfold sX4_rate
          refine zT_bxe e1 (zT_bxe e2 ?_)
          rw [Int.toNat_natCast]
          exact zT_bxe e3 (zT_let (zT_st (zT_some ⟨rfl, KS.rf⟩)))
        · have hf : REF g1 g F R := (hRf.rows (g' := zup g 5 r 3 a2) (fun k j p q => by rw [zup_rd, if_neg (by omega)])).l h
          obtain ⟨b0, b1, b2, b3, b4⟩ := hf.2.1.2 r hrR
          unfold sX5_rate sX5_rate_j43
          refine zT_bde (f_isRegulation hf.2.1.1 hR6 h1) ?_
          rw [if_pos c1]
          refine zT_eqF (by omega) (zT_bde (f_isIn h2 (by decide) (by decide)) ?_)
          rw [if_pos c2]
          refine zT_eqF (by omega) (zT_ix (by omega) ?_)
          rw [Int.toNat_natCast]
          refine zT_eqT (by omega) (zT_holds (by decide) ?_)
          rw [if_pos rfl]
          refine zT_eqF (by omega) (zT_ix (by omega) (zT_let (zT_ix (by omega) (zT_st (zT_some ⟨?_, fun _ => ?_, ?_, ?_⟩)))))
          · simp [zup_rd, uPos]
          · simp [zup_rd]
            exact b3
          · simp [zup_rd]
          · obtain ⟨x1, x2⟩ := REL.rg (g' := zup (zup g 5 r 3 a2) 35 0 r a2) hI hRf hrR (fun a j p q => by rw [zup_rd, if_neg (by omega), zup_rd, if_neg (by omega)]) (by unfold rgok; simp [zup_rd]; omega) (by simp [zup_rd]) (by simp [zup_rd]; rw [(hRf.2.1.2 r hrR).2.2.2.2])
            exact REL.ks x1 x2 (KS.up (h.sk (Or.inr ⟨rfl, rfl⟩)))
      · rw [if_neg c3] at e3
        refine u_bad (c := 2) hI hRf (zT_eqn ?_) (Or.inr (Or.inr rfl)) (fun g1 h hf => ?_)
        · unfold sX4_rate
          refine zT_bxe e1 (zT_bxe e2 ?_)
          rw [Int.toNat_natCast]
          exact zT_bxt e3 ⟨rfl, rfl⟩
        · obtain ⟨b0, b1, b2, b3, b4⟩ := hf.2.1.2 r hrR
          unfold sX5_rate sX5_rate_j43
          refine zT_bde (f_isRegulation hf.2.1.1 hR6 h1) ?_
          rw [if_pos c1]
          refine zT_eqF (by omega) (zT_bde (f_isIn h2 (by decide) (by decide)) ?_)
          rw [if_pos c2]
          refine zT_eqF (by omega) (zT_ix (by omega) ?_)
          rw [Int.toNat_natCast]
          exact zT_eqF (by omega) (zT_holds (by decide) (zT_eqT (by decide) (zT_some rfl)))
    · rw [if_neg c2] at e2
      refine u_bad (c := 1) hI hRf (zT_eqn ?_) (Or.inr (Or.inl rfl)) (fun g1 h hf => ?_)
      · unfold sX4_rate
        exact zT_bxe e1 (zT_bxt e2 ⟨rfl, rfl⟩)
      · unfold sX5_rate sX5_rate_j43
        refine zT_bde (f_isRegulation hf.2.1.1 hR6 h1) ?_
        rw [if_pos c1]
        refine zT_eqF (by omega) (zT_bde (f_isIn h2 (by decide) (by decide)) ?_)
        rw [if_neg c2]
        exact zT_eqT (by omega) (zT_holds (by decide) (zT_eqT (by decide) (zT_some rfl)))
  · rw [if_neg c1] at e1
    refine u_bad (c := 0) hI hRf (zT_eqn ?_) (Or.inl rfl) (fun g1 h hf => ?_)
    · unfold sX4_rate
      exact zT_bxt e1 ⟨rfl, rfl⟩
    · unfold sX5_rate sX5_rate_j43
      refine zT_bde (f_isRegulation hf.2.1.1 hR6 h1) ?_
      rw [if_neg c1]
      exact zT_eqT (by omega) (zT_holds (by decide) (zT_eqT (by decide) (zT_some rfl)))
theorem case11 (hr : REL g) (h1 : zIn a1) : ∃ g', sLc11 4000 a1 a2 a3 a4 g = some g' ∧ REL g' := by
  obtain ⟨F, R, hI, hRf⟩ := hr
  have hR6 := hI.2.1.2.1
  unfold sLc11 sL_end
  have e1 := e_regulationAt hI.2.1.1 hR6 h1
  by_cases c1 : 0 ≤ a1 ∧ a1 < (R : Int)
  · rw [if_pos c1] at e1
    obtain ⟨r, rfl⟩ : ∃ r : Nat, a1 = (r : Int) := ⟨a1.toNat, by omega⟩
    have hrR : r < R := by omega
    have hrg := hI.2.1.2.2 r hrR
    have hrg2 := hrg
    unfold rgok at hrg2
    have e3 := e_checkNotEnded hrg
    by_cases c3 : g 5 r 4 = 0
    · rw [if_pos c3] at e3
      refine z_cmpv (O := (0, 0)) (P1 := fun g1 => KS R (zup g 5 r 4 1) g1) ?_ (Or.inl rfl) (fun g1 h => ?_)
      · unfold sX4_end
        refine zT_bxe e1 ?_
        rw [Int.toNat_natCast]
        exact zT_bxe e3 (zT_bo (by omega) (zT_st (zT_some ⟨rfl, KS.rf⟩)))
      · have hf : REF g1 g F R := (hRf.rows (g' := zup g 5 r 4 1) (fun k j p q => by rw [zup_rd, if_neg (by omega)])).l h
        obtain ⟨b0, b1, b2, b3, b4⟩ := hf.2.1.2 r hrR
        unfold sX5_end sX5_end_j29
        refine zT_bde (f_isRegulation hf.2.1.1 hR6 h1) ?_
        rw [if_pos c1]
        refine zT_eqF (by omega) (zT_ix (by omega) ?_)
        rw [Int.toNat_natCast]
        refine zT_eqT (by omega) (zT_holds (by decide) ?_)
        rw [if_pos rfl]
        refine zT_eqF (by omega) (zT_bo (by omega) (zT_ix (by omega) (zT_st (zT_some ⟨?_, ?_⟩))))
        · simp [zup_rd, uPos]
        · obtain ⟨x1, x2⟩ := REL.rg (g' := zup (zup g 5 r 4 1) 37 0 r 1) hI hRf hrR (fun a j p q => by rw [zup_rd, if_neg (by omega), zup_rd, if_neg (by omega)]) (by unfold rgok; simp [zup_rd]; omega) (by simp [zup_rd]; rw [(hRf.2.1.2 r hrR).2.2.2.1]) (by simp [zup_rd])
          exact REL.ks x1 x2 (KS.up (h.sk (Or.inr ⟨rfl, rfl⟩)))
    · rw [if_neg c3] at e3
      refine u_badv (c := 2) hI hRf (zT_eqn ?_) (Or.inr (Or.inl rfl)) (fun g1 h hf => ?_)
      · unfold sX4_end
        refine zT_bxe e1 ?_
        rw [Int.toNat_natCast]
        exact zT_bxt e3 ⟨rfl, rfl⟩
      · obtain ⟨b0, b1, b2, b3, b4⟩ := hf.2.1.2 r hrR
        unfold sX5_end sX5_end_j29
        refine zT_bde (f_isRegulation hf.2.1.1 hR6 h1) ?_
        rw [if_pos c1]
        refine zT_eqF (by omega) (zT_ix (by omega) ?_)
        rw [Int.toNat_natCast]
        exact zT_eqF (by omega) (zT_holds (by decide) (zT_eqT (by decide) (zT_some rfl)))
  · rw [if_neg c1] at e1
    refine u_badv (c := 0) hI hRf (zT_eqn ?_) (Or.inl rfl) (fun g1 h hf => ?_)
    · unfold sX4_end
      exact zT_bxt e1 ⟨rfl, rfl⟩
    · unfold sX5_end sX5_end_j29
      refine zT_bde (f_isRegulation hf.2.1.1 hR6 h1) ?_
      rw [if_neg c1]
      exact zT_eqT (by omega) (zT_holds (by decide) (zT_eqT (by decide) (zT_some rfl)))
/-- an exemption: of one kind -/
theorem case2b {b : Int} (hb : b = 0 ∨ b = 1) (hr : REL g) (h1 : zIn a1) : ∃ g', zbd (zbc [1, 3] (sX4_exempt a1 b g) (fun r1 g => zeq r1 0 (zix 0 1 (zst g 17 0 (0 : Int).toNat 0 (fun g => some (0, g)))) (zix 0 1 (zst g 17 0 (0 : Int).toNat 1 (fun g => some (0, g)))))) (fun r1 g => zbd (sX5_exempt a1 b g) (fun r2 g => zbd (sX5_thrown g) (fun r3 g => zeq r3 r1 (zeq r1 0 (zix 0 1 (zeq r2 0 (zri (g 17 0 (0 : Int).toNat) (zri 0 (zeq (zcm (g 17 0 (0 : Int).toNat) 0) 0 (some g) (none)))) (zri (g 17 0 (0 : Int).toNat) (zri 1 (zeq (zcm (g 17 0 (0 : Int).toNat) 1) 0 (some g) (none)))))) (some g)) (none)))) = some g' ∧ REL g' := by
  obtain ⟨F, R, hI, hRf⟩ := hr
  have h24 := hI.1.2.1
  have e1 := e_flightAt hI.1 h1
  by_cases c1 : 0 ≤ a1 ∧ a1 < (F : Int)
  · rw [if_pos c1] at e1
    obtain ⟨k, rfl⟩ : ∃ k : Nat, a1 = (k : Int) := ⟨a1.toNat, by omega⟩
    have hkF : k < F := by omega
    obtain ⟨hf0, hb0⟩ := hI.1.2.2 k hkF
    have hs0 := hI.2.2 k hkF
    have hf2 := hf0
    unfold flok at hf2
    by_cases c2 : g 4 k 2 = 0
    · have hq : ∀ gc : zG, (gc = zup g 4 k 3 b ∨ gc = zup (zup (zup g 4 k 3 b) 4 k 4 (-1)) 4 k 5 (-1)) → ∀ kk j p, (kk = 6 ∨ 20 ≤ kk) → gc kk j p = g kk j p := by
        rintro gc (rfl | rfl) kk j p q
        · rw [zup_rd, if_neg (by omega)]
        · rw [zup_rd, if_neg (by omega), zup_rd, if_neg (by omega), zup_rd, if_neg (by omega)]
      have hrow0 := (hRf.1.2 k hkF)
      rcases hb with rfl | rfl
      · refine z_cmpb (O := (0, g 4 k 3)) (P1 := fun g1 => KS R (zup g 4 k 3 0) g1) ?_ (Or.inl rfl) (fun _ => by show g 4 k 3 = 0 ∨ g 4 k 3 = 1; omega) (fun _ _ h => h.sk (Or.inl rfl)) (fun g1 h => ?_)
        · unfold sX4_exempt
          refine zT_bxe e1 ?_
          rw [Int.toNat_natCast]
          refine zT_eqT (by omega) (zT_let (zT_bo (by omega) (zT_st (zT_eqT (by decide) (zT_bo (by omega) (zT_some ⟨rfl, KS.rf⟩))))))
        · have hf : REF g1 g F R := (hRf.rows (hq _ (Or.inl rfl))).l h
          obtain ⟨b0, b1, b2, b3, b4, b5, b6, b7, b8, b9⟩ := (hf.1.2 k hkF).1
          unfold sX5_exempt sX5_exempt_j29 sX5_exempt_j71 sX5_exempt_j91
          refine zT_bde (f_isFlight hf.1.1 h24 h1) ?_
          rw [if_pos c1]
          refine zT_eqF (by omega) (zT_ix (by omega) ?_)
          simp only [Int.toNat_natCast]
          refine zT_eqT (by omega) (zT_holds (by decide) ?_)
          rw [if_pos rfl]
          refine zT_eqF (by omega) (zT_ix (by omega) (zT_let (zT_bo (by omega) (zT_ix (by omega) (zT_st (zT_eqT (by decide) (zT_ix (by omega) (zT_ix (by omega) (zT_st (zT_eqT (by decide) (zT_ix (by omega) (zT_ix (by omega) (zT_st (zT_bo ?_ (zT_some ⟨?_, fun _ => ?_, ?_, ?_⟩)))))))))))))))
          · simp [zup_rd]; omega
          · simp [zup_rd, uPos]
          · simp [zup_rd]; exact b9
          · simp [zup_rd]
          · obtain ⟨x1, x2⟩ := REL.fl (g' := zup (zup g 4 k 3 0) 29 0 k 0) hI hRf hkF (fun a j p q => by rw [zup_rd, if_neg (by omega), zup_rd, if_neg (by omega)]) (by unfold flok; simp [zup_rd]; omega) (fun s q1 q2 => by simp [zup_rd]; exact hb0 s q1 q2) (by
              unfold sok uB at hs0 ⊢
              simp [zup_rd]
              exact hs0.1) (by
              unfold FRw
              simp [zup_rd]
              obtain ⟨d1, d2⟩ := hrow0
              exact ⟨⟨d1.1, d1.2.1, d1.2.2.1, d1.2.2.2.1, d1.2.2.2.2.1, d1.2.2.2.2.2.1, d1.2.2.2.2.2.2.1, d1.2.2.2.2.2.2.2.1, d1.2.2.2.2.2.2.2.2.1⟩, d2⟩) (fun r _ => by
              rw [uCh_wait (g := g) (by omega), uCh_wait (by simp [zup_rd]; omega)]
              simp [zup_rd]) (fun c _ => by
              rw [uCo_wait (g := g) (by omega) (Or.inl rfl), uCo_wait (g := g) (by omega) (Or.inr rfl), uCo_wait (by simp [zup_rd]; omega) (Or.inl rfl), uCo_wait (by simp [zup_rd]; omega) (Or.inr rfl)]
              simp [zup_rd])
            rw [zup_id, zup_id]
            exact REL.ks x1 x2 (KS.up (h.sk (Or.inr ⟨rfl, rfl⟩)))
      · refine z_cmpb (O := (0, g 4 k 3)) (P1 := fun g1 => KS R (zup (zup (zup g 4 k 3 1) 4 k 4 (-1)) 4 k 5 (-1)) g1) ?_ (Or.inl rfl) (fun _ => by show g 4 k 3 = 0 ∨ g 4 k 3 = 1; omega) (fun _ _ h => h.sk (Or.inl rfl)) (fun g1 h => ?_)
        · unfold sX4_exempt
          refine zT_bxe e1 ?_
          rw [Int.toNat_natCast]
          refine zT_eqT (by omega) (zT_let (zT_bo (by omega) (zT_st (zT_eqF (by decide) (zT_bde e_loseSlotTime (zT_bo (by omega) (zT_some ⟨rfl, KS.rf⟩)))))))
        · have hf : REF g1 g F R := (hRf.rows (hq _ (Or.inr rfl))).l h
          obtain ⟨b0, b1, b2, b3, b4, b5, b6, b7, b8, b9⟩ := (hf.1.2 k hkF).1
          unfold sX5_exempt sX5_exempt_j29 sX5_exempt_j71 sX5_exempt_j91
          refine zT_bde (f_isFlight hf.1.1 h24 h1) ?_
          rw [if_pos c1]
          refine zT_eqF (by omega) (zT_ix (by omega) ?_)
          simp only [Int.toNat_natCast]
          refine zT_eqT (by omega) (zT_holds (by decide) ?_)
          rw [if_pos rfl]
          refine zT_eqF (by omega) (zT_ix (by omega) (zT_let (zT_bo (by omega) (zT_ix (by omega) (zT_st (zT_eqF (by decide) (zT_ix (by omega) (zT_st (zT_eqF (by decide) (zT_ix (by omega) (zT_st (zT_bo ?_ (zT_some ⟨?_, fun _ => ?_, ?_, ?_⟩)))))))))))))
          · simp [zup_rd]; omega
          · simp [zup_rd, uPos]
          · simp [zup_rd]; exact b9
          · simp [zup_rd]
          · obtain ⟨x1, x2⟩ := REL.fl (g' := zup (zup (zup (zup (zup (zup g 4 k 3 1) 4 k 4 (-1)) 4 k 5 (-1)) 29 0 k 1) 24 0 k (-1)) 25 0 k (-1)) hI hRf hkF (fun a j p q => by rw [zup_rd, if_neg (by omega), zup_rd, if_neg (by omega), zup_rd, if_neg (by omega), zup_rd, if_neg (by omega), zup_rd, if_neg (by omega), zup_rd, if_neg (by omega)]) (by unfold flok; simp [zup_rd]; omega) (fun s q1 q2 => by simp [zup_rd]; exact hb0 s q1 q2) (by
              unfold sok
              simp [zup_rd]) (by
              unfold FRw
              simp [zup_rd]
              obtain ⟨d1, d2⟩ := hrow0
              exact ⟨⟨d1.1, d1.2.1, d1.2.2.1, d1.2.2.2.1, d1.2.2.2.2.2.2.1, d1.2.2.2.2.2.2.2.1, d1.2.2.2.2.2.2.2.2.1⟩, d2⟩) (fun r _ => by
              rw [uCh_wait (g := g) (by omega), uCh_wait (by simp [zup_rd]; omega)]
              simp [zup_rd]) (fun c _ => by
              rw [uCo_wait (g := g) (by omega) (Or.inl rfl), uCo_wait (g := g) (by omega) (Or.inr rfl), uCo_wait (by simp [zup_rd]; omega) (Or.inl rfl), uCo_wait (by simp [zup_rd]; omega) (Or.inr rfl)]
              simp [zup_rd])
            exact REL.ks x1 x2 (KS.up (KS.up (KS.up (h.sk (Or.inr ⟨rfl, rfl⟩)))))
    · refine u_badb (c := 2) hI hRf (zT_eqn ?_) (Or.inr (Or.inl rfl)) (fun g1 h hf => ?_)
      · unfold sX4_exempt
        refine zT_bxe e1 ?_
        rw [Int.toNat_natCast]
        exact zT_eqF (by omega) (zT_some ⟨rfl, rfl⟩)
      · obtain ⟨b0, b1, b2, -⟩ := (hf.1.2 k hkF).1
        unfold sX5_exempt sX5_exempt_j29
        refine zT_bde (f_isFlight hf.1.1 h24 h1) ?_
        rw [if_pos c1]
        refine zT_eqF (by omega) (zT_ix (by omega) ?_)
        rw [Int.toNat_natCast]
        exact zT_eqF (by omega) (zT_holds (by decide) (zT_eqT (by decide) (zT_bo (by omega) (zT_some rfl))))
  · rw [if_neg c1] at e1
    refine u_badb (c := 0) hI hRf (zT_eqn ?_) (Or.inl rfl) (fun g1 h hf => ?_)
    · unfold sX4_exempt
      exact zT_bxt e1 ⟨rfl, rfl⟩
    · unfold sX5_exempt sX5_exempt_j29
      refine zT_bde (f_isFlight hf.1.1 h24 h1) ?_
      rw [if_neg c1]
      exact zT_eqT (by omega) (zT_holds (by decide) (zT_eqT (by decide) (zT_bo (by omega) (zT_some rfl))))
theorem case2 (hr : REL g) (h1 : zIn a1) (h2 : zIn a2) : ∃ g', sLc2 4000 a1 a2 a3 a4 g = some g' ∧ REL g' := by
  unfold sLc2
  by_cases c : a2 = 0
  · have e0 : ∀ {α : Type} (x y : Option α), zeq a2 0 x y = x := fun x y => by unfold zeq; rw [if_pos ⟨h2, by decide⟩, if_pos c]
    simp only [e0]
    exact case2b (Or.inl rfl) hr h1
  · have e0 : ∀ {α : Type} (x y : Option α), zeq a2 0 x y = y := fun x y => by unfold zeq; rw [if_pos ⟨h2, by decide⟩, if_neg c]
    simp only [e0]
    exact case2b (Or.inr rfl) hr h1
end TELL

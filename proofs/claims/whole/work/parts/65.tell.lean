/-! the cases that tell: one flight, or one regulation -/
def FRw (h v : zG) (k : Nat) : Prop := (h 20 0 k = v 4 k 0 ∧ h 21 0 k = v 4 k 1 ∧ h 22 0 k = v 4 k 2 ∧ (v 4 k 2 = 1 → h 23 0 k = v 4 k 6) ∧ h 24 0 k = v 4 k 4 ∧ h 25 0 k = v 4 k 5 ∧ h 26 0 k = v 4 k 8 ∧ h 27 0 k = v 4 k 9 ∧ h 28 0 k = v 4 k 7 ∧ h 29 0 k = v 4 k 3) ∧ ∀ s : Int, 0 ≤ s → s < 6 → h 30 0 (6 * (k : Int) + s).toNat = v 14 k s.toNat ∧ h 31 0 (6 * (k : Int) + s).toNat = v 15 k s.toNat
section KU
variable {R : Nat} {g g' : zG}
theorem KS.up (h : KS R g g') {k j p : Nat} {x : Int} : KS R (zup g k j p x) (zup g' k j p x) := by
  intro a b c q
  rw [zup_rd, zup_rd, h a b c q]
theorem KS.sk (h : KS R g g') {k j p : Nat} {x : Int} (hn : (k = 17 ∨ (k = 6 ∧ p = 0))) : KS R g (zup g' k j p x) := by
  intro a b c q
  rw [zup_rd, if_neg (by omega)]
  exact h a b c q
theorem REF.rows {v : zG} {F : Nat} (a : REF g v F R) (h : ∀ k j p, (k = 6 ∨ 20 ≤ k) → g' k j p = g k j p) : REF g' v F R := by
  obtain ⟨a1, a2, a3, a4, a5, a6⟩ := a
  refine ⟨⟨?_, fun k hk => ?_⟩, ⟨?_, fun r hr => ?_⟩, fun k h1 h2 => ?_, fun r h1 h2 => ?_, fun r hr => ?_, fun c hc => ?_⟩
  · rw [h 6 0 1 (by omega)]; exact a1.1
  · have q := a1.2 k hk
    rw [h 20 0 k (by omega), h 21 0 k (by omega), h 22 0 k (by omega), h 23 0 k (by omega), h 24 0 k (by omega), h 25 0 k (by omega), h 26 0 k (by omega), h 27 0 k (by omega), h 28 0 k (by omega), h 29 0 k (by omega)]
    refine ⟨q.1, fun s h1 h2 => ?_⟩
    rw [h 30 0 _ (by omega), h 31 0 _ (by omega)]
    exact q.2 s h1 h2
  · rw [h 6 0 14 (by omega)]; exact a2.1
  · have q := a2.2 r hr
    unfold RREF at q ⊢
    rw [h 32 0 r (by omega), h 33 0 r (by omega), h 34 0 r (by omega), h 35 0 r (by omega), h 37 0 r (by omega)]
    exact q
  · rw [h 22 0 k (by omega), h 26 0 k (by omega), h 28 0 k (by omega), h 29 0 k (by omega)]
    refine ⟨(a3 k h1 h2).1, fun s h3 h4 => ?_⟩
    rw [h 31 0 _ (by omega)]
    exact (a3 k h1 h2).2 s h3 h4
  · rw [h 37 0 r (by omega)]
    exact a4 r h1 h2
  · rw [h 36 0 r (by omega)]
    exact a5 r hr
  · rw [h 38 0 c (by omega), h 39 0 c (by omega)]
    exact a6 c hc
end KU
/-- one flight is changed, on both sides -/
theorem REL.fl {F R k : Nat} {g g' : zG} (hI : INV g F R) (hRf : REF g g F R) (hk : k < F)
    (hfr : ∀ a j p, ¬ (((a = 4 ∨ a = 14 ∨ a = 15) ∧ j = k) ∨ ((20 ≤ a ∧ a ≤ 29) ∧ j = 0 ∧ p = k) ∨ ((a = 30 ∨ a = 31) ∧ j = 0 ∧ 6 * k ≤ p ∧ p < 6 * k + 6) ∨ a = 36 ∨ a = 38 ∨ a = 39) → g' a j p = g a j p)
    (hf : flok g' k) (hb : flbs g' k) (hs : sok g' R k) (hrow : FRw g' g' k) (h36 : ∀ r : Nat, r < 6 → g' 36 0 r = g 36 0 r + (uChr g' (r : Int) k - uChr g (r : Int) k))
    (h38 : ∀ c : Nat, c < 4 → g' 38 0 c = g 38 0 c + (uCoi g' (c : Int) 0 k - uCoi g (c : Int) 0 k) ∧ g' 39 0 c = g 39 0 c + (uCoi g' (c : Int) 1 k - uCoi g (c : Int) 1 k)) : INV g' F R ∧ REF g' g' F R := by
  obtain ⟨i1, i2, i3⟩ := hI
  obtain ⟨a1, a2, a3, a4, a5, a6⟩ := hRf
  have e4 : ∀ j p, j ≠ k → g' 4 j p = g 4 j p := fun j p h => hfr 4 j p (by omega)
  have eB : ∀ j s, j ≠ k → uB g' j s = uB g j s := fun j s h => hfr 14 j s.toNat (by omega)
  have e5 : ∀ r p, g' 5 r p = g 5 r p := fun r p => hfr 5 r p (by omega)
  have ech : ∀ (r : Int) j, j ≠ k → uChr g' r j = uChr g r j := by
    intro r j h
    unfold uChr uChg uDly
    rw [e4 j 1 h, e4 j 2 h, e4 j 4 h, e4 j 5 h]
  have eco : ∀ (c w : Int) j, j ≠ k → uCoi g' c w j = uCoi g c w j := by
    intro c w j h
    unfold uCoi uLed uChg uOut uDly
    rw [e4 j 0 h, e4 j 1 h, e4 j 2 h, e4 j 4 h, e4 j 6 h]
  refine ⟨⟨⟨by rw [hfr 1 0 2 (by omega)]; exact i1.1, i1.2.1, fun j hj => ?_⟩, ⟨by rw [hfr 1 1 2 (by omega)]; exact i2.1, i2.2.1, fun r hr => ?_⟩, fun j hj => ?_⟩, ⟨⟨by rw [hfr 6 0 1 (by omega), a1.1], fun j hj => ?_⟩, ⟨by rw [hfr 6 0 14 (by omega), a2.1], fun r hr => ?_⟩, fun j h1 h2 => ?_, fun r h1 h2 => ?_, fun r hr => ?_, fun c hc => ?_⟩⟩
  · by_cases c : j = k
    · rw [c]
      exact ⟨hf, hb⟩
    · obtain ⟨q1, q2⟩ := i1.2.2 j hj
      refine ⟨?_, fun s h1 h2 => ?_⟩
      · unfold flok at q1 ⊢
        rw [e4 j 0 c, e4 j 1 c, e4 j 2 c, e4 j 3 c, e4 j 4 c, e4 j 5 c, e4 j 6 c, e4 j 7 c, e4 j 8 c, e4 j 9 c]
        exact q1
      · rw [hfr 14 j s.toNat (by omega), hfr 15 j s.toNat (by omega)]
        exact q2 s h1 h2
  · have q := i2.2.2 r hr
    unfold rgok at q ⊢
    rw [e5 r 0, e5 r 1, e5 r 2, e5 r 3, e5 r 4]
    exact q
  · by_cases c : j = k
    · rw [c]
      exact hs
    · have q := i3 j hj
      unfold sok at q ⊢
      rw [e4 j 1 c, e4 j 2 c, e4 j 3 c, e4 j 4 c, e4 j 5 c, e5 _ 0, eB j _ c]
      exact q
  · by_cases c : j = k
    · rw [c]
      exact hrow
    · have q := a1.2 j hj
      rw [hfr 20 0 j (by omega), hfr 21 0 j (by omega), hfr 22 0 j (by omega), hfr 23 0 j (by omega), hfr 24 0 j (by omega), hfr 25 0 j (by omega), hfr 26 0 j (by omega), hfr 27 0 j (by omega), hfr 28 0 j (by omega), hfr 29 0 j (by omega)]
      rw [e4 j 0 c, e4 j 1 c, e4 j 2 c, e4 j 3 c, e4 j 4 c, e4 j 5 c, e4 j 6 c, e4 j 7 c, e4 j 8 c, e4 j 9 c]
      refine ⟨q.1, fun s h1 h2 => ?_⟩
      rw [hfr 14 j s.toNat (by omega), hfr 15 j s.toNat (by omega), hfr 30 0 _ (by omega), hfr 31 0 _ (by omega)]
      exact q.2 s h1 h2
  · have q := a2.2 r hr
    unfold RREF at q ⊢
    rw [e5 r 0, e5 r 1, e5 r 2, e5 r 3, e5 r 4, hfr 32 0 r (by omega), hfr 33 0 r (by omega), hfr 34 0 r (by omega), hfr 35 0 r (by omega), hfr 37 0 r (by omega)]
    exact q
  · have q := a3 j h1 h2
    rw [hfr 22 0 j (by omega), hfr 26 0 j (by omega), hfr 28 0 j (by omega), hfr 29 0 j (by omega)]
    refine ⟨q.1, fun s h3 h4 => ?_⟩
    rw [hfr 31 0 _ (by omega)]
    exact q.2 s h3 h4
  · rw [hfr 37 0 r (by omega)]
    exact a4 r h1 h2
  · rw [h36 r hr, a5 r hr, uSum_upd (f := uChr g' (r : Int)) (h := uChr g (r : Int)) hk (fun j _ hj => ech _ j hj)]
  · obtain ⟨q1, q2⟩ := h38 c hc
    obtain ⟨p1, p2⟩ := a6 c hc
    rw [q1, q2, p1, p2, uSum_upd (f := uCoi g' (c : Int) 0) (h := uCoi g (c : Int) 0) hk (fun j _ hj => eco _ _ j hj), uSum_upd (f := uCoi g' (c : Int) 1) (h := uCoi g (c : Int) 1) hk (fun j _ hj => eco _ _ j hj)]
    exact ⟨rfl, rfl⟩
/-- one that isn't gone owes nothing -/
theorem uCh_wait {g : zG} {k : Nat} {r : Int} (h : g 4 k 2 ≠ 1) : uChr g r k = 0 := by
  unfold uChr uChg
  rw [if_neg h]
  split <;> rfl
theorem uCo_wait {g : zG} {k : Nat} {c w : Int} (h : g 4 k 2 ≠ 1) (hw : w = 0 ∨ w = 1) : uCoi g c w k = 0 := by
  unfold uCoi uLed uChg uOut
  split
  · rcases hw with rfl | rfl <;> simp [h]
  · rfl
/-- a call that answers nothing: both sides, and the comparison -/
theorem z_cmpv {L : List Nat} {A : Option ((Nat × Int) × zG)} {B : zG → Option (Int × zG)} {O : Nat × Int} {P1 P2 : zG → Prop} (hA : zT A (fun o g1 => o = O ∧ P1 g1)) (hL : O.1 = 0 ∨ L[0]? = some O.1 ∨ L[1]? = some O.1 ∨ L[2]? = some O.1)
    (hB : ∀ g1, P1 g1 → zT (B g1) (fun _ g2 => g2 6 0 0 = uPos L O.1 ∧ P2 g2)) :
    ∃ g', zbd (zbc L A (fun _ g => some (0, g))) (fun r1 g => zbd (B g) (fun _ g => zbd (sX5_thrown g) (fun r3 g => zeq r3 r1 (some g) (none)))) = some g' ∧ P2 g' := by
  obtain ⟨o, g1, e1, rfl, h1⟩ := hA
  rw [e1]
  obtain ⟨r, g2, e2, b1, b2⟩ := hB g1 h1
  have hin : zIn (uPos L o.1) := by
    unfold uPos
    split
    · decide
    · split
      · decide
      · split <;> decide
  have ez : zbc L (some (o, g1)) (fun _ g => some (0, g)) = some (uPos L o.1, g1) := by
    show (if o.1 = 0 then some (0, g1) else if L[0]? = some o.1 then some (1, g1) else if L[1]? = some o.1 then some (2, g1) else if L[2]? = some o.1 then some (3, g1) else none) = _
    unfold uPos
    by_cases c : o.1 = 0
    · rw [if_pos c, if_pos c]
    · rw [if_neg c, if_neg c]
      by_cases c0 : L[0]? = some o.1
      · rw [if_pos c0, if_pos c0]
      · rw [if_neg c0, if_neg c0]
        by_cases c1 : L[1]? = some o.1
        · rw [if_pos c1, if_pos c1]
        · rw [if_neg c1, if_neg c1]
          rcases hL with h | h | h | h
          · exact absurd h c
          · exact absurd h c0
          · exact absurd h c1
          · rw [if_pos h]
  rw [ez]
  refine ⟨g2, ?_, b2⟩
  rw [zbd_e, e2, zbd_e]
  show zeq (g2 6 0 0) (uPos L o.1) (some g2) none = some g2
  rw [b1]
  unfold zeq
  rw [if_pos ⟨hin, hin⟩, if_pos rfl]
/-- a call that answers yes or no -/
theorem z_cmpb {L : List Nat} {A : Option ((Nat × Int) × zG)} {B : zG → Option (Int × zG)} {O : Nat × Int} {P1 P2 : zG → Prop} (hA : zT A (fun o g1 => o = O ∧ P1 g1)) (hL : O.1 = 0 ∨ L[0]? = some O.1 ∨ L[1]? = some O.1 ∨ L[2]? = some O.1) (hv : O.1 = 0 → O.2 = 0 ∨ O.2 = 1) (hst : ∀ (g : zG) (x : Int), P1 g → P1 (zup g 17 0 0 x))
    (hB : ∀ g1, P1 g1 → zT (B g1) (fun r g2 => g2 6 0 0 = uPos L O.1 ∧ (O.1 = 0 → r = O.2) ∧ g2 17 0 0 = g1 17 0 0 ∧ P2 g2)) :
    ∃ g', zbd (zbc L A (fun r1 g => zeq r1 0 (zix 0 1 (zst g 17 0 (0 : Int).toNat 0 (fun g => some (0, g)))) (zix 0 1 (zst g 17 0 (0 : Int).toNat 1 (fun g => some (0, g)))))) (fun r1 g => zbd (B g) (fun r2 g => zbd (sX5_thrown g) (fun r3 g => zeq r3 r1 (zeq r1 0 (zix 0 1 (zeq r2 0 (zri (g 17 0 (0 : Int).toNat) (zri 0 (zeq (zcm (g 17 0 (0 : Int).toNat) 0) 0 (some g) (none)))) (zri (g 17 0 (0 : Int).toNat) (zri 1 (zeq (zcm (g 17 0 (0 : Int).toNat) 1) 0 (some g) (none)))))) (some g)) (none)))) = some g' ∧ P2 g' := by
  obtain ⟨o, g1, e1, rfl, h1⟩ := hA
  rw [e1]
  by_cases c : o.1 = 0
  · obtain ⟨r, g2, e2, b1, b2, b3, b4⟩ := hB (zup g1 17 0 0 o.2) (hst g1 o.2 h1)
    have hr : r = o.2 := b2 c
    subst hr
    have hz := hv c
    have ez : zbc L (some (o, g1)) (fun r1 g => zeq r1 0 (zix 0 1 (zst g 17 0 (0 : Int).toNat 0 (fun g => some (0, g)))) (zix 0 1 (zst g 17 0 (0 : Int).toNat 1 (fun g => some (0, g))))) = some (0, zup g1 17 0 0 o.2) := by
      show (if o.1 = 0 then zeq o.2 0 (zix 0 1 (zst g1 17 0 (0 : Int).toNat 0 (fun g => some (0, g)))) (zix 0 1 (zst g1 17 0 (0 : Int).toNat 1 (fun g => some (0, g)))) else _) = _
      rw [if_pos c]
      rcases hz with hz | hz <;> rw [hz] <;> rfl
    rw [ez]
    have e3 : g2 17 0 (0 : Int).toNat = o.2 := by
      show g2 17 0 0 = _
      rw [b3]
      simp [zup_rd]
    have e4 : g2 6 0 0 = 0 := by rw [b1]; unfold uPos; rw [if_pos c]
    refine ⟨g2, ?_, b4⟩
    rw [zbd_e, e2, zbd_e]
    show zeq (g2 6 0 0) 0 (zeq 0 0 (zix 0 1 (zeq o.2 0 (zri (g2 17 0 (0 : Int).toNat) (zri 0 (zeq (zcm (g2 17 0 (0 : Int).toNat) 0) 0 (some g2) none))) (zri (g2 17 0 (0 : Int).toNat) (zri 1 (zeq (zcm (g2 17 0 (0 : Int).toNat) 1) 0 (some g2) none))))) (some g2)) none = some g2
    rw [e3, e4]
    rcases hz with hz | hz <;> rw [hz] <;> rfl
  · obtain ⟨r, g2, e2, b1, -, b3, b4⟩ := hB g1 h1
    have hne : uPos L o.1 ≠ 0 ∧ zIn (uPos L o.1) := by
      unfold uPos
      rw [if_neg c]
      split
      · decide
      · split <;> decide
    have ez : zbc L (some (o, g1)) (fun r1 g => zeq r1 0 (zix 0 1 (zst g 17 0 (0 : Int).toNat 0 (fun g => some (0, g)))) (zix 0 1 (zst g 17 0 (0 : Int).toNat 1 (fun g => some (0, g))))) = some (uPos L o.1, g1) := by
      show (if o.1 = 0 then _ else if L[0]? = some o.1 then some (1, g1) else if L[1]? = some o.1 then some (2, g1) else if L[2]? = some o.1 then some (3, g1) else none) = _
      unfold uPos
      rw [if_neg c, if_neg c]
      by_cases c0 : L[0]? = some o.1
      · rw [if_pos c0, if_pos c0]
      · rw [if_neg c0, if_neg c0]
        by_cases c1 : L[1]? = some o.1
        · rw [if_pos c1, if_pos c1]
        · rw [if_neg c1, if_neg c1]
          rcases hL with h | h | h | h
          · exact absurd h c
          · exact absurd h c0
          · exact absurd h c1
          · rw [if_pos h]
    rw [ez]
    refine ⟨g2, ?_, b4⟩
    rw [zbd_e, e2, zbd_e]
    show zeq (g2 6 0 0) (uPos L o.1) (zeq (uPos L o.1) 0 _ (some g2)) none = some g2
    rw [b1]
    unfold zeq
    rw [if_pos ⟨hne.2, hne.2⟩, if_pos rfl, if_pos ⟨hne.2, by decide⟩, if_neg hne.1]

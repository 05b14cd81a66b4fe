/-! the relation, and the cases that only ask -/
def sok (g : zG) (R k : Nat) : Prop := ((g 4 k 4 = -1 ∧ g 4 k 5 = -1) ∨ (g 4 k 1 ≤ g 4 k 4 ∧ 0 ≤ g 4 k 5 ∧ g 4 k 5 < (R : Int) ∧ uB g k (g 5 (g 4 k 5).toNat 0) ≠ -1 ∧ g 4 k 4 + uB g k (g 5 (g 4 k 5).toNat 0) ≤ 1440)) ∧ (g 4 k 2 = 0 → g 4 k 3 ≠ 0 → g 4 k 4 = -1)
def INV (g : zG) (F R : Nat) : Prop := FOK g F ∧ ROK g R ∧ ∀ k, k < F → sok g R k
def REF (h v : zG) (F R : Nat) : Prop := FREF h v F ∧ GREF h v R ∧ (∀ k : Nat, F ≤ k → k < 24 → (h 22 0 k = 0 ∧ h 26 0 k = 0 ∧ h 28 0 k = 0 ∧ h 29 0 k = 0) ∧ ∀ s : Int, 0 ≤ s → s < 6 → h 31 0 (6 * (k : Int) + s).toNat = 0) ∧ (∀ r : Nat, R ≤ r → r < 7 → h 37 0 r = 0) ∧ (∀ r : Nat, r < 6 → h 36 0 r = uSum (uChr v (r : Int)) F) ∧ (∀ c : Nat, c < 4 → h 38 0 c = uSum (uCoi v (c : Int) 0) F ∧ h 39 0 c = uSum (uCoi v (c : Int) 1) F)
def REL (g : zG) : Prop := ∃ F R : Nat, INV g F R ∧ REF g g F R
/-- the state that lasts is the same -/
def KS (R : Nat) (g g' : zG) : Prop := ∀ k j p, (k = 1 ∨ (k = 4 ∧ p < 10) ∨ (k = 5 ∧ j < R) ∨ k = 14 ∨ k = 15 ∨ (k = 6 ∧ j = 0 ∧ (p = 1 ∨ p = 14)) ∨ (20 ≤ k ∧ k ≤ 31) ∨ ((32 ≤ k ∧ k ≤ 35) ∧ j = 0 ∧ p < R) ∨ (36 ≤ k ∧ k ≤ 39)) → g' k j p = g k j p
theorem KS.rf {R : Nat} {g : zG} : KS R g g := fun _ _ _ _ => rfl
theorem KS.tr {R : Nat} {g g1 g2 : zG} (a : KS R g g1) (b : KS R g1 g2) : KS R g g2 := fun k j p c => (b k j p c).trans (a k j p c)
section KSS
variable {R F : Nat} {g g' v : zG}
theorem KS.cf (h : KS R g g') : CF g g' := fun k j p c => h k j p (by omega)
theorem KS.rg {r p : Nat} (h : KS R g g') (hr : r < R) : g' 5 r p = g 5 r p := h 5 r p (by omega)
theorem FS.ks (h : FS g g') : KS R g g' := fun k j p c => h k j p (by omega)
theorem FD.ks (h : FD g g') : KS R g g' := fun k j p c => h k j p (by omega)
theorem FW.ks (h : FW R g g') : KS R g g' := fun k j p c => h k j p (by omega)
theorem FB.ks (h : FB g g') : KS R g g' := fun k j p c => h k j p (by omega)
theorem FBw.ks (h : FBw R g g') : KS R g g' := fun k j p c => h k j p (by omega)
theorem KS.up17 {x : Int} : KS R g (zup g 17 0 0 x) := fun k j p c => by rw [zup_rd, if_neg (by omega)]
theorem uCh_cf {r : Int} {k : Nat} (h : CF g g') : uChr g' r k = uChr g r k := by
  unfold uChr uChg uDly
  rw [h.f (k := k) (p := 1) (by decide), h.f (k := k) (p := 2) (by decide), h.f (k := k) (p := 4) (by decide), h.f (k := k) (p := 5) (by decide)]
theorem uCo_cf {c w : Int} {k : Nat} (h : CF g g') : uCoi g' c w k = uCoi g c w k := by
  unfold uCoi uLed uChg uOut uDly
  rw [h.f (k := k) (p := 0) (by decide), h.f (k := k) (p := 1) (by decide), h.f (k := k) (p := 2) (by decide), h.f (k := k) (p := 4) (by decide), h.f (k := k) (p := 6) (by decide)]
theorem ROK.ks (a : ROK g R) (h : KS R g g') : ROK g' R := by
  refine ⟨by rw [h 1 1 2 (by omega)]; exact a.1, a.2.1, fun r hr => ?_⟩
  have := a.2.2 r hr
  unfold rgok at this ⊢
  rw [h.rg (p := 0) hr, h.rg (p := 1) hr, h.rg (p := 2) hr, h.rg (p := 3) hr, h.rg (p := 4) hr]
  exact this
theorem INV.ks (a : INV g F R) (h : KS R g g') : INV g' F R := by
  obtain ⟨a1, a2, a3⟩ := a
  refine ⟨a1.cf h.cf, a2.ks h, fun k hk => ?_⟩
  have s := a3 k hk
  unfold sok at s ⊢
  have c := h.cf
  rw [c.f (k := k) (p := 1) (by decide), c.f (k := k) (p := 2) (by decide), c.f (k := k) (p := 3) (by decide), c.f (k := k) (p := 4) (by decide), c.f (k := k) (p := 5) (by decide)]
  refine ⟨?_, s.2⟩
  rcases s.1 with s1 | ⟨s1, s2, s3, s4, s5⟩
  · exact Or.inl s1
  · refine Or.inr ⟨s1, s2, s3, ?_⟩
    rw [h.rg (p := 0) (show (g 4 k 5).toNat < R from by omega), c.b]
    exact ⟨s4, s5⟩
/-- the reference's rows of another state of the rest -/
theorem REF.l (a : REF g v F R) (h : KS R g g') : REF g' v F R := by
  obtain ⟨a1, a2, a3, a4, a5, a6⟩ := a
  refine ⟨⟨?_, fun k hk => ?_⟩, ⟨?_, fun r hr => ?_⟩, fun k h1 h2 => ?_, fun r h1 h2 => ?_, fun r hr => ?_, fun c hc => ?_⟩
  · rw [h 6 0 1 (by omega)]; exact a1.1
  · have q := a1.2 k hk
    rw [h 20 0 k (by omega), h 21 0 k (by omega), h 22 0 k (by omega), h 23 0 k (by omega), h 24 0 k (by omega), h 25 0 k (by omega), h 26 0 k (by omega), h 27 0 k (by omega), h 28 0 k (by omega), h 29 0 k (by omega)]
    refine ⟨q.1, fun s h1 h2 => ?_⟩
    rw [h 30 0 _ (by omega), h 31 0 _ (by omega)]
    exact q.2 s h1 h2
  · rw [h 6 0 14 (by omega)]; exact a2.1
  · have q := a2.2 r hr
    unfold RREF at q ⊢
    rw [h 32 0 r (by omega), h 33 0 r (by omega), h 34 0 r (by omega), h 35 0 r (by omega), h 37 0 r (by omega)]
    exact q
  · rw [h 22 0 k (by omega), h 26 0 k (by omega), h 28 0 k (by omega), h 29 0 k (by omega)]
    refine ⟨(a3 k h1 h2).1, fun s h3 h4 => ?_⟩
    rw [h 31 0 _ (by omega)]
    exact (a3 k h1 h2).2 s h3 h4
  · rw [h 37 0 r (by omega)]
    exact a4 r h1 h2
  · rw [h 36 0 r (by omega)]
    exact a5 r hr
  · rw [h 38 0 c (by omega), h 39 0 c (by omega)]
    exact a6 c hc
theorem REF.r {w : zG} (a : REF g v F R) (h : KS R v w) : REF g w F R := by
  obtain ⟨a1, a2, a3, a4, a5, a6⟩ := a
  have c := h.cf
  refine ⟨⟨a1.1, fun k hk => ?_⟩, ⟨a2.1, fun r hr => ?_⟩, a3, a4, fun r hr => ?_, fun x hx => ?_⟩
  · have q := a1.2 k hk
    rw [c.f (k := k) (p := 0) (by decide), c.f (k := k) (p := 1) (by decide), c.f (k := k) (p := 2) (by decide), c.f (k := k) (p := 3) (by decide), c.f (k := k) (p := 4) (by decide), c.f (k := k) (p := 5) (by decide), c.f (k := k) (p := 6) (by decide), c.f (k := k) (p := 7) (by decide), c.f (k := k) (p := 8) (by decide), c.f (k := k) (p := 9) (by decide)]
    refine ⟨q.1, fun s h1 h2 => ?_⟩
    rw [h 14 k s.toNat (by omega), h 15 k s.toNat (by omega)]
    exact q.2 s h1 h2
  · have q := a2.2 r hr
    unfold RREF at q ⊢
    rw [h.rg (p := 0) hr, h.rg (p := 1) hr, h.rg (p := 2) hr, h.rg (p := 3) hr, h.rg (p := 4) hr]
    exact q
  · rw [a5 r hr]
    exact uSum_congr (fun k _ => (uCh_cf c).symm)
  · obtain ⟨q1, q2⟩ := a6 x hx
    rw [q1, q2]
    exact ⟨uSum_congr (fun k _ => (uCo_cf c).symm), uSum_congr (fun k _ => (uCo_cf c).symm)⟩
theorem REL.ks (a : INV g F R) (b : REF g g F R) (h : KS R g g') : REL g' := ⟨F, R, a.ks h, (b.l h).r h⟩
end KSS
theorem zbd_e {α β : Type} {r : α} {g : zG} {f : α → zG → Option β} : zbd (some (r, g)) f = f r g := rfl
def uPos (L : List Nat) (c : Nat) : Int := if c = 0 then 0 else if L[0]? = some c then 1 else if L[1]? = some c then 2 else 3
/-- a call that answers a number: both sides, and the comparison -/
theorem z_cmp {L : List Nat} {A : Option ((Nat × Int) × zG)} {B : zG → Option (Int × zG)} {O : Nat × Int} {P1 P2 : zG → Prop} (hA : zT A (fun o g1 => o = O ∧ P1 g1)) (hL : O.1 = 0 ∨ L[0]? = some O.1 ∨ L[1]? = some O.1 ∨ L[2]? = some O.1) (hv : O.1 = 0 → zIn O.2) (hst : ∀ (g : zG) (x : Int), P1 g → P1 (zup g 17 0 0 x))
    (hB : ∀ g1, P1 g1 → zT (B g1) (fun r g2 => g2 6 0 0 = uPos L O.1 ∧ (O.1 = 0 → r = O.2) ∧ g2 17 0 0 = g1 17 0 0 ∧ P2 g2)) :
    ∃ g', zbd (zbc L A (fun r1 g => zri r1 (zix 0 1 (zst g 17 0 (0 : Int).toNat r1 (fun g => some (0, g)))))) (fun r1 g => zbd (B g) (fun r2 g => zbd (sX5_thrown g) (fun r3 g => zeq r3 r1 (zeq r1 0 (zix 0 1 (zri r2 (zri (g 17 0 (0 : Int).toNat) (zri r2 (zeq (zcm (g 17 0 (0 : Int).toNat) r2) 0 (some g) (none)))))) (some g)) (none)))) = some g' ∧ P2 g' := by
  obtain ⟨o, g1, e1, rfl, h1⟩ := hA
  rw [e1]
  by_cases c : o.1 = 0
  · obtain ⟨r, g2, e2, b1, b2, b3, b4⟩ := hB (zup g1 17 0 0 o.2) (hst g1 o.2 h1)
    have hr : r = o.2 := b2 c
    subst hr
    have hz := hv c
    have ez : zbc L (some (o, g1)) (fun r1 g => zri r1 (zix 0 1 (zst g 17 0 (0 : Int).toNat r1 (fun g => some (0, g))))) = some (0, zup g1 17 0 0 o.2) := by
      show (if o.1 = 0 then zri o.2 (zix 0 1 (zst g1 17 0 (0 : Int).toNat o.2 (fun g => some (0, g)))) else _) = _
      rw [if_pos c]
      unfold zri zix zst
      rw [if_pos hz, if_pos (by decide)]
      rfl
    rw [ez]
    have e3 : g2 17 0 (0 : Int).toNat = o.2 := by
      show g2 17 0 0 = _
      rw [b3]
      simp [zup_rd]
    have e4 : g2 6 0 0 = 0 := by rw [b1]; unfold uPos; rw [if_pos c]
    refine ⟨g2, ?_, b4⟩
    rw [zbd_e, e2, zbd_e]
    show zeq (g2 6 0 0) 0 (zeq 0 0 (zix 0 1 (zri o.2 (zri (g2 17 0 (0 : Int).toNat) (zri o.2 (zeq (zcm (g2 17 0 (0 : Int).toNat) o.2) 0 (some g2) none))))) (some g2)) none = some g2
    rw [e3, e4]
    have e5 : zcm o.2 o.2 = 0 := by unfold zcm; rw [if_neg (Int.lt_irrefl _), if_pos rfl]
    rw [e5]
    unfold zeq zix zri
    rw [if_pos (by decide), if_pos rfl, if_pos (by decide), if_pos rfl, if_pos (by decide), if_pos hz, if_pos hz, if_pos hz, if_pos (by decide), if_pos rfl]
  · obtain ⟨r, g2, e2, b1, -, b3, b4⟩ := hB g1 h1
    have hne : uPos L o.1 ≠ 0 ∧ zIn (uPos L o.1) := by
      unfold uPos
      rw [if_neg c]
      split
      · decide
      · split <;> decide
    have ez : zbc L (some (o, g1)) (fun r1 g => zri r1 (zix 0 1 (zst g 17 0 (0 : Int).toNat r1 (fun g => some (0, g))))) = some (uPos L o.1, g1) := by
      show (if o.1 = 0 then _ else if L[0]? = some o.1 then some (1, g1) else if L[1]? = some o.1 then some (2, g1) else if L[2]? = some o.1 then some (3, g1) else none) = _
      unfold uPos
      rw [if_neg c, if_neg c]
      by_cases c0 : L[0]? = some o.1
      · rw [if_pos c0, if_pos c0]
      · rw [if_neg c0, if_neg c0]
        by_cases c1 : L[1]? = some o.1
        · rw [if_pos c1, if_pos c1]
        · rw [if_neg c1, if_neg c1]
          rcases hL with h | h | h | h
          · exact absurd h c
          · exact absurd h c0
          · exact absurd h c1
          · rw [if_pos h]
    rw [ez]
    refine ⟨g2, ?_, b4⟩
    rw [zbd_e, e2, zbd_e]
    show zeq (g2 6 0 0) (uPos L o.1) (zeq (uPos L o.1) 0 _ (some g2)) none = some g2
    rw [b1]
    unfold zeq
    rw [if_pos ⟨hne.2, hne.2⟩, if_pos rfl, if_pos ⟨hne.2, by decide⟩, if_neg hne.1]
/-- a call that only asks -/
theorem z_ask {L : List Nat} {A : Option ((Nat × Int) × zG)} {B : zG → Option (Int × zG)} {O : Nat × Int} {F R : Nat} {g : zG} (hI : INV g F R) (hRf : REF g g F R) (hA : zT A (fun o g1 => o = O ∧ KS R g g1)) (hL : L = [1] ∨ L = [1, 2] ∨ L = [1, 2, 3]) (hO : O.1 ≤ L.length) (hv : O.1 = 0 → zIn O.2)
    (hB : ∀ g1, KS R g g1 → REF g1 g F R → zT (B g1) (fun r g2 => g2 6 0 0 = (O.1 : Int) ∧ (O.1 = 0 → r = O.2) ∧ g2 17 0 0 = g1 17 0 0 ∧ KS R g1 g2)) :
    ∃ g', zbd (zbc L A (fun r1 g => zri r1 (zix 0 1 (zst g 17 0 (0 : Int).toNat r1 (fun g => some (0, g)))))) (fun r1 g => zbd (B g) (fun r2 g => zbd (sX5_thrown g) (fun r3 g => zeq r3 r1 (zeq r1 0 (zix 0 1 (zri r2 (zri (g 17 0 (0 : Int).toNat) (zri r2 (zeq (zcm (g 17 0 (0 : Int).toNat) r2) 0 (some g) (none)))))) (some g)) (none)))) = some g' ∧ REL g' := by
  have hc : O.1 = 0 ∨ O.1 = 1 ∨ O.1 = 2 ∨ O.1 = 3 := by
    rcases hL with rfl | rfl | rfl <;> simp at hO <;> omega
  have hpos : uPos L O.1 = (O.1 : Int) := by
    rcases hL with rfl | rfl | rfl <;> rcases hc with h | h | h | h <;> rw [h] at hO ⊢ <;> first | rfl | (simp at hO)
  refine z_cmp (P1 := fun g1 => KS R g g1) hA ?_ hv (fun g1 x h => h.tr KS.up17) (fun g1 h => ?_)
  · rcases hL with rfl | rfl | rfl <;> rcases hc with h | h | h | h <;> rw [h] at hO ⊢ <;> first | exact Or.inl rfl | exact Or.inr (Or.inl rfl) | exact Or.inr (Or.inr (Or.inl rfl)) | exact Or.inr (Or.inr (Or.inr rfl)) | (simp at hO)
  · refine zT_mono (hB g1 h (hRf.l h)) ?_
    rintro r g2 ⟨b1, b2, b3, b4⟩
    exact ⟨by rw [hpos]; exact b1, b2, b3, REL.ks hI hRf (h.tr b4)⟩
theorem uAns.ask {o : Nat × Int} {h h' : zG} {z : Int} {R : Nat} (a : uAns o h z h') : h' 6 0 0 = (o.1 : Int) ∧ (o.1 = 0 → z = o.2) ∧ h' 17 0 0 = h 17 0 0 ∧ KS R h h' := ⟨a.1, a.2.1, a.2.2 17 0 0 (by omega), a.2.2.ks⟩
section CASES
variable {g : zG} {a1 a2 a3 a4 : Int}
theorem zT_pure {o O : Nat × Int} {g : zG} {R : Nat} {A : Option ((Nat × Int) × zG)} (h : A = some (O, g)) : zT A (fun o g1 => o = O ∧ KS R g g1) := ⟨O, g, h, rfl, KS.rf⟩
theorem uFis_in {F k : Nat} {w : Int} (hF : FOK g F) (hk : k < F) : zIn (uFis g k w) := by
  obtain ⟨hf, hb⟩ := hF.2.2 k hk
  have hD := uDep_bd hf
  unfold flok at hf
  show -2147483648 ≤ uFis g k w ∧ uFis g k w ≤ 2147483647
  unfold uFis
  split
  · omega
  split
  · omega
  split
  · omega
  split
  · omega
  split
  · omega
  split
  · omega
  split
  · omega
  split <;> omega
theorem case3 (hr : REL g) (h1 : zIn a1) (h2 : zIn a2) : ∃ g', sLc3 4000 a1 a2 a3 a4 g = some g' ∧ REL g' := by
  obtain ⟨F, R, hI, hRf⟩ := hr
  unfold sLc3 sL_flightIs
  refine z_ask hI hRf (zT_pure (o := (0, 0)) (e_flightIs hI.1 h1 h2)) (Or.inr (Or.inl rfl)) ?_ ?_ (fun g1 hk hf => zT_mono (g_flightIs hI.1 hf.1 h1 h2) (fun _ _ a => a.ask))
  · split
    · split <;> first | exact Nat.zero_le _ | decide
    · decide
  · split
    · split
      · exact fun _ => uFis_in hI.1 (by omega)
      · intro z; cases z
    · intro z; cases z
theorem case4 (hr : REL g) (h1 : zIn a1) (h2 : zIn a2) : ∃ g', sLc4 4000 a1 a2 a3 a4 g = some g' ∧ REL g' := by
  obtain ⟨F, R, hI, hRf⟩ := hr
  unfold sLc4 sL_over
  refine z_ask hI hRf (zT_pure (o := (0, 0)) (e_over hI.1 h1 h2)) (Or.inl rfl) ?_ ?_ (fun g1 hk hf => zT_mono (g_over hI.1 hf.1 h1 h2) (fun _ _ a => a.ask))
  · split
    · split <;> first | exact Nat.zero_le _ | decide
    · decide
  · split
    · split
      · rename_i c1 c2
        intro _
        obtain ⟨hf, hb⟩ := hI.1.2.2 a1.toNat (by omega)
        have := uTov_bd hf hb c2
        constructor
        · show -2147483648 ≤ uTov g a1.toNat a2; omega
        · show uTov g a1.toNat a2 ≤ 2147483647; omega
      · intro z; cases z
    · intro z; cases z
theorem case5 (hr : REL g) (h1 : zIn a1) (h2 : zIn a2) (h3 : zIn a3) : ∃ g', sLc5 4000 a1 a2 a3 a4 g = some g' ∧ REL g' := by
  obtain ⟨F, R, hI, hRf⟩ := hr
  have h24 := hI.1.2.1
  unfold sLc5 sL_load
  refine z_ask hI hRf (zT_pure (o := (0, 0)) (e_load (n := 4000) (by decide) hI.1 h1 h2 h3)) (Or.inr (Or.inl rfl)) ?_ ?_ (fun g1 hk hf => zT_mono (g_load (n := 4000) (by decide) hI.1 hf.1 h1 h2 h3) (fun _ _ a => a.ask))
  · split
    · split <;> first | exact Nat.zero_le _ | decide
    · decide
  · have := uLoad_bd (g := g) (F := F) (s := a1) (b := a2) (w := a3)
    split
    · split
      · intro _
        constructor
        · show -2147483648 ≤ uLoad g F a1 a2 a3; omega
        · show uLoad g F a1 a2 a3 ≤ 2147483647; omega
      · intro z; cases z
    · intro z; cases z
theorem case6 (hr : REL g) (h1 : zIn a1) (h2 : zIn a2) : ∃ g', sLc6 4000 a1 a2 a3 a4 g = some g' ∧ REL g' := by
  obtain ⟨F, R, hI, hRf⟩ := hr
  have h24 := hI.1.2.1
  unfold sLc6 sL_inside
  refine z_ask hI hRf (zT_pure (o := (0, 0)) (e_inside (n := 4000) (by decide) hI.1 h1 h2)) (Or.inr (Or.inl rfl)) ?_ ?_ (fun g1 hk hf => zT_mono (g_inside (n := 4000) (by decide) hI.1 hf.1 h1 h2) (fun _ _ a => a.ask))
  · split
    · split <;> first | exact Nat.zero_le _ | decide
    · decide
  · have := uSum_bound (f := fun k => uIsd g k a1 a2) (m := 1) (n := F) (fun k _ => by
      show 0 ≤ uIsd g k a1 a2 ∧ uIsd g k a1 a2 ≤ 1
      unfold uIsd
      split
      · omega
      · split <;> omega)
    split
    · split
      · intro _
        constructor
        · show -2147483648 ≤ uInside g F a1 a2; unfold uInside; omega
        · show uInside g F a1 a2 ≤ 2147483647; unfold uInside; omega
      · intro z; cases z
    · intro z; cases z
theorem uPeak_bd {F : Nat} {s w : Int} : 0 ≤ uPeak g F s w ∧ uPeak g F s w ≤ (F : Int) := ⟨uMx_nn, uMx_le (by omega) (fun k _ => by
  unfold uPkf
  split
  · exact (uLoad_bd).2
  · omega)⟩
theorem case7 (hr : REL g) (h1 : zIn a1) (h2 : zIn a2) : ∃ g', sLc7 4000 a1 a2 a3 a4 g = some g' ∧ REL g' := by
  obtain ⟨F, R, hI, hRf⟩ := hr
  have h24 := hI.1.2.1
  unfold sLc7 sL_peak
  refine z_ask hI hRf (zT_mono (t_peak (n := 4000) (by decide) hI.1 h1 h2) (fun _ _ a => ⟨a.1, a.2.ks⟩)) (Or.inr (Or.inl rfl)) ?_ ?_ (fun g1 hk hf => zT_mono (g_peak (n := 4000) (by decide) hI.1 hf.1 h1 h2) (fun _ _ a => a.ask))
  · split
    · split <;> first | exact Nat.zero_le _ | decide
    · decide
  · have := uPeak_bd (g := g) (F := F) (s := a1) (w := a2)
    split
    · split
      · intro _
        constructor
        · show -2147483648 ≤ uPeak g F a1 a2; omega
        · show uPeak g F a1 a2 ≤ 2147483647; omega
      · intro z; cases z
    · intro z; cases z
theorem case8 (hr : REL g) (h1 : zIn a1) (h2 : zIn a2) : ∃ g', sLc8 4000 a1 a2 a3 a4 g = some g' ∧ REL g' := by
  obtain ⟨F, R, hI, hRf⟩ := hr
  have h24 := hI.1.2.1
  unfold sLc8 sL_peakAnew
  refine z_ask hI hRf (zT_pure (o := (0, 0)) (e_peakAnew (n := 4000) (by decide) hI.1 h1 h2)) (Or.inr (Or.inl rfl)) ?_ ?_ (fun g1 hk hf => zT_mono (g_peakAnew (n := 4000) (by decide) hI.1 hf.1 h1 h2) (fun _ _ a => a.ask))
  · split
    · split <;> first | exact Nat.zero_le _ | decide
    · decide
  · have := uPeak_bd (g := g) (F := F) (s := a1) (w := a2)
    split
    · split
      · intro _
        constructor
        · show -2147483648 ≤ uPeak g F a1 a2; omega
        · show uPeak g F a1 a2 ≤ 2147483647; omega
      · intro z; cases z
    · intro z; cases z
theorem uSum_abs {f : Nat → Int} {m : Int} : ∀ {n : Nat}, (∀ k, k < n → -m ≤ f k ∧ f k ≤ m) → -((n : Int) * m) ≤ uSum f n ∧ uSum f n ≤ (n : Int) * m := by
  intro n
  induction n with
  | zero => intro _; simp [uSum]
  | succ n ih =>
    intro hk
    obtain ⟨a1, a2⟩ := ih (fun k h1 => hk k (by omega))
    obtain ⟨b1, b2⟩ := hk n (by omega)
    have e : ((n + 1 : Nat) : Int) * m = (n : Int) * m + m := by
      rw [Int.natCast_add, Int.add_mul]
      simp
    rw [e]
    show -((n : Int) * m + m) ≤ uSum f n + f n ∧ uSum f n + f n ≤ _
    omega
theorem uRis_in {F R r : Nat} {w : Int} (hI : INV g F R) (hr : r < R) : zIn (uRis g F r w) := by
  have h24 := hI.1.2.1
  have hrg := hI.2.1.2.2 r hr
  have hsl := uSc_le hrg
  have hfr := uFr_le (r := r) hI.1
  have l1 : (uLF g r).length ≤ 24 := Nat.le_trans uKeys_len hfr.1
  have l2 : (uLL g r).length ≤ 24 := Nat.le_trans uKeys_len hfr.1
  have n1 : 0 ≤ uNo (uO1 g r) ∧ uNo (uO1 g r) ≤ ((uO1 g r).length : Int) := uNo_bound
  have n2 : 0 ≤ uNo (uO2 g r) ∧ uNo (uO2 g r) ≤ ((uO2 g r).length : Int) := uNo_bound
  have m1 : (uO1 g r).length = (uLF g r).length := uDl_len
  have m2 : (uO2 g r).length = (uLL g r).length := uDl_len
  have hs := uSum_abs (f := uChr g (r : Int)) (m := 1440) (n := F) (fun k hk => by
    have := uChg_bd (hI.1.2.2 k hk).1
    unfold uChr
    split <;> omega)
  unfold rgok at hrg
  show -2147483648 ≤ uRis g F r w ∧ uRis g F r w ≤ 2147483647
  unfold uRis
  split
  · omega
  split
  · omega
  split
  · omega
  split
  · omega
  split
  · omega
  split <;> omega
theorem case12 (hr : REL g) (h1 : zIn a1) (h2 : zIn a2) : ∃ g', sLc12 4000 a1 a2 a3 a4 g = some g' ∧ REL g' := by
  obtain ⟨F, R, hI, hRf⟩ := hr
  unfold sLc12 sL_regulationIs
  refine z_ask hI hRf (zT_mono (t_regulationIs (n := 4000) (by decide) hI.1 hI.2.1 h1 h2) (fun _ _ a => ⟨a.1, a.2.ks⟩)) (Or.inr (Or.inl rfl)) ?_ ?_ (fun g1 hk hf => zT_mono (g_regulationIs (n := 4000) (by decide) hI.1 hI.2.1 hf.1 hf.2.1 hf.2.2.2.2.1 h1 h2) (fun _ _ a => a.ask))
  · split
    · split <;> first | exact Nat.zero_le _ | decide
    · decide
  · split
    · split
      · exact fun _ => uRis_in hI (by omega)
      · intro z; cases z
    · intro z; cases z
theorem case13 (hr : REL g) (h1 : zIn a1) (h2 : zIn a2) : ∃ g', sLc13 4000 a1 a2 a3 a4 g = some g' ∧ REL g' := by
  obtain ⟨F, R, hI, hRf⟩ := hr
  unfold sLc13 sL_slot
  refine z_ask hI hRf (zT_pure (o := (0, 0)) (e_slot hI.2.1 h1 h2)) (Or.inl rfl) ?_ ?_ (fun g1 hk hf => zT_mono (g_slot (n := 4000) (by decide) hI.1 hI.2.1 hf.1 hf.2.1 h1 h2) (fun _ _ a => a.ask))
  · split <;> first | exact Nat.zero_le _ | decide
  · split
    · intro _
      have hrg := hI.2.1.2.2 a1.toNat (by omega)
      have hsl := uSc_le hrg
      show -2147483648 ≤ uSlo g a1.toNat a2 ∧ uSlo g a1.toNat a2 ≤ 2147483647
      unfold uSlo
      split
      · have h5 := uSc_bg (j := a2.toNat) hrg (by omega)
        have h6 := uBg_ge (fr := g 5 a1.toNat 1) (rt := g 5 a1.toNat 3) (uSc_pos hrg (by omega)).1 (j := a2.toNat)
        unfold rgok at hrg
        unfold uBgR at h5 ⊢
        omega
      · omega
    · intro z; cases z
theorem uPen_in {F R r : Nat} {x : Int} (hI : INV g F R) (hr : r < R) : zIn (uPen g r x) := by
  have := uPen_bd (x := x) hI.1 (hI.2.1.2.2 r hr)
  constructor <;> omega
theorem case14 (hr : REL g) (h1 : zIn a1) (h2 : zIn a2) : ∃ g', sLc14 4000 a1 a2 a3 a4 g = some g' ∧ REL g' := by
  obtain ⟨F, R, hI, hRf⟩ := hr
  unfold sLc14 sL_penalty
  refine z_ask hI hRf (zT_mono (t_penalty (n := 4000) (by decide) hI.1 hI.2.1 h1 h2) (fun _ _ a => ⟨a.1, a.2.ks⟩)) (Or.inl rfl) ?_ ?_ (fun g1 hk hf => zT_mono (g_penalty (n := 4000) (by decide) hI.1 hI.2.1 hf.1 hf.2.1 h1 h2) (fun _ _ a => a.ask))
  · split <;> first | exact Nat.zero_le _ | decide
  · split
    · exact fun _ => uPen_in hI (by omega)
    · intro z; cases z
theorem uDue_in {F R : Nat} {x : Int} (hI : INV g F R) : zIn (uDue g x R) := by
  have := uDue_bd (k := x) hI.1 (m := R) hI.2.1.2.2
  constructor <;> omega
theorem case15 (hr : REL g) (h1 : zIn a1) : ∃ g', sLc15 4000 a1 a2 a3 a4 g = some g' ∧ REL g' := by
  obtain ⟨F, R, hI, hRf⟩ := hr
  unfold sLc15 sL_due
  refine z_ask hI hRf (zT_mono (t_due (n := 4000) (by decide) hI.1 hI.2.1 h1) (fun _ _ a => ⟨a.1, a.2.ks⟩)) (Or.inl rfl) ?_ ?_ (fun g1 hk hf => zT_mono (g_due (n := 4000) (by decide) hI.1 hI.2.1 hf.1 hf.2.1 h1) (fun _ _ a => a.ask))
  · split <;> first | exact Nat.zero_le _ | decide
  · split
    · exact fun _ => uDue_in hI
    · intro z; cases z
theorem case16 (hr : REL g) (h1 : zIn a1) : ∃ g', sLc16 4000 a1 a2 a3 a4 g = some g' ∧ REL g' := by
  obtain ⟨F, R, hI, hRf⟩ := hr
  unfold sLc16 sL_dueAnew
  refine z_ask hI hRf (zT_mono (t_dueAnew (n := 4000) (by decide) hI.1 hI.2.1 h1) (fun _ _ a => ⟨a.1, a.2.ks⟩)) (Or.inl rfl) ?_ ?_ (fun g1 hk hf => zT_mono (g_dueAnew (n := 4000) (by decide) hI.1 hI.2.1 hf.1 hf.2.1 h1) (fun _ _ a => a.ask))
  · split <;> first | exact Nat.zero_le _ | decide
  · split
    · exact fun _ => uDue_in hI
    · intro z; cases z
theorem uAll_in {F m : Nat} (hF : FOK g F) (hr : ∀ r, r < m → rgok g r) : zIn (uAll g F m) := by
  have h24 := hF.2.1
  have := uAll_bd hF hr
  constructor <;> omega
theorem case17 (hr : REL g) : ∃ g', sLc17 4000 a1 a2 a3 a4 g = some g' ∧ REL g' := by
  obtain ⟨F, R, hI, hRf⟩ := hr
  have hin := uAll_in hI.1 hI.2.1.2.2
  unfold sLc17
  obtain ⟨r1, g1, e1, rfl, b1⟩ := t_allDue (n := 4000) (by decide) hI.1 hI.2.1
  rw [e1]
  have hk : KS R g g1 := b1.ks
  have hf := hRf.l hk
  obtain ⟨r2, g2, e2, rfl, b2⟩ := g_allDue (n := 4000) (h := g1) (by decide) hI.1 hI.2.1 hf.1 hf.2.1
  refine ⟨g2, ?_, REL.ks hI hRf (hk.tr b2.ks)⟩
  rw [zbd_e, e2, zbd_e]
  show zeq (uAll g F R) (uAll g F R) (some g2) none = some g2
  unfold zeq
  rw [if_pos ⟨hin, hin⟩, if_pos rfl]
theorem case18 (hr : REL g) (h1 : zIn a1) (h2 : zIn a2) (h3 : zIn a3) (h4 : zIn a4) : ∃ g', sLc18 4000 a1 a2 a3 a4 g = some g' ∧ REL g' := by
  obtain ⟨F, R, hI, hRf⟩ := hr
  have hR6 := hI.2.1.2.1
  unfold sLc18 sL_would
  refine z_ask hI hRf (zT_mono (t_would (n := 4000) (by decide) hI.1 hI.2.1 h1 h2 h3 h4) (fun _ _ a => ⟨a.1, a.2.ks⟩)) (Or.inr (Or.inl rfl)) ?_ ?_ (fun g1 hk hf => zT_mono (g_would (n := 4000) (by decide) hI.1 hI.2.1 hf.1 hf.2.1 (hf.2.2.2.1 R (Nat.le_refl R) (by omega)) h1 h2 h3 h4) (fun _ g2 a => ⟨a.1, a.2.1, a.2.2 17 0 0 (by omega), a.2.2.ks⟩))
  · split
    · split <;> first | exact Nat.zero_le _ | decide
    · decide
  · split
    · split
      · rename_i c1 c2
        intro _
        refine uAll_in (hI.1.cf zRg_cf) (fun r hr => ?_)
        by_cases cr : r = R
        · rw [cr]
          exact zRg_ok c1 c2
        · have := hI.2.1.2.2 r (by omega)
          unfold rgok at this ⊢
          simp only [zRg_o (show ¬ (5 = 5 ∧ r = R) from by omega)]
          exact this
      · intro z; cases z
    · intro z; cases z
theorem case22 (hr : REL g) (h1 : zIn a1) (h2 : zIn a2) : ∃ g', sLc22 4000 a1 a2 a3 a4 g = some g' ∧ REL g' := by
  obtain ⟨F, R, hI, hRf⟩ := hr
  have h24 := hI.1.2.1
  unfold sLc22 sL_companyIs
  refine z_ask hI hRf (zT_pure (o := (0, 0)) (e_companyIs (n := 4000) (by decide) hI.1 h1 h2)) (Or.inr (Or.inl rfl)) ?_ ?_ (fun g1 hk hf => zT_mono (g_companyIs (n := 4000) (by decide) hI.1 hf.1 hf.2.2.2.2.2 h1 h2) (fun _ _ a => a.ask))
  · split
    · split <;> first | exact Nat.zero_le _ | decide
    · decide
  · have hs := uSum_abs (f := uCoi g a1 a2) (m := 1440) (n := F) (fun k hk => by
      have := uLed_bd (w := a2) (hI.1.2.2 k hk).1
      unfold uCoi
      split <;> omega)
    split
    · split
      · intro _
        constructor
        · show -2147483648 ≤ uSum (uCoi g a1 a2) F; omega
        · show uSum (uCoi g a1 a2) F ≤ 2147483647; omega
      · intro z; cases z
    · intro z; cases z
end CASES

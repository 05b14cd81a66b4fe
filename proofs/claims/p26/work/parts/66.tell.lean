/-! calls that tell: what they leave -/
theorem zup_id {g : zG} {k i p : Nat} : zup g k i p (g k i p) = g := by
  funext a b c
  rw [zup_rd]
  split
  · rename_i z
    rw [z.1, z.2.1, z.2.2]
  · rfl
section IV
variable {g g' : zG} {F R : Nat}
/-- one flight is changed -/
theorem INV.fl {k : Nat} (hI : INV g F R) (hfr : ∀ a j p, ¬ ((a = 4 ∨ a = 14 ∨ a = 15) ∧ j = k) → g' a j p = g a j p) (hf : flok g' k) (hb : flbs g' k) (hs : sok g' R k) : INV g' F R := by
  obtain ⟨i1, i2, i3⟩ := hI
  have e4 : ∀ j p, j ≠ k → g' 4 j p = g 4 j p := fun j p h => hfr 4 j p (by omega)
  have eB : ∀ j s, j ≠ k → uB g' j s = uB g j s := fun j s h => hfr 14 j s.toNat (by omega)
  have e5 : ∀ r p, g' 5 r p = g 5 r p := fun r p => hfr 5 r p (by omega)
  refine ⟨⟨by rw [hfr 1 0 2 (by omega)]; exact i1.1, i1.2.1, fun j hj => ?_⟩, ⟨by rw [hfr 1 1 2 (by omega)]; exact i2.1, i2.2.1, fun r hr => ?_⟩, fun j hj => ?_⟩
  · by_cases c : j = k
    · rw [c]
      exact ⟨hf, hb⟩
    · obtain ⟨q1, q2⟩ := i1.2.2 j hj
      refine ⟨?_, fun s h1 h2 => ?_⟩
      · unfold flok at q1 ⊢
        rw [e4 j 0 c, e4 j 1 c, e4 j 2 c, e4 j 3 c, e4 j 4 c, e4 j 5 c, e4 j 6 c, e4 j 7 c, e4 j 8 c, e4 j 9 c]
        exact q1
      · rw [hfr 14 j s.toNat (by omega), hfr 15 j s.toNat (by omega)]
        exact q2 s h1 h2
  · have q := i2.2.2 r hr
    unfold rgok at q ⊢
    rw [e5 r 0, e5 r 1, e5 r 2, e5 r 3, e5 r 4]
    exact q
  · by_cases c : j = k
    · rw [c]
      exact hs
    · have q := i3 j hj
      unfold sok at q ⊢
      rw [e4 j 1 c, e4 j 2 c, e4 j 3 c, e4 j 4 c, e4 j 5 c, e5 _ 0, eB j _ c]
      exact q
/-- one regulation's rate, or that it is ended, is changed -/
theorem INV.rg {r : Nat} (hI : INV g F R) (hfr : ∀ a j p, ¬ (a = 5 ∧ j = r ∧ (p = 3 ∨ p = 4)) → g' a j p = g a j p) (hok : rgok g' r) : INV g' F R := by
  obtain ⟨i1, i2, i3⟩ := hI
  have cf : CF g g' := fun a j p q => hfr a j p (by omega)
  refine ⟨i1.cf cf, ⟨by rw [hfr 1 1 2 (by omega)]; exact i2.1, i2.2.1, fun q hq => ?_⟩, fun j hj => ?_⟩
  · by_cases c : q = r
    · rw [c]; exact hok
    · have z := i2.2.2 q hq
      unfold rgok at z ⊢
      rw [hfr 5 q 0 (by omega), hfr 5 q 1 (by omega), hfr 5 q 2 (by omega), hfr 5 q 3 (by omega), hfr 5 q 4 (by omega)]
      exact z
  · have q := i3 j hj
    unfold sok at q ⊢
    rw [cf.f (k := j) (p := 1) (by decide), cf.f (k := j) (p := 2) (by decide), cf.f (k := j) (p := 3) (by decide), cf.f (k := j) (p := 4) (by decide), cf.f (k := j) (p := 5) (by decide), hfr 5 _ 0 (by omega), cf.b]
    exact q
/-- a flight more -/
theorem INV.nf {c p : Int} (hI : INV g F R) (hF : F < 24) (hc : 0 ≤ c ∧ c < 4) (hp : 0 ≤ p ∧ p ≤ 1439)
    (hold : ∀ a j q, (a = 1 ∧ j = 1 ∨ (a = 4 ∧ q < 10 ∧ j ≠ F) ∨ (a = 5 ∧ j < R) ∨ ((a = 14 ∨ a = 15) ∧ j ≠ F)) → g' a j q = g a j q)
    (e102 : g' 1 0 2 = ((F + 1 : Nat) : Int)) (m0 : g' 4 F 0 = c) (m1 : g' 4 F 1 = p) (m2 : g' 4 F 2 = 0) (m3 : g' 4 F 3 = 0) (m4 : g' 4 F 4 = -1) (m5 : g' 4 F 5 = -1) (m6 : g' 4 F 6 = -1) (m7 : g' 4 F 7 = 0) (m8 : g' 4 F 8 = 0) (m9 : g' 4 F 9 = -1) (n14 : ∀ q, q < 6 → g' 14 F q = -1) (n15 : ∀ q, g' 15 F q = 0) : INV g' (F + 1) R := by
  obtain ⟨i1, i2, i3⟩ := hI
  have hne : ∀ k, k < F → k ≠ F := fun k h => by omega
  have h4 : ∀ k q, k < F → q < 10 → g' 4 k q = g 4 k q := fun k q h1 h2 => hold 4 k q (Or.inr (Or.inl ⟨rfl, h2, hne k h1⟩))
  have h14 : ∀ k q, k < F → g' 14 k q = g 14 k q := fun k q h1 => hold 14 k q (Or.inr (Or.inr (Or.inr ⟨Or.inl rfl, hne k h1⟩)))
  have h15 : ∀ k q, k < F → g' 15 k q = g 15 k q := fun k q h1 => hold 15 k q (Or.inr (Or.inr (Or.inr ⟨Or.inr rfl, hne k h1⟩)))
  have h5 : ∀ r q, r < R → g' 5 r q = g 5 r q := fun r q h1 => hold 5 r q (Or.inr (Or.inr (Or.inl ⟨rfl, h1⟩)))
  refine ⟨⟨e102, by omega, fun k hk => ?_⟩, ⟨by rw [hold 1 1 2 (Or.inl ⟨rfl, rfl⟩)]; exact i2.1, i2.2.1, fun r hr => ?_⟩, fun k hk => ?_⟩
  · by_cases ck : k = F
    · rw [ck]
      refine ⟨?_, fun s q1 q2 => ?_⟩
      · unfold flok
        rw [m0, m1, m2, m3, m4, m5, m6, m7, m8, m9]
        omega
      · rw [n14 s.toNat (by omega), n15]
        omega
    · have hkF : k < F := by omega
      obtain ⟨q1, q2⟩ := i1.2.2 k hkF
      refine ⟨?_, fun s q3 q4 => ?_⟩
      · unfold flok at q1 ⊢
        rw [h4 k 0 hkF (by decide), h4 k 1 hkF (by decide), h4 k 2 hkF (by decide), h4 k 3 hkF (by decide), h4 k 4 hkF (by decide), h4 k 5 hkF (by decide), h4 k 6 hkF (by decide), h4 k 7 hkF (by decide), h4 k 8 hkF (by decide), h4 k 9 hkF (by decide)]
        exact q1
      · rw [h14 k s.toNat hkF, h15 k s.toNat hkF]
        exact q2 s q3 q4
  · have q := i2.2.2 r hr
    unfold rgok at q ⊢
    rw [h5 r 0 hr, h5 r 1 hr, h5 r 2 hr, h5 r 3 hr, h5 r 4 hr]
    exact q
  · by_cases ck : k = F
    · rw [ck]
      unfold sok
      rw [m4, m5]
      exact ⟨Or.inl ⟨rfl, rfl⟩, fun _ _ => rfl⟩
    · have hkF : k < F := by omega
      have q := i3 k hkF
      unfold sok at q ⊢
      rw [h4 k 1 hkF (by decide), h4 k 2 hkF (by decide), h4 k 3 hkF (by decide), h4 k 4 hkF (by decide), h4 k 5 hkF (by decide)]
      refine ⟨?_, q.2⟩
      rcases q.1 with z | ⟨z1, z2, z3, z4⟩
      · exact Or.inl z
      · refine Or.inr ⟨z1, z2, z3, ?_⟩
        unfold uB at z4 ⊢
        rw [h5 _ 0 (by omega), h14 k _ hkF]
        exact z4
end IV
/-- the law's row of three is as it was -/
def D3 (g g' : zG) : Prop := ∀ p, g' 17 0 p = g 17 0 p
section TELL
variable {g : zG} {F R : Nat}
theorem t_actsFlight {c p : Int} (hI : INV g F R) (hc : 0 ≤ c ∧ c < 4) (hp : 0 ≤ p ∧ p ≤ 1439) : zT (sL_acts c p 0 0 0 g) (fun r g' => (r = -200 ∧ F = 24 ∧ g' = g) ∨ (r = (F : Int) ∧ F < 24 ∧ INV g' (F + 1) R ∧ D3 g g' ∧ g' 4 F 1 = p ∧ g' 4 F 2 = 0 ∧ g' 4 F 4 = -1 ∧ g' 4 F 5 = -1 ∧ ∀ s : Int, 0 ≤ s → s < 6 → uB g' F s = -1)) := by
  have h24 := hI.1.2.1
  have hF1 := hI.1.1
  have e1 := e_checkCompany (g := g) (x := c) (by constructor <;> omega)
  have e2 := e_checkRange (g := g) (x := p) (a := 0) (b := 1439) (by constructor <;> omega) (by decide) (by decide)
  rw [if_pos hc] at e1
  rw [if_pos hp] at e2
  unfold sL_acts
  refine zT_eqT (by decide) ?_
  by_cases c3 : F < 24
  · have e : sX4_flight c p g = some ((0, (F : Int)), zaddG (zFl g F c p) 0) := by
      refine zT_eqn ?_
      unfold sX4_flight zFlT
      refine zT_bxe e1 (zT_bxe e2 (zT_ltT (by omega) ?_))
      rw [if_pos (by omega), hF1, Int.toNat_natCast]
      exact zT_some ⟨by rw [show (F : Int) + 1 - 1 = (F : Int) from by omega], rfl⟩
    refine zT_bke e (zT_some (Or.inr ?_))
    have zFl_o : ∀ a j q, ¬ ((a = 4 ∨ a = 14 ∨ a = 15) ∧ j = F) → zFl g F c p a j q = g a j q := by
      intro a j q h
      unfold zFl
      by_cases cj : j = F
      · rw [if_pos cj, if_neg (by omega), if_neg (by omega), if_neg (by omega)]
      · rw [if_neg cj]
    have hcl : ∀ a j q, ¬ (((a = 4 ∨ a = 14 ∨ a = 15) ∧ j = F) ∨ (a = 1 ∧ j = 0)) → zaddG (zFl g F c p) 0 a j q = g a j q := by
      intro a j q h
      unfold zaddG
      rw [zup_rd, if_neg (by omega), zup_rd, if_neg (by omega), zFl_o a j q (by omega)]
    have n4 : ∀ a q, a ≠ 1 → zaddG (zFl g F c p) 0 a F q = zFl g F c p a F q := fun a q ha => by
      unfold zaddG
      rw [zup_rd, if_neg (by omega), zup_rd, if_neg (by omega)]
    have n14 : ∀ q, q < 6 → zaddG (zFl g F c p) 0 14 F q = -1 := fun q hq => by
      rw [n4 14 q (by decide)]
      unfold zFl
      rw [if_pos rfl, if_neg (by decide), if_pos rfl, if_pos hq]
    have m1 : zaddG (zFl g F c p) 0 4 F 1 = p := by rw [n4 4 1 (by decide)]; simp [zFl]
    have m2 : zaddG (zFl g F c p) 0 4 F 2 = 0 := by rw [n4 4 2 (by decide)]; simp [zFl]
    have m4 : zaddG (zFl g F c p) 0 4 F 4 = -1 := by rw [n4 4 4 (by decide)]; simp [zFl]
    have m5 : zaddG (zFl g F c p) 0 4 F 5 = -1 := by rw [n4 4 5 (by decide)]; simp [zFl]
    refine ⟨rfl, c3, ?_, fun q => hcl 17 0 q (by omega), m1, m2, m4, m5, fun s h1 h2 => n14 s.toNat (by omega)⟩
    refine hI.nf (c := c) (p := p) c3 hc hp (fun a j q h => hcl a j q (by omega)) ?_ ?_ m1 m2 ?_ m4 m5 ?_ ?_ ?_ ?_ n14 (fun q => ?_)
    · simp [zaddG, zup_rd]
      rw [zFl_o 1 0 2 (by omega), hF1]
    · rw [n4 4 0 (by decide)]; simp [zFl]
    · rw [n4 4 3 (by decide)]; simp [zFl]
    · rw [n4 4 6 (by decide)]; simp [zFl]
    · rw [n4 4 7 (by decide)]; simp [zFl]
    · rw [n4 4 8 (by decide)]; simp [zFl]
    · rw [n4 4 9 (by decide)]; simp [zFl]
    · rw [n4 15 q (by decide)]
      unfold zFl
      rw [if_pos rfl, if_neg (by decide), if_neg (by decide), if_pos rfl]
  · have e : sX4_flight c p g = some ((2 + 1, 0), g) := by
      refine zT_eqn ?_
      unfold sX4_flight
      exact zT_bxe e1 (zT_bxe e2 (zT_ltF (by omega) (zT_some ⟨rfl, rfl⟩)))
    exact zT_bk1 e (zT_some (Or.inl ⟨rfl, by omega, rfl⟩))
theorem t_actsEntry {k : Nat} {s b t : Int} (hI : INV g F R) (hk : k < F) (hs : 0 ≤ s ∧ s < 6) (hb : 0 ≤ b ∧ b ≤ 600) (ht : 1 ≤ t ∧ t ≤ 120) : zT (sL_acts (k : Int) s b t 1 g) (fun r g' => (r = -200 ∧ g' = g) ∨ (r = g 4 k 8 + 1 ∧ INV g' F R ∧ D3 g g' ∧ g' 4 k 2 = 0 ∧ g' 4 k 4 = -1 ∧ uB g' k s = b ∧ g' 15 k s.toNat = t)) := by
  have h24 := hI.1.2.1
  obtain ⟨hf0, hb0⟩ := hI.1.2.2 k hk
  have hs0 := hI.2.2 k hk
  have hf2 := hf0
  unfold flok at hf2
  have e1 := e_flightAt (x := (k : Int)) hI.1 (by constructor <;> omega)
  rw [if_pos (by omega)] at e1
  have e2 := e_checkSector (g := g) (x := s) (by constructor <;> omega)
  rw [if_pos hs] at e2
  have e3 := e_checkRange (g := g) (x := b) (a := 0) (b := 600) (by constructor <;> omega) (by decide) (by decide)
  rw [if_pos hb] at e3
  have e4 := e_checkRange (g := g) (x := t) (a := 1) (b := 120) (by constructor <;> omega) (by decide) (by decide)
  rw [if_pos ht] at e4
  have e5 := e_canEnterNext hf0 hb0 hs hb
  unfold sL_acts
  refine zT_eqF (by omega) (zT_eqT (by decide) ?_)
  by_cases c5 : g 4 k 2 = 0 ∧ g 4 k 4 = -1 ∧ g 4 k 8 < 5 ∧ uB g k s = -1 ∧ g 4 k 9 < b
  · rw [if_pos c5] at e5
    have e : sX4_entry (k : Int) s b t g = some ((0, g 4 k 8 + 1), zup (zup (zup (zup g 14 k s.toNat b) 15 k s.toNat t) 4 k 9 b) 4 k 8 (g 4 k 8 + 1)) := by
      refine zT_eqn ?_
      unfold sX4_entry
      refine zT_bxe e1 (zT_bxe e2 (zT_bxe e3 (zT_bxe e4 ?_)))
      rw [Int.toNat_natCast]
      refine zT_bde e5 (zT_eqF (by omega) (zT_bde (e_addEntry hs) (zT_some ⟨?_, rfl⟩)))
      simp [zup_rd]
    refine zT_bke e (zT_some (Or.inr ⟨rfl, ?_, fun q => ?_, ?_, ?_, ?_, ?_⟩))
    · refine hI.fl (k := k) (fun a j p q => by rw [zup_rd, if_neg (by omega), zup_rd, if_neg (by omega), zup_rd, if_neg (by omega), zup_rd, if_neg (by omega)]) (by unfold flok; simp [zup_rd]; omega) (fun s2 q1 q2 => ?_) ?_
      · have := hb0 s2 q1 q2
        simp only [zup_rd]
        split <;> split <;> omega
      · unfold sok at hs0 ⊢
        simp [zup_rd]
        refine ⟨Or.inl ?_, hs0.2⟩
        rcases hs0.1 with z | z
        · exact z
        · omega
    · rw [zup_rd, if_neg (by omega), zup_rd, if_neg (by omega), zup_rd, if_neg (by omega), zup_rd, if_neg (by omega)]
    · simp [zup_rd]
      exact c5.1
    · simp [zup_rd]
      exact c5.2.1
    · simp [uB, zup_rd]
    · simp [zup_rd]
  · rw [if_neg c5] at e5
    have e : sX4_entry (k : Int) s b t g = some ((2 + 1, 0), g) := by
      refine zT_eqn ?_
      unfold sX4_entry
      refine zT_bxe e1 (zT_bxe e2 (zT_bxe e3 (zT_bxe e4 ?_)))
      rw [Int.toNat_natCast]
      exact zT_bde e5 (zT_eqT (by omega) (zT_some ⟨rfl, rfl⟩))
    exact zT_bk1 e (zT_some (Or.inl ⟨rfl, rfl⟩))
theorem t_actsRegulation {s a b c : Int} (hI : INV g F R) (hs : 0 ≤ s ∧ s < 6) (ht : (0 ≤ a ∧ a ≤ 1439) ∧ (a + 1 ≤ b ∧ b ≤ 1440) ∧ (0 ≤ c ∧ c ≤ 60)) : zT (sL_acts s a b c 2 g) (fun r g' => (r = -200 ∧ R = 6 ∧ g' = g) ∨ (r = (R : Int) ∧ R < 6 ∧ INV g' F (R + 1) ∧ D3 g g' ∧ g' 5 R 1 = a ∧ g' 5 R 2 = b ∧ g' 5 R 3 = c ∧ g' 5 R 4 = 0)) := by
  have hR6 := hI.2.1.2.1
  have hR1 := hI.2.1.1
  have e1 := e_checkSector (g := g) (x := s) (by constructor <;> omega)
  rw [if_pos hs] at e1
  have e2 := e_checkTerm (g := g) (x := a) (y := b) (z := c) (by constructor <;> omega) (by constructor <;> omega) (by constructor <;> omega)
  rw [if_pos ht] at e2
  unfold sL_acts
  refine zT_eqF (by decide) (zT_eqF (by decide) (zT_eqT (by decide) ?_))
  by_cases c3 : R < 6
  · have e : sX4_regulation s a b c g = some ((0, (R : Int)), zaddG (zRg g R s a b c) 1) := by
      refine zT_eqn ?_
      unfold sX4_regulation zRgT
      refine zT_bxe e1 (zT_bxe e2 (zT_ltT (by omega) ?_))
      rw [if_pos (by omega), hR1, Int.toNat_natCast]
      exact zT_some ⟨by rw [show (R : Int) + 1 - 1 = (R : Int) from by omega], rfl⟩
    refine zT_bke e (zT_some (Or.inr ?_))
    generalize hgx : zaddG (zRg g R s a b c) 1 = gx
    have ox : ∀ x j p, ¬ ((x = 5 ∧ j = R) ∨ (x = 1 ∧ j = 1)) → gx x j p = g x j p := by
      intro x j p q
      rw [← hgx]
      unfold zaddG
      rw [zup_rd, if_neg (by omega), zup_rd, if_neg (by omega), zRg_o (by omega)]
    have x5 : ∀ p, gx 5 R p = zRg g R s a b c 5 R p := by
      intro p
      rw [← hgx]
      simp [zup_rd, zaddG]
    have x112 : gx 1 1 2 = ((R + 1 : Nat) : Int) := by
      rw [← hgx]
      simp [zup_rd, zaddG]
      rw [zRg_o (by omega), hR1]
    have cf : CF g gx := fun x j p q => ox x j p (by omega)
    obtain ⟨i1, i2, i3⟩ := hI
    refine ⟨rfl, c3, ?_, fun q => ox 17 0 q (by omega), by rw [x5]; simp [zRg], by rw [x5]; simp [zRg], by rw [x5]; simp [zRg], by rw [x5]; simp [zRg]⟩
    refine ⟨i1.cf cf, ⟨x112, by omega, fun q hq => ?_⟩, fun j hj => ?_⟩
    · by_cases cq : q = R
      · rw [cq]
        have := zRg_ok (g := g) (n := R) hs ht
        unfold rgok at this ⊢
        rw [x5, x5, x5, x5, x5]
        exact this
      · have z := i2.2.2 q (by omega)
        unfold rgok at z ⊢
        rw [ox 5 q 0 (by omega), ox 5 q 1 (by omega), ox 5 q 2 (by omega), ox 5 q 3 (by omega), ox 5 q 4 (by omega)]
        exact z
    · have q := i3 j hj
      unfold sok at q ⊢
      rw [cf.f (k := j) (p := 1) (by decide), cf.f (k := j) (p := 2) (by decide), cf.f (k := j) (p := 3) (by decide), cf.f (k := j) (p := 4) (by decide), cf.f (k := j) (p := 5) (by decide)]
      refine ⟨?_, q.2⟩
      rcases q.1 with z | ⟨z1, z2, z3, z4⟩
      · exact Or.inl z
      · refine Or.inr ⟨z1, z2, by omega, ?_⟩
        rw [ox 5 _ 0 (by omega), cf.b]
        exact z4
  · have e : sX4_regulation s a b c g = some ((2 + 1, 0), g) := by
      refine zT_eqn ?_
      unfold sX4_regulation
      exact zT_bxe e1 (zT_bxe e2 (zT_ltF (by omega) (zT_some ⟨rfl, rfl⟩)))
    exact zT_bk1 e (zT_some (Or.inl ⟨rfl, by omega, rfl⟩))
theorem t_actsRate {r : Nat} {c : Int} (hI : INV g F R) (hr : r < R) (hc : 0 ≤ c ∧ c ≤ 60) : zT (sL_acts (r : Int) c 0 0 3 g) (fun z g' => (z = -200 ∧ g' = g) ∨ ((0 ≤ z ∧ z ≤ 60) ∧ INV g' F R ∧ D3 g g' ∧ g' 5 r 3 = c)) := by
  have hR6 := hI.2.1.2.1
  have hrg := hI.2.1.2.2 r hr
  have hrg2 := hrg
  unfold rgok at hrg2
  have e1 := e_regulationAt (x := (r : Int)) hI.2.1.1 hR6 (by constructor <;> omega)
  rw [if_pos (by omega)] at e1
  have e2 := e_checkRange (g := g) (x := c) (a := 0) (b := 60) (by constructor <;> omega) (by decide) (by decide)
  rw [if_pos hc] at e2
  have e3 := e_checkNotEnded hrg
  unfold sL_acts
  refine zT_eqF (by decide) (zT_eqF (by decide) (zT_eqF (by decide) ?_))
  by_cases c3 : g 5 r 4 = 0
  · rw [if_pos c3] at e3
    have e : sX4_rate (r : Int) c g = some ((0, g 5 r 3), zup g 5 r 3 c) := by
      refine zT_eqn ?_
      unfold sX4_rate
      refine zT_bxe e1 (zT_bxe e2 ?_)
      rw [Int.toNat_natCast]
      exact zT_bxe e3 (zT_let (zT_st (zT_some ⟨rfl, rfl⟩)))
    refine zT_bke e (zT_some (Or.inr ⟨by omega, ?_, fun q => by rw [zup_rd, if_neg (by omega)], by simp [zup_rd]⟩))
    exact hI.rg (r := r) (fun a j p q => by rw [zup_rd, if_neg (by omega)]) (by unfold rgok; simp [zup_rd]; omega)
  · rw [if_neg c3] at e3
    have e : sX4_rate (r : Int) c g = some ((2 + 1, 0), g) := by
      refine zT_eqn ?_
      unfold sX4_rate
      refine zT_bxe e1 (zT_bxe e2 ?_)
      rw [Int.toNat_natCast]
      exact zT_bxt e3 ⟨rfl, rfl⟩
    exact zT_bk1 e (zT_some (Or.inl ⟨rfl, rfl⟩))
theorem t_ends {r : Nat} (hI : INV g F R) (hr : r < R) : zT (sL_ends (r : Int) g) (fun z g' => (z = 0 ∧ g 5 r 4 ≠ 0 ∧ g' = g) ∨ (z = 1 ∧ g 5 r 4 = 0 ∧ INV g' F R ∧ D3 g g' ∧ g' 5 r 4 = 1)) := by
  have hR6 := hI.2.1.2.1
  have hrg := hI.2.1.2.2 r hr
  have hrg2 := hrg
  unfold rgok at hrg2
  have e1 := e_regulationAt (x := (r : Int)) hI.2.1.1 hR6 (by constructor <;> omega)
  rw [if_pos (by omega)] at e1
  have e3 := e_checkNotEnded hrg
  unfold sL_ends
  by_cases c3 : g 5 r 4 = 0
  · rw [if_pos c3] at e3
    have e : sX4_end (r : Int) g = some ((0, 0), zup g 5 r 4 1) := by
      refine zT_eqn ?_
      unfold sX4_end
      refine zT_bxe e1 ?_
      rw [Int.toNat_natCast]
      exact zT_bxe e3 (zT_bo (by omega) (zT_st (zT_some ⟨rfl, rfl⟩)))
    refine zT_bke e (zT_bo (by omega) (zT_some (Or.inr ⟨rfl, c3, ?_, fun q => by rw [zup_rd, if_neg (by omega)], by simp [zup_rd]⟩)))
    exact hI.rg (r := r) (fun a j p q => by rw [zup_rd, if_neg (by omega)]) (by unfold rgok; simp [zup_rd]; omega)
  · rw [if_neg c3] at e3
    have e : sX4_end (r : Int) g = some ((2 + 1, 0), g) := by
      refine zT_eqn ?_
      unfold sX4_end
      refine zT_bxe e1 ?_
      rw [Int.toNat_natCast]
      exact zT_bxt e3 ⟨rfl, rfl⟩
    exact zT_bk1 e (zT_bo (by omega) (zT_some (Or.inl ⟨rfl, c3, rfl⟩)))
theorem t_exempts {k : Nat} {b : Int} (hI : INV g F R) (hk : k < F) (hb : b = 0 ∨ b = 1) : zT (sL_exempts (k : Int) b g) (fun z g' => (z = -200 ∧ 0 < g 4 k 2 ∧ g' = g) ∨ ((z = 0 ∨ z = 1) ∧ INV g' F R ∧ D3 g g' ∧ g' 4 k 3 = b ∧ (b = 1 → g' 4 k 4 = -1))) := by
  have h24 := hI.1.2.1
  obtain ⟨hf0, hb0⟩ := hI.1.2.2 k hk
  have hs0 := hI.2.2 k hk
  have hf2 := hf0
  unfold flok at hf2
  have e1 := e_flightAt (x := (k : Int)) hI.1 (by constructor <;> omega)
  rw [if_pos (by omega)] at e1
  unfold sL_exempts
  by_cases c2 : g 4 k 2 = 0
  · have hres : ∀ g', sX4_exempt (k : Int) b g = some ((0, g 4 k 3), g') → INV g' F R → D3 g g' → g' 4 k 3 = b → (b = 1 → g' 4 k 4 = -1) → zT (zbk 3 (fun g => some ((-200), g)) 0 (fun _ => none) (sX4_exempt (k : Int) b g) (fun r1 g => zeq r1 0 (some (0, g)) (some (1, g)))) (fun z g' => (z = -200 ∧ 0 < g 4 k 2 ∧ g' = g) ∨ ((z = 0 ∨ z = 1) ∧ INV g' F R ∧ D3 g g' ∧ g' 4 k 3 = b ∧ (b = 1 → g' 4 k 4 = -1))) := by
      intro g' e a1 a2 a3 a4
      refine zT_bke e (zT_eq (by omega) (fun _ => zT_some (Or.inr ⟨Or.inl rfl, a1, a2, a3, a4⟩)) (fun _ => zT_some (Or.inr ⟨Or.inr rfl, a1, a2, a3, a4⟩)))
    rcases hb with rfl | rfl
    · refine hres (zup g 4 k 3 0) (zT_eqn ?_) ?_ (fun q => by rw [zup_rd, if_neg (by omega)]) (by simp [zup_rd]) (fun z => by cases z)
      · unfold sX4_exempt
        refine zT_bxe e1 ?_
        rw [Int.toNat_natCast]
        exact zT_eqT (by omega) (zT_let (zT_bo (by omega) (zT_st (zT_eqT (by decide) (zT_bo (by omega) (zT_some ⟨rfl, rfl⟩))))))
      · refine hI.fl (k := k) (fun a j p q => by rw [zup_rd, if_neg (by omega)]) (by unfold flok; simp [zup_rd]; omega) (fun s q1 q2 => by simp [zup_rd]; exact hb0 s q1 q2) ?_
        unfold sok uB at hs0 ⊢
        simp [zup_rd]
        exact hs0.1
    · refine hres (zup (zup (zup g 4 k 3 1) 4 k 4 (-1)) 4 k 5 (-1)) (zT_eqn ?_) ?_ (fun q => by rw [zup_rd, if_neg (by omega), zup_rd, if_neg (by omega), zup_rd, if_neg (by omega)]) (by simp [zup_rd]) (fun _ => by simp [zup_rd])
      · unfold sX4_exempt
        refine zT_bxe e1 ?_
        rw [Int.toNat_natCast]
        exact zT_eqT (by omega) (zT_let (zT_bo (by omega) (zT_st (zT_eqF (by decide) (zT_bde e_loseSlotTime (zT_bo (by omega) (zT_some ⟨rfl, rfl⟩)))))))
      · refine hI.fl (k := k) (fun a j p q => by rw [zup_rd, if_neg (by omega), zup_rd, if_neg (by omega), zup_rd, if_neg (by omega)]) (by unfold flok; simp [zup_rd]; omega) (fun s q1 q2 => by simp [zup_rd]; exact hb0 s q1 q2) ?_
        unfold sok
        simp [zup_rd]
  · have e : sX4_exempt (k : Int) b g = some ((2 + 1, 0), g) := by
      refine zT_eqn ?_
      unfold sX4_exempt
      refine zT_bxe e1 ?_
      rw [Int.toNat_natCast]
      exact zT_eqF (by omega) (zT_some ⟨rfl, rfl⟩)
    exact zT_bk1 e (zT_some (Or.inl ⟨rfl, by omega, rfl⟩))
end TELL

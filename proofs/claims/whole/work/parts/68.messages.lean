/-! messages, swaps -/
theorem zup_comm {g : zG} {a b c a' b' c' : Nat} {x y : Int} (h : ¬ (a = a' ∧ b = b' ∧ c = c')) : zup (zup g a b c x) a' b' c' y = zup (zup g a' b' c' y) a b c x := by
  funext i j k
  simp only [zup_rd]
  by_cases h1 : i = a ∧ j = b ∧ k = c
  · rw [if_neg (by omega), if_pos h1, if_pos h1]
  · rw [if_neg h1, if_neg h1]
section MSG
variable {g h : zG} {a1 a2 a3 a4 : Int} {F R n k : Nat}
abbrev uMok (a2 a3 a4 : Int) : Prop := (1 ≤ a2 ∧ a2 ≤ 99) ∧ (0 ≤ a3 ∧ a3 ≤ 2) ∧ (0 ≤ a4 ∧ a4 ≤ (if a3 = 1 then 0 else 1439))
theorem e_message_bad (hF : FOK g F) (hk : k < F) (h2 : zIn a2) (h3 : zIn a3) (h4 : zIn a4) (hn : ¬ uMok a2 a3 a4) : sX4_message (k : Int) a2 a3 a4 g = some ((1 + 1, 0), g) := by
  have h24 := hF.2.1
  have e1 := e_flightAt (x := (k : Int)) hF (by constructor <;> omega)
  rw [if_pos (by omega)] at e1
  refine zT_eqn ?_
  unfold sX4_message sX4_message_j35
  refine zT_bxe e1 ?_
  have e2 := e_checkRange (g := g) (x := a2) (a := 1) (b := 99) h2 (by decide) (by decide)
  by_cases c2 : 1 ≤ a2 ∧ a2 ≤ 99
  · rw [if_pos c2] at e2
    refine zT_bxe e2 ?_
    have e3 := e_checkRange (g := g) (x := a3) (a := 0) (b := 2) h3 (by decide) (by decide)
    by_cases c3 : 0 ≤ a3 ∧ a3 ≤ 2
    · rw [if_pos c3] at e3
      refine zT_bxe e3 ?_
      refine zT_eq (by omega) (fun c => ?_) (fun c => ?_)
      · have e4 := e_checkRange (g := g) (x := a4) (a := 0) (b := 0) h4 (by decide) (by decide)
        have : ¬ (0 ≤ a4 ∧ a4 ≤ 0) := fun z => hn ⟨c2, c3, by rw [if_pos c]; exact z⟩
        rw [if_neg this] at e4
        exact zT_bxt e4 ⟨rfl, rfl⟩
      · have e4 := e_checkRange (g := g) (x := a4) (a := 0) (b := 1439) h4 (by decide) (by decide)
        have : ¬ (0 ≤ a4 ∧ a4 ≤ 1439) := fun z => hn ⟨c2, c3, by rw [if_neg c]; exact z⟩
        rw [if_neg this] at e4
        exact zT_bxt e4 ⟨rfl, rfl⟩
    · rw [if_neg c3] at e3
      exact zT_bxt e3 ⟨rfl, rfl⟩
  · rw [if_neg c2] at e2
    exact zT_bxt e2 ⟨rfl, rfl⟩
theorem e_message_pre {P : Nat × Int → zG → Prop} (hF : FOK g F) (hk : k < F) (h2 : zIn a2) (h3 : zIn a3) (h4 : zIn a4) (hok : uMok a2 a3 a4) (hc : zT (zeq (g 4 k 2) 0 (zle a2 (g 4 k 7) (zbo 0 (some ((0, 0), g))) (zst g 4 k 7 a2 (fun g => zbd (sX1_follow k a3 a4 g) (fun _ g => zbo 1 (some ((0, 1), g)))))) (zbo 0 (some ((0, 0), g)))) P) : zT (sX4_message (k : Int) a2 a3 a4 g) P := by
  have h24 := hF.2.1
  have e1 := e_flightAt (x := (k : Int)) hF (by constructor <;> omega)
  rw [if_pos (by omega)] at e1
  obtain ⟨c2, c3, c4⟩ := hok
  unfold sX4_message sX4_message_j35
  refine zT_bxe e1 ?_
  have e2 := e_checkRange (g := g) (x := a2) (a := 1) (b := 99) h2 (by decide) (by decide)
  rw [if_pos c2] at e2
  refine zT_bxe e2 ?_
  have e3 := e_checkRange (g := g) (x := a3) (a := 0) (b := 2) h3 (by decide) (by decide)
  rw [if_pos c3] at e3
  refine zT_bxe e3 ?_
  simp only [Int.toNat_natCast]
  refine zT_eq (by omega) (fun c => ?_) (fun c => ?_)
  · have e4 := e_checkRange (g := g) (x := a4) (a := 0) (b := 0) h4 (by decide) (by decide)
    rw [if_pos c] at c4
    rw [if_pos c4] at e4
    exact zT_bxe e4 hc
  · have e4 := e_checkRange (g := g) (x := a4) (a := 0) (b := 1439) h4 (by decide) (by decide)
    rw [if_neg c] at c4
    rw [if_pos c4] at e4
    exact zT_bxe e4 hc
/-- the reference, as far as its choice of what is thrown -/
theorem g_message_pre {x : Int} {P : Int → zG → Prop} (hf : h 6 0 1 = (F : Int)) (hF : F ≤ 24) (h1 : zIn x) (h2 : zIn a2) (h3 : zIn a3) (h4 : zIn a4) (hc : ∀ t, t = (if 0 ≤ x ∧ x < (F : Int) then (if uMok a2 a3 a4 then 0 else 2) else 1) → zT (sX5_message_j74 x a2 a3 a4 t h) P) : zT (sX5_message x a2 a3 a4 h) P := by
  have hj : ∀ t0, (t0 = 0 ∨ t0 = 1) → t0 = (if uMok a2 a3 a4 then 1 else 0) → zT (sX5_message_j45 x a2 a3 a4 t0 h) P := by
    intro t0 ht ht2
    unfold sX5_message_j45
    refine zT_bde (f_isFlight hf hF h1) ?_
    by_cases c1 : 0 ≤ x ∧ x < (F : Int)
    · rw [if_pos c1]
      refine zT_eqF (by omega) (zT_eq (by omega) (fun c => ?_) (fun c => ?_))
      · refine hc 2 ?_
        rw [if_pos c1, if_neg]
        intro z
        rw [if_pos z] at ht2
        omega
      · refine hc 0 ?_
        rw [if_pos c1]
        by_cases z : uMok a2 a3 a4
        · rw [if_pos z]
        · rw [if_neg z] at ht2
          omega
    · rw [if_neg c1]
      exact zT_eqT (by omega) (hc 1 (by rw [if_neg c1]))
  unfold sX5_message sX5_message_j34 sX5_message_j44
  refine zT_bde (f_isIn h2 (by decide) (by decide)) ?_
  by_cases c2 : 1 ≤ a2 ∧ a2 ≤ 99
  · rw [if_pos c2]
    refine zT_eqF (by omega) (zT_bde (f_isIn h3 (by decide) (by decide)) ?_)
    by_cases c3 : 0 ≤ a3 ∧ a3 ≤ 2
    · rw [if_pos c3]
      refine zT_eqF (by omega) (zT_eq (by omega) (fun c => ?_) (fun c => ?_))
      · refine zT_bde (f_isIn h4 (by decide) (by decide)) ?_
        by_cases c4 : 0 ≤ a4 ∧ a4 ≤ 0
        · rw [if_pos c4]
          exact zT_eqF (by omega) (hj 1 (Or.inr rfl) (by rw [if_pos ⟨c2, c3, by rw [if_pos c]; exact c4⟩]))
        · rw [if_neg c4]
          exact zT_eqT (by omega) (hj 0 (Or.inl rfl) (by rw [if_neg]; intro z; have := z.2.2; rw [if_pos c] at this; exact c4 this))
      · refine zT_bde (f_isIn h4 (by decide) (by decide)) ?_
        by_cases c4 : 0 ≤ a4 ∧ a4 ≤ 1439
        · rw [if_pos c4]
          exact zT_eqF (by omega) (hj 1 (Or.inr rfl) (by rw [if_pos ⟨c2, c3, by rw [if_neg c]; exact c4⟩]))
        · rw [if_neg c4]
          exact zT_eqT (by omega) (hj 0 (Or.inl rfl) (by rw [if_neg]; intro z; have := z.2.2; rw [if_neg c] at this; exact c4 this))
    · rw [if_neg c3]
      exact zT_eqT (by omega) (hj 0 (Or.inl rfl) (by rw [if_neg (fun z => c3 z.2.1)]))
  · rw [if_neg c2]
    exact zT_eqT (by omega) (hj 0 (Or.inl rfl) (by rw [if_neg (fun z => c2 z.1)]))
/-- what the going of a flight writes in the reference's rows -/
def uGo (g h : zG) (k : Nat) (m : Int) : zG := if g 4 k 4 = -1 then zup (zup h 22 0 k 1) 23 0 k m else zup (zup (zup (zup (zup h 22 0 k 1) 23 0 k m) 36 0 (g 4 k 5).toNat (h 36 0 (g 4 k 5).toNat + (g 4 k 4 - g 4 k 1))) 38 0 (g 4 k 0).toNat (h 38 0 (g 4 k 0).toNat + (g 4 k 4 - g 4 k 1))) 39 0 (g 4 k 0).toNat (h 39 0 (g 4 k 0).toNat + (if g 4 k 4 - 5 ≤ m ∧ m ≤ g 4 k 4 + 10 then 0 else 1))
theorem g_goes {m : Int} (hk : k < F) (hF : F ≤ 24) (hf : flok g k) (hs : sok g R k) (hR : R ≤ 6) (b0 : h 20 0 k = g 4 k 0) (b1 : h 21 0 k = g 4 k 1) (b4 : h 24 0 k = g 4 k 4) (b5 : h 25 0 k = g 4 k 5) (hm : 0 ≤ m ∧ m ≤ 1439) : sX5_goes (k : Int) m h = some (0, uGo g h k m) := by
  have hf2 := hf
  unfold flok at hf2
  refine zT_eqn ?_
  unfold sX5_goes sX5_goes_j109
  simp only [Int.toNat_natCast]
  refine zT_ix (by omega) (zT_st (zT_ix (by omega) (zT_st (zT_ix (by omega) ?_))))
  simp [zup_rd, b0, b1, b4, b5]
  unfold uGo
  refine zT_eq (by omega) (fun c => ?_) (fun c => ?_)
  · rw [if_pos (by omega)]
    exact zT_some ⟨rfl, rfl⟩
  · rw [if_neg (by omega)]
    have hru : 0 ≤ g 4 k 5 ∧ g 4 k 5 < (R : Int) := by
      rcases hs.1 with z | z
      · omega
      · exact ⟨z.2.1, z.2.2.1⟩
    refine zT_ix (by omega) (zT_ix (by omega) (zT_let (zT_ix (by omega) (zT_ix (by omega) (zT_ix (by omega) (zT_st (zT_ix (by omega) ?_)))))))
    simp [zup_rd, b0, b1, b4, b5]
    refine zT_ix (by omega) (zT_ix (by omega) (zT_st (zT_ix (by omega) ?_)))
    simp [zup_rd, b0, b1, b4, b5]
    refine zT_ix (by omega) (zT_ix (by omega) (zT_ix (by omega) (zT_let (zT_let ?_))))
    refine zT_bde (f_isIn (by constructor <;> omega) (by constructor <;> omega) (by constructor <;> omega)) ?_
    by_cases cw : g 4 k 4 - 5 ≤ m ∧ m ≤ g 4 k 4 + 10
    · rw [if_pos cw, if_pos cw, Int.add_zero]
      exact zT_eqF (by omega) (zT_ix (by omega) (zT_st (zT_some ⟨rfl, rfl⟩)))
    · rw [if_neg cw, if_neg cw]
      exact zT_eqT (by omega) (zT_ix (by omega) (zT_st (zT_some ⟨rfl, rfl⟩)))
theorem uGo_o {m : Int} {a j p : Nat} (hn : ¬ (((a = 22 ∨ a = 23) ∧ j = 0 ∧ p = k) ∨ a = 36 ∨ a = 38 ∨ a = 39)) : uGo g h k m a j p = h a j p := by
  unfold uGo
  split
  · rw [zup_rd, if_neg (by omega), zup_rd, if_neg (by omega)]
  · rw [zup_rd, if_neg (by omega), zup_rd, if_neg (by omega), zup_rd, if_neg (by omega), zup_rd, if_neg (by omega), zup_rd, if_neg (by omega)]
theorem KS.upv {g' : zG} (q : KS R g g') {k j p : Nat} {x y : Int} (hx : x = y) : KS R (zup g k j p x) (zup g' k j p y) := by
  rw [hx]
  exact q.up
theorem KS.go {v h' : zG} {m : Int} (q : KS R h h') : KS R (uGo v h k m) (uGo v h' k m) := by
  unfold uGo
  split
  · exact q.up.up
  · refine KS.upv (KS.upv (KS.upv q.up.up ?_) ?_) ?_
    · rw [q 36 0 _ (by omega)]
    · rw [q 38 0 _ (by omega)]
    · rw [q 39 0 _ (by omega)]
/-- a flight goes, on both sides -/
theorem REL.go {m u : Int} (hI : INV g F R) (hRf : REF g g F R) (hk : k < F) (h2 : g 4 k 2 = 0) (hm : 0 ≤ m ∧ m ≤ 1439) (hu : 1 ≤ u ∧ u ≤ 99) : INV (uGo g (zup (zup (zup (zup g 4 k 7 u) 4 k 2 1) 4 k 6 m) 28 0 k u) k m) F R ∧ REF (uGo g (zup (zup (zup (zup g 4 k 7 u) 4 k 2 1) 4 k 6 m) 28 0 k u) k m) (uGo g (zup (zup (zup (zup g 4 k 7 u) 4 k 2 1) 4 k 6 m) 28 0 k u) k m) F R := by
  have hR6 := hI.2.1.2.1
  obtain ⟨hf0, hb0⟩ := hI.1.2.2 k hk
  have hs0 := hI.2.2 k hk
  have hf2 := hf0
  unfold flok at hf2
  have hrow0 := hRf.1.2 k hk
  generalize hh : zup (zup (zup (zup g 4 k 7 u) 4 k 2 1) 4 k 6 m) 28 0 k u = h
  have ho : ∀ a j p, ¬ ((a = 4 ∧ j = k ∧ (p = 2 ∨ p = 6 ∨ p = 7)) ∨ (a = 28 ∧ j = 0 ∧ p = k)) → h a j p = g a j p := by
    intro a j p q
    rw [← hh, zup_rd, if_neg (by omega), zup_rd, if_neg (by omega), zup_rd, if_neg (by omega), zup_rd, if_neg (by omega)]
  have m2 : h 4 k 2 = 1 := by rw [← hh]; simp [zup_rd]
  have m6 : h 4 k 6 = m := by rw [← hh]; simp [zup_rd]
  have m7 : h 4 k 7 = u := by rw [← hh]; simp [zup_rd]
  have m28 : h 28 0 k = u := by rw [← hh]; simp [zup_rd]
  generalize hx : uGo g h k m = x
  have xo : ∀ a j p, ¬ (((a = 22 ∨ a = 23) ∧ j = 0 ∧ p = k) ∨ a = 36 ∨ a = 38 ∨ a = 39) → x a j p = h a j p := fun a j p q => by rw [← hx]; exact uGo_o q
  have x22 : x 22 0 k = 1 := by
    rw [← hx]
    unfold uGo
    split <;> simp [zup_rd]
  have x23 : x 23 0 k = m := by
    rw [← hx]
    unfold uGo
    split <;> simp [zup_rd]
  have y2 : x 4 k 2 = 1 := by rw [xo 4 k 2 (by omega)]; exact m2
  have y6 : x 4 k 6 = m := by rw [xo 4 k 6 (by omega)]; exact m6
  have y7 : x 4 k 7 = u := by rw [xo 4 k 7 (by omega)]; exact m7
  have y : ∀ p, p ≠ 2 → p ≠ 6 → p ≠ 7 → x 4 k p = g 4 k p := fun p q1 q2 q3 => by rw [xo 4 k p (by omega), ho 4 k p (by omega)]
  have y0 := y 0 (by decide) (by decide) (by decide)
  have y1 := y 1 (by decide) (by decide) (by decide)
  have y3 := y 3 (by decide) (by decide) (by decide)
  have y4 := y 4 (by decide) (by decide) (by decide)
  have y5 := y 5 (by decide) (by decide) (by decide)
  have y8 := y 8 (by decide) (by decide) (by decide)
  have y9 := y 9 (by decide) (by decide) (by decide)
  have y14 : ∀ p, x 14 k p = g 14 k p := fun p => by rw [xo 14 k p (by omega), ho 14 k p (by omega)]
  have y15 : ∀ p, x 15 k p = g 15 k p := fun p => by rw [xo 15 k p (by omega), ho 15 k p (by omega)]
  have hw : g 4 k 2 ≠ 1 := by omega
  refine REL.fl hI hRf hk (fun a j p q => ?_) ?_ (fun s q1 q2 => ?_) ?_ ?_ (fun r hr => ?_) (fun c hc => ?_)
  · rw [xo a j p (by omega), ho a j p (by omega)]
  · unfold flok
    rw [y0, y1, y2, y3, y4, y5, y6, y7, y8, y9]
    omega
  · rw [y14, y15]
    exact hb0 s q1 q2
  · unfold sok uB at hs0 ⊢
    rw [y1, y2, y3, y4, y5, xo 5 _ 0 (by omega), ho 5 _ 0 (by omega), y14]
    exact ⟨hs0.1, fun q => by omega⟩
  · obtain ⟨⟨d0, d1, d2, d3, d4, d5, d6, d7, d8, d9⟩, e⟩ := hrow0
    unfold FRw
    rw [y0, y1, y2, y3, y4, y5, y6, y7, y8, y9, x22, x23, xo 20 0 k (by omega), xo 21 0 k (by omega), xo 24 0 k (by omega), xo 25 0 k (by omega), xo 26 0 k (by omega), xo 27 0 k (by omega), xo 28 0 k (by omega), xo 29 0 k (by omega), m28, ho 20 0 k (by omega), ho 21 0 k (by omega), ho 24 0 k (by omega), ho 25 0 k (by omega), ho 26 0 k (by omega), ho 27 0 k (by omega), ho 29 0 k (by omega)]
    refine ⟨⟨d0, d1, rfl, fun _ => rfl, d4, d5, d6, d7, rfl, d9⟩, fun s q1 q2 => ?_⟩
    rw [y14, y15, xo 30 0 _ (by omega), xo 31 0 _ (by omega), ho 30 0 _ (by omega), ho 31 0 _ (by omega)]
    exact e s q1 q2
  · rw [uCh_wait hw]
    have e : uChr x (r : Int) k = if g 4 k 5 = (r : Int) then (if g 4 k 4 = -1 then 0 else g 4 k 4 - g 4 k 1) else 0 := by
      unfold uChr uChg uDly
      rw [y1, y2, y4, y5, if_pos rfl]
    rw [e]
    by_cases c4 : g 4 k 4 = -1
    · have : x 36 0 r = g 36 0 r := by
        rw [← hx]
        unfold uGo
        rw [if_pos c4]
        simp [zup_rd]
        exact ho 36 0 r (by omega)
      rw [this, if_pos c4]
      split <;> omega
    · have hru : 0 ≤ g 4 k 5 := by
        rcases hs0.1 with z | z <;> omega
      have : x 36 0 r = if r = (g 4 k 5).toNat then g 36 0 r + (g 4 k 4 - g 4 k 1) else g 36 0 r := by
        rw [← hx]
        unfold uGo
        rw [if_neg c4]
        simp only [zup_rd]
        by_cases cr : r = (g 4 k 5).toNat
        · simp [cr]
          exact ho 36 0 _ (by omega)
        · simp [cr]
          exact ho 36 0 r (by omega)
      rw [this, if_neg c4]
      by_cases cr : r = (g 4 k 5).toNat
      · rw [if_pos cr, if_pos (by omega)]
        omega
      · rw [if_neg cr, if_neg (by omega)]
        omega
  · rw [uCo_wait hw (Or.inl rfl), uCo_wait hw (Or.inr rfl)]
    have e0 : uCoi x (c : Int) 0 k = if g 4 k 0 = (c : Int) then (if g 4 k 4 = -1 then 0 else g 4 k 4 - g 4 k 1) else 0 := by
      unfold uCoi uLed uChg uDly
      rw [y0, y1, y2, y4, if_pos rfl, if_pos rfl]
    have e1 : uCoi x (c : Int) 1 k = if g 4 k 0 = (c : Int) then (if g 4 k 4 ≠ -1 ∧ (m < g 4 k 4 - 5 ∨ g 4 k 4 + 10 < m) then 1 else 0) else 0 := by
      unfold uCoi uLed uOut
      rw [y0, y2, y4, y6]
      simp
    rw [e0, e1]
    by_cases c4 : g 4 k 4 = -1
    · have t38 : x 38 0 c = g 38 0 c := by
        rw [← hx]
        unfold uGo
        rw [if_pos c4]
        simp [zup_rd]
        exact ho 38 0 c (by omega)
      have t39 : x 39 0 c = g 39 0 c := by
        rw [← hx]
        unfold uGo
        rw [if_pos c4]
        simp [zup_rd]
        exact ho 39 0 c (by omega)
      rw [t38, t39, if_pos c4]
      by_cases cc : g 4 k 0 = (c : Int)
      · rw [if_pos cc, if_pos cc, if_neg (fun z => z.1 c4)]
        constructor <;> omega
      · rw [if_neg cc, if_neg cc]
        constructor <;> omega
    · have t38 : x 38 0 c = if c = (g 4 k 0).toNat then g 38 0 c + (g 4 k 4 - g 4 k 1) else g 38 0 c := by
        rw [← hx]
        unfold uGo
        rw [if_neg c4]
        simp only [zup_rd]
        by_cases cr : c = (g 4 k 0).toNat
        · simp [cr]
          exact ho 38 0 _ (by omega)
        · simp [cr]
          exact ho 38 0 c (by omega)
      have t39 : x 39 0 c = if c = (g 4 k 0).toNat then g 39 0 c + (if g 4 k 4 - 5 ≤ m ∧ m ≤ g 4 k 4 + 10 then 0 else 1) else g 39 0 c := by
        rw [← hx]
        unfold uGo
        rw [if_neg c4]
        simp only [zup_rd]
        by_cases cr : c = (g 4 k 0).toNat
        · simp [cr]
          exact ho 39 0 _ (by omega)
        · simp [cr]
          exact ho 39 0 c (by omega)
      rw [t38, t39, if_neg c4]
      by_cases cr : c = (g 4 k 0).toNat
      · rw [if_pos cr, if_pos cr, if_pos (show g 4 k 0 = (c : Int) from by omega), if_pos (show g 4 k 0 = (c : Int) from by omega)]
        refine ⟨by omega, ?_⟩
        by_cases cw : g 4 k 4 - 5 ≤ m ∧ m ≤ g 4 k 4 + 10
        · rw [if_pos cw, if_neg (by omega)]
          omega
        · rw [if_neg cw, if_pos (by omega)]
          omega
      · rw [if_neg cr, if_neg cr, if_neg (show ¬ g 4 k 0 = (c : Int) from by omega), if_neg (show ¬ g 4 k 0 = (c : Int) from by omega)]
        constructor <;> omega
theorem case21 (hr : REL g) (h1 : zIn a1) (h2 : zIn a2) (h3 : zIn a3) (h4 : zIn a4) : ∃ g', sLc21 4000 a1 a2 a3 a4 g = some g' ∧ REL g' := by
  obtain ⟨F, R, hI, hRf⟩ := hr
  have h24 := hI.1.2.1
  have hR6 := hI.2.1.2.1
  unfold sLc21 sL_message sL_message_j20
  have e1 := e_flightAt hI.1 h1
  by_cases c1 : 0 ≤ a1 ∧ a1 < (F : Int)
  · rw [if_pos c1] at e1
    obtain ⟨k, rfl⟩ : ∃ k : Nat, a1 = (k : Int) := ⟨a1.toNat, by omega⟩
    have hkF : k < F := by omega
    obtain ⟨hf0, hb0⟩ := hI.1.2.2 k hkF
    have hs0 := hI.2.2 k hkF
    have hf2 := hf0
    unfold flok at hf2
    have hrow0 := hRf.1.2 k hkF
    by_cases c2 : uMok a2 a3 a4
    · have hpre : ∀ (g1 : zG) (P : Int → zG → Prop), REF g1 g F R → zT (sX5_message_j74 (k : Int) a2 a3 a4 0 g1) P → zT (sX5_message (k : Int) a2 a3 a4 g1) P := fun g1 P hf hc => g_message_pre hf.1.1 h24 h1 h2 h3 h4 (fun t ht => by
        rw [if_pos c1, if_pos c2] at ht
        subst ht
        exact hc)
      by_cases c3 : g 4 k 2 = 0 ∧ g 4 k 7 < a2
      · obtain ⟨q1, q2, q3⟩ := c2
        have q4 : 0 ≤ a4 ∧ a4 ≤ 1439 := by
          split at q3 <;> omega
        by_cases k0 : a3 = 0
        · -- planned anew
          by_cases cl : g 4 k 4 < a4
          · refine z_cmpb (O := (0, 1)) (P1 := fun g1 => KS R (zup (zup (zup (zup g 4 k 7 a2) 4 k 1 a4) 4 k 4 (-1)) 4 k 5 (-1)) g1) ?_ (Or.inl rfl) (fun _ => Or.inr rfl) (fun _ _ h => h.sk (Or.inl rfl)) (fun g1 h => ?_)
            · refine e_message_pre hI.1 hkF h2 h3 h4 ⟨q1, q2, q3⟩ ?_
              refine zT_eqT (by omega) (zT_leF (by omega) (zT_st ?_))
              unfold sX1_follow
              refine zT_bd (zT_eqT (by omega) (zT_st ?_))
              simp [zup_rd]
              refine zT_ltT (by omega) (zT_bde e_loseSlotTime (zT_some (zT_bo (by omega) (zT_some ⟨rfl, KS.rf⟩))))
            · have hf : REF g1 g F R := (hRf.rows (g' := zup (zup (zup (zup g 4 k 7 a2) 4 k 1 a4) 4 k 4 (-1)) 4 k 5 (-1)) (fun a j p q => by rw [zup_rd, if_neg (by omega), zup_rd, if_neg (by omega), zup_rd, if_neg (by omega), zup_rd, if_neg (by omega)])).l h
              obtain ⟨⟨b0, b1, b2, b3, b4, b5, b6, b7, b8, b9⟩, d2⟩ := hf.1.2 k hkF
              refine hpre g1 _ hf ?_
              unfold sX5_message_j74 sX5_message_j130 sX5_message_j160 sX5_message_j181
              refine zT_holds (by decide) ?_
              rw [if_pos rfl]
              simp only [Int.toNat_natCast]
              refine zT_eqF (by omega) (zT_ix (by omega) ?_)
              simp [zup_rd]
              refine zT_eqT (by omega) (zT_ix (by omega) (zT_leF (by omega) (zT_ix (by omega) (zT_st (zT_eqT (by omega) (zT_ix (by omega) ?_))))))
              simp [zup_rd]
              refine zT_ltT (by omega) (zT_ix (by omega) (zT_st (zT_eqF (by omega) (zT_ix (by omega) (zT_st (zT_eqF (by omega) (zT_ix (by omega) (zT_st (zT_bo (by omega) (zT_some ⟨?_, ?_, ?_, ?_⟩))))))))))
              · simp [zup_rd, uPos]
              · first | rfl | simp [zup_rd]
              · simp [zup_rd]
              · obtain ⟨x1, x2⟩ := REL.fl (g' := zup (zup (zup (zup (zup (zup (zup (zup g 4 k 7 a2) 4 k 1 a4) 4 k 4 (-1)) 4 k 5 (-1)) 28 0 k a2) 21 0 k a4) 24 0 k (-1)) 25 0 k (-1)) hI hRf hkF (fun a j p q => by rw [zup_rd, if_neg (by omega), zup_rd, if_neg (by omega), zup_rd, if_neg (by omega), zup_rd, if_neg (by omega), zup_rd, if_neg (by omega), zup_rd, if_neg (by omega), zup_rd, if_neg (by omega), zup_rd, if_neg (by omega)]) (by unfold flok; simp [zup_rd]; omega) (fun s p1 p2 => by simp [zup_rd]; exact hb0 s p1 p2) (by
                  unfold sok
                  simp [zup_rd]) (by
                  obtain ⟨d1, d2⟩ := hrow0
                  unfold FRw
                  simp [zup_rd]
                  exact ⟨⟨d1.1, d1.2.2.1, d1.2.2.2.1, d1.2.2.2.2.2.2.1, d1.2.2.2.2.2.2.2.1, d1.2.2.2.2.2.2.2.2.2⟩, d2⟩) (fun r _ => by
                  rw [uCh_wait (g := g) (by omega), uCh_wait (by simp [zup_rd]; omega)]
                  simp [zup_rd]) (fun c _ => by
                  rw [uCo_wait (g := g) (by omega) (Or.inl rfl), uCo_wait (g := g) (by omega) (Or.inr rfl), uCo_wait (by simp [zup_rd]; omega) (Or.inl rfl), uCo_wait (by simp [zup_rd]; omega) (Or.inr rfl)]
                  simp [zup_rd])
                exact REL.ks x1 x2 (KS.up (KS.up (KS.up (KS.up (h.sk (Or.inr ⟨rfl, rfl⟩))))))
          · refine z_cmpb (O := (0, 1)) (P1 := fun g1 => KS R (zup (zup g 4 k 7 a2) 4 k 1 a4) g1) ?_ (Or.inl rfl) (fun _ => Or.inr rfl) (fun _ _ h => h.sk (Or.inl rfl)) (fun g1 h => ?_)
            · refine e_message_pre hI.1 hkF h2 h3 h4 ⟨q1, q2, q3⟩ ?_
              refine zT_eqT (by omega) (zT_leF (by omega) (zT_st ?_))
              unfold sX1_follow
              refine zT_bd (zT_eqT (by omega) (zT_st ?_))
              simp [zup_rd]
              refine zT_ltF (by omega) (zT_some (zT_bo (by omega) (zT_some ⟨rfl, KS.rf⟩)))
            · have hf : REF g1 g F R := (hRf.rows (g' := zup (zup g 4 k 7 a2) 4 k 1 a4) (fun a j p q => by rw [zup_rd, if_neg (by omega), zup_rd, if_neg (by omega)])).l h
              obtain ⟨⟨b0, b1, b2, b3, b4, b5, b6, b7, b8, b9⟩, d2⟩ := hf.1.2 k hkF
              refine hpre g1 _ hf ?_
              unfold sX5_message_j74 sX5_message_j130 sX5_message_j160 sX5_message_j181
              refine zT_holds (by decide) ?_
              rw [if_pos rfl]
              simp only [Int.toNat_natCast]
              refine zT_eqF (by omega) (zT_ix (by omega) ?_)
              simp [zup_rd]
              refine zT_eqT (by omega) (zT_ix (by omega) (zT_leF (by omega) (zT_ix (by omega) (zT_st (zT_eqT (by omega) (zT_ix (by omega) ?_))))))
              simp [zup_rd]
              refine zT_ltF (by omega) (zT_ix (by omega) (zT_st (zT_eqT (by omega) (zT_ix (by omega) (zT_ix (by omega) (zT_st (zT_eqT (by omega) (zT_ix (by omega) (zT_ix (by omega) (zT_st (zT_bo (by omega) (zT_some ⟨?_, ?_, ?_, ?_⟩))))))))))))
              · simp [zup_rd, uPos]
              · first | rfl | simp [zup_rd]
              · simp [zup_rd]
              · rw [zup_id, zup_id]
                obtain ⟨x1, x2⟩ := REL.fl (g' := zup (zup (zup (zup g 4 k 7 a2) 4 k 1 a4) 28 0 k a2) 21 0 k a4) hI hRf hkF (fun a j p q => by rw [zup_rd, if_neg (by omega), zup_rd, if_neg (by omega), zup_rd, if_neg (by omega), zup_rd, if_neg (by omega)]) (by unfold flok; simp [zup_rd]; omega) (fun s p1 p2 => by simp [zup_rd]; exact hb0 s p1 p2) (by
                  unfold sok uB at hs0 ⊢
                  simp [zup_rd]
                  refine ⟨?_, hs0.2⟩
                  rcases hs0.1 with z | ⟨z1, z2⟩
                  · exact Or.inl z
                  · exact Or.inr ⟨by omega, z2⟩) (by
                  obtain ⟨d1, d2⟩ := hrow0
                  unfold FRw
                  simp [zup_rd]
                  exact ⟨⟨d1.1, d1.2.2.1, d1.2.2.2.1, d1.2.2.2.2.1, d1.2.2.2.2.2.1, d1.2.2.2.2.2.2.1, d1.2.2.2.2.2.2.2.1, d1.2.2.2.2.2.2.2.2.2⟩, d2⟩) (fun r _ => by
                  rw [uCh_wait (g := g) (by omega), uCh_wait (by simp [zup_rd]; omega)]
                  simp [zup_rd]) (fun c _ => by
                  rw [uCo_wait (g := g) (by omega) (Or.inl rfl), uCo_wait (g := g) (by omega) (Or.inr rfl), uCo_wait (by simp [zup_rd]; omega) (Or.inl rfl), uCo_wait (by simp [zup_rd]; omega) (Or.inr rfl)]
                  simp [zup_rd])
                exact REL.ks x1 x2 (KS.up (KS.up (h.sk (Or.inr ⟨rfl, rfl⟩))))
        · by_cases k1 : a3 = 1
          · -- cancelled
            refine z_cmpb (O := (0, 1)) (P1 := fun g1 => KS R (zup (zup g 4 k 7 a2) 4 k 2 2) g1) ?_ (Or.inl rfl) (fun _ => Or.inr rfl) (fun _ _ h => h.sk (Or.inl rfl)) (fun g1 h => ?_)
            · refine e_message_pre hI.1 hkF h2 h3 h4 ⟨q1, q2, q3⟩ ?_
              refine zT_eqT (by omega) (zT_leF (by omega) (zT_st ?_))
              unfold sX1_follow
              exact zT_bd (zT_eqF (by omega) (zT_eqT (by omega) (zT_st (zT_some (zT_bo (by omega) (zT_some ⟨rfl, KS.rf⟩))))))
            · have hf : REF g1 g F R := (hRf.rows (g' := zup (zup g 4 k 7 a2) 4 k 2 2) (fun a j p q => by rw [zup_rd, if_neg (by omega), zup_rd, if_neg (by omega)])).l h
              obtain ⟨⟨b0, b1, b2, b3, b4, b5, b6, b7, b8, b9⟩, d2⟩ := hf.1.2 k hkF
              refine hpre g1 _ hf ?_
              unfold sX5_message_j74
              refine zT_holds (by decide) ?_
              rw [if_pos rfl]
              simp only [Int.toNat_natCast]
              refine zT_eqF (by omega) (zT_ix (by omega) ?_)
              simp [zup_rd]
              refine zT_eqT (by omega) (zT_ix (by omega) (zT_leF (by omega) (zT_ix (by omega) (zT_st (zT_eqF (by omega) (zT_eqT (by omega) (zT_ix (by omega) (zT_st (zT_bo (by omega) (zT_some ⟨?_, ?_, ?_, ?_⟩))))))))))
              · simp [zup_rd, uPos]
              · first | rfl | simp [zup_rd]
              · simp [zup_rd]
              · obtain ⟨x1, x2⟩ := REL.fl (g' := zup (zup (zup (zup g 4 k 7 a2) 4 k 2 2) 28 0 k a2) 22 0 k 2) hI hRf hkF (fun a j p q => by rw [zup_rd, if_neg (by omega), zup_rd, if_neg (by omega), zup_rd, if_neg (by omega), zup_rd, if_neg (by omega)]) (by unfold flok; simp [zup_rd]; omega) (fun s p1 p2 => by simp [zup_rd]; exact hb0 s p1 p2) (by
                  unfold sok uB at hs0 ⊢
                  simp [zup_rd]
                  exact hs0.1) (by
                  obtain ⟨d1, d2⟩ := hrow0
                  unfold FRw
                  simp [zup_rd]
                  exact ⟨⟨d1.1, d1.2.1, d1.2.2.2.2.1, d1.2.2.2.2.2.1, d1.2.2.2.2.2.2.1, d1.2.2.2.2.2.2.2.1, d1.2.2.2.2.2.2.2.2.2⟩, d2⟩) (fun r _ => by
                  rw [uCh_wait (g := g) (by omega), uCh_wait (by simp [zup_rd])]
                  simp [zup_rd]) (fun c _ => by
                  rw [uCo_wait (g := g) (by omega) (Or.inl rfl), uCo_wait (g := g) (by omega) (Or.inr rfl), uCo_wait (by simp [zup_rd]) (Or.inl rfl), uCo_wait (by simp [zup_rd]) (Or.inr rfl)]
                  simp [zup_rd])
                exact REL.ks x1 x2 (KS.up (KS.up (h.sk (Or.inr ⟨rfl, rfl⟩))))
          · -- gone
            refine z_cmpb (O := (0, 1)) (P1 := fun g1 => KS R (zup (zup (zup g 4 k 7 a2) 4 k 2 1) 4 k 6 a4) g1) ?_ (Or.inl rfl) (fun _ => Or.inr rfl) (fun _ _ h => h.sk (Or.inl rfl)) (fun g1 h => ?_)
            · refine e_message_pre hI.1 hkF h2 h3 h4 ⟨q1, q2, q3⟩ ?_
              refine zT_eqT (by omega) (zT_leF (by omega) (zT_st ?_))
              unfold sX1_follow
              exact zT_bd (zT_eqF (by omega) (zT_eqF (by omega) (zT_st (zT_st (zT_some (zT_bo (by omega) (zT_some ⟨rfl, KS.rf⟩)))))))
            · have hf : REF g1 g F R := (hRf.rows (g' := zup (zup (zup g 4 k 7 a2) 4 k 2 1) 4 k 6 a4) (fun a j p q => by rw [zup_rd, if_neg (by omega), zup_rd, if_neg (by omega), zup_rd, if_neg (by omega)])).l h
              obtain ⟨⟨b0, b1, b2, b3, b4, b5, b6, b7, b8, b9⟩, d2⟩ := hf.1.2 k hkF
              refine hpre g1 _ hf ?_
              unfold sX5_message_j74
              refine zT_holds (by decide) ?_
              rw [if_pos rfl]
              simp only [Int.toNat_natCast]
              refine zT_eqF (by omega) (zT_ix (by omega) ?_)
              simp [zup_rd]
              refine zT_eqT (by omega) (zT_ix (by omega) (zT_leF (by omega) (zT_ix (by omega) (zT_st (zT_eqF (by omega) (zT_eqF (by omega) ?_))))))
              refine zT_bde (g_goes (g := g) hkF h24 hf0 hs0 hR6 (by simp [zup_rd]; exact b0) (by simp [zup_rd]; exact b1) (by simp [zup_rd]; exact b4) (by simp [zup_rd]; exact b5) q4) (zT_bo (by omega) (zT_some ⟨?_, ?_, ?_, ?_⟩))
              · rw [uGo_o (by omega)]
                simp [zup_rd, uPos]
              · first | rfl | simp [zup_rd]
              · rw [uGo_o (by omega)]
                simp [zup_rd]
              · obtain ⟨x1, x2⟩ := REL.go (m := a4) (u := a2) hI hRf hkF (by omega) q4 ⟨q1.1, q1.2⟩
                exact REL.ks x1 x2 (KS.go (KS.up (h.sk (Or.inr ⟨rfl, rfl⟩))))
      · -- not taken
        refine z_cmpb (O := (0, 0)) (P1 := fun g1 => KS R g g1) ?_ (Or.inl rfl) (fun _ => Or.inl rfl) (fun _ _ h => h.sk (Or.inl rfl)) (fun g1 h => ?_)
        · refine e_message_pre hI.1 hkF h2 h3 h4 c2 ?_
          obtain ⟨q1, -, -⟩ := c2
          refine zT_eq (by omega) (fun c => ?_) (fun c => ?_)
          · exact zT_leT (by omega) (zT_bo (by omega) (zT_some ⟨rfl, KS.rf⟩))
          · exact zT_bo (by omega) (zT_some ⟨rfl, KS.rf⟩)
        · have hf := hRf.l h
          obtain ⟨⟨b0, b1, b2, b3, b4, b5, b6, b7, b8, b9⟩, d2⟩ := hf.1.2 k hkF
          refine hpre g1 _ hf ?_
          obtain ⟨q1, -, -⟩ := c2
          unfold sX5_message_j74
          refine zT_holds (by decide) ?_
          rw [if_pos rfl]
          simp only [Int.toNat_natCast]
          have hk2 : REL (zup g1 6 0 0 0) := REL.ks hI hRf (h.sk (Or.inr ⟨rfl, rfl⟩))
          have hend : zT (some ((0 : Int), zup g1 6 0 0 0)) (fun r g2 => g2 6 0 0 = uPos [1, 2] ((0, 0) : Nat × Int).1 ∧ (((0, 0) : Nat × Int).1 = 0 → r = ((0, 0) : Nat × Int).2) ∧ g2 17 0 0 = g1 17 0 0 ∧ REL g2) := zT_some ⟨by simp [zup_rd, uPos], fun _ => rfl, by simp [zup_rd], hk2⟩
          generalize hh2 : zup g1 6 0 0 0 = h2' at hend ⊢
          have v22 : h2' 22 0 k = g 4 k 2 := by rw [← hh2]; simp [zup_rd]; exact b2
          have v28 : h2' 28 0 k = g 4 k 7 := by rw [← hh2]; simp [zup_rd]; exact b8
          refine zT_eqF (by omega) (zT_ix (by omega) (zT_eq (by omega) (fun c => ?_) (fun c => ?_)))
          · exact zT_ix (by omega) (zT_leT (by omega) (zT_bo (by omega) (zT_mono hend (fun _ _ w => ⟨w.1, fun _ => w.2.1 rfl, w.2.2⟩))))
          · exact zT_bo (by omega) (zT_mono hend (fun _ _ w => ⟨w.1, fun _ => w.2.1 rfl, w.2.2⟩))
    · refine u_badb (c := 1) hI hRf (e_message_bad hI.1 hkF h2 h3 h4 c2) (Or.inr (Or.inl rfl)) (fun g1 h hf => g_message_pre hf.1.1 h24 h1 h2 h3 h4 (fun t ht => ?_))
      rw [if_pos c1, if_neg c2] at ht
      subst ht
      unfold sX5_message_j74
      exact zT_holds (by decide) (zT_eqT (by decide) (zT_bo (by omega) (zT_some rfl)))
  · rw [if_neg c1] at e1
    refine u_badb (c := 0) hI hRf (zT_eqn ?_) (Or.inl rfl) (fun g1 h hf => g_message_pre hf.1.1 h24 h1 h2 h3 h4 (fun t ht => ?_))
    · unfold sX4_message
      exact zT_bxt e1 ⟨rfl, rfl⟩
    · rw [if_neg c1] at ht
      subst ht
      unfold sX5_message_j74
      exact zT_holds (by decide) (zT_eqT (by decide) (zT_bo (by omega) (zT_some rfl)))
end MSG

/-! what is asked of the flights -/
theorem e_flightAt {g : zG} {F : Nat} {x : Int} (hF : FOK g F) (hx : zIn x) : sX4_flightAt x g = some (if 0 ≤ x ∧ x < (F : Int) then (0, x) else (1, 0), g) := by
  obtain ⟨h1, h2, -⟩ := hF
  refine zT_eqn ?_
  unfold sX4_flightAt sX4_flightAt_j15
  repeat' first
    | (with_reducible refine zT_ltT ?_ ?_; · omega)
    | (with_reducible refine zT_ltF ?_ ?_; · omega)
    | (with_reducible refine zT_lt ?_ (fun _ => ?_) (fun _ => ?_); · omega)
    | (with_reducible refine zT_leT ?_ ?_; · omega)
    | (with_reducible refine zT_leF ?_ ?_; · omega)
    | (with_reducible refine zT_le ?_ (fun _ => ?_) (fun _ => ?_); · omega)
    | (with_reducible refine zT_eqT ?_ ?_; · omega)
    | (with_reducible refine zT_eqF ?_ ?_; · omega)
    | (with_reducible refine zT_eq ?_ (fun _ => ?_) (fun _ => ?_); · omega)
    | (with_reducible refine zT_ix ?_ ?_; · omega)
    | (with_reducible refine zT_li ?_ ?_; · omega)
    | (with_reducible refine zT_bo ?_ ?_; · omega)
    | (with_reducible refine zT_ri ?_ ?_; · omega)
    | (with_reducible refine zT_dv ?_ ?_; · omega)
    | (with_reducible refine zT_let ?_)
  · exact zT_some ⟨by rw [if_neg (by omega)], rfl⟩
  · exact zT_some ⟨by rw [if_pos (by omega)], rfl⟩
  · exact zT_some ⟨by rw [if_neg (by omega)], rfl⟩
theorem e_checkSector {g : zG} {x : Int} (hx : zIn x) : sX4_checkSector x g = some (if 0 ≤ x ∧ x < 6 then (0, 0) else (1, 0), g) := by
  refine zT_eqn ?_
  unfold sX4_checkSector sX4_checkSector_j10
  repeat' first
    | (with_reducible refine zT_ltT ?_ ?_; · omega)
    | (with_reducible refine zT_ltF ?_ ?_; · omega)
    | (with_reducible refine zT_lt ?_ (fun _ => ?_) (fun _ => ?_); · omega)
    | (with_reducible refine zT_leT ?_ ?_; · omega)
    | (with_reducible refine zT_leF ?_ ?_; · omega)
    | (with_reducible refine zT_le ?_ (fun _ => ?_) (fun _ => ?_); · omega)
    | (with_reducible refine zT_eqT ?_ ?_; · omega)
    | (with_reducible refine zT_eqF ?_ ?_; · omega)
    | (with_reducible refine zT_eq ?_ (fun _ => ?_) (fun _ => ?_); · omega)
    | (with_reducible refine zT_ix ?_ ?_; · omega)
    | (with_reducible refine zT_li ?_ ?_; · omega)
    | (with_reducible refine zT_bo ?_ ?_; · omega)
    | (with_reducible refine zT_ri ?_ ?_; · omega)
    | (with_reducible refine zT_dv ?_ ?_; · omega)
    | (with_reducible refine zT_let ?_)
  · exact zT_some ⟨by rw [if_neg (by omega)], rfl⟩
  · exact zT_some ⟨by rw [if_pos (by omega)], rfl⟩
  · exact zT_some ⟨by rw [if_neg (by omega)], rfl⟩
theorem e_checkCompany {g : zG} {x : Int} (hx : zIn x) : sX4_checkCompany x g = some (if 0 ≤ x ∧ x < 4 then (0, 0) else (1, 0), g) := by
  refine zT_eqn ?_
  unfold sX4_checkCompany sX4_checkCompany_j9
  repeat' first
    | (with_reducible refine zT_ltT ?_ ?_; · omega)
    | (with_reducible refine zT_ltF ?_ ?_; · omega)
    | (with_reducible refine zT_lt ?_ (fun _ => ?_) (fun _ => ?_); · omega)
    | (with_reducible refine zT_leT ?_ ?_; · omega)
    | (with_reducible refine zT_leF ?_ ?_; · omega)
    | (with_reducible refine zT_le ?_ (fun _ => ?_) (fun _ => ?_); · omega)
    | (with_reducible refine zT_eqT ?_ ?_; · omega)
    | (with_reducible refine zT_eqF ?_ ?_; · omega)
    | (with_reducible refine zT_eq ?_ (fun _ => ?_) (fun _ => ?_); · omega)
    | (with_reducible refine zT_ix ?_ ?_; · omega)
    | (with_reducible refine zT_li ?_ ?_; · omega)
    | (with_reducible refine zT_bo ?_ ?_; · omega)
    | (with_reducible refine zT_ri ?_ ?_; · omega)
    | (with_reducible refine zT_dv ?_ ?_; · omega)
    | (with_reducible refine zT_let ?_)
  · exact zT_some ⟨by rw [if_neg (by omega)], rfl⟩
  · exact zT_some ⟨by rw [if_pos (by omega)], rfl⟩
  · exact zT_some ⟨by rw [if_neg (by omega)], rfl⟩
theorem e_checkRange {g : zG} {x a b : Int} (hx : zIn x) (ha : zIn a) (hb : zIn b) : sX4_checkRange x a b g = some (if a ≤ x ∧ x ≤ b then (0, 0) else (2, 0), g) := by
  refine zT_eqn ?_
  unfold sX4_checkRange sX4_checkRange_j10
  repeat' first
    | (with_reducible refine zT_ltT ?_ ?_; · omega)
    | (with_reducible refine zT_ltF ?_ ?_; · omega)
    | (with_reducible refine zT_lt ?_ (fun _ => ?_) (fun _ => ?_); · omega)
    | (with_reducible refine zT_leT ?_ ?_; · omega)
    | (with_reducible refine zT_leF ?_ ?_; · omega)
    | (with_reducible refine zT_le ?_ (fun _ => ?_) (fun _ => ?_); · omega)
    | (with_reducible refine zT_eqT ?_ ?_; · omega)
    | (with_reducible refine zT_eqF ?_ ?_; · omega)
    | (with_reducible refine zT_eq ?_ (fun _ => ?_) (fun _ => ?_); · omega)
    | (with_reducible refine zT_ix ?_ ?_; · omega)
    | (with_reducible refine zT_li ?_ ?_; · omega)
    | (with_reducible refine zT_bo ?_ ?_; · omega)
    | (with_reducible refine zT_ri ?_ ?_; · omega)
    | (with_reducible refine zT_dv ?_ ?_; · omega)
    | (with_reducible refine zT_let ?_)
  · exact zT_some ⟨by rw [if_neg (by omega)], rfl⟩
  · exact zT_some ⟨by rw [if_pos (by omega)], rfl⟩
  · exact zT_some ⟨by rw [if_neg (by omega)], rfl⟩
theorem e_regulationAt {g : zG} {R : Nat} {x : Int} (hR : g 1 1 2 = (R : Int)) (hR6 : R ≤ 6) (hx : zIn x) : sX4_regulationAt x g = some (if 0 ≤ x ∧ x < (R : Int) then (0, x) else (1, 0), g) := by
  refine zT_eqn ?_
  unfold sX4_regulationAt sX4_regulationAt_j15
  repeat' first
    | (with_reducible refine zT_ltT ?_ ?_; · omega)
    | (with_reducible refine zT_ltF ?_ ?_; · omega)
    | (with_reducible refine zT_lt ?_ (fun _ => ?_) (fun _ => ?_); · omega)
    | (with_reducible refine zT_leT ?_ ?_; · omega)
    | (with_reducible refine zT_leF ?_ ?_; · omega)
    | (with_reducible refine zT_le ?_ (fun _ => ?_) (fun _ => ?_); · omega)
    | (with_reducible refine zT_eqT ?_ ?_; · omega)
    | (with_reducible refine zT_eqF ?_ ?_; · omega)
    | (with_reducible refine zT_eq ?_ (fun _ => ?_) (fun _ => ?_); · omega)
    | (with_reducible refine zT_ix ?_ ?_; · omega)
    | (with_reducible refine zT_li ?_ ?_; · omega)
    | (with_reducible refine zT_bo ?_ ?_; · omega)
    | (with_reducible refine zT_ri ?_ ?_; · omega)
    | (with_reducible refine zT_dv ?_ ?_; · omega)
    | (with_reducible refine zT_let ?_)
  · exact zT_some ⟨by rw [if_neg (by omega)], rfl⟩
  · exact zT_some ⟨by rw [if_pos (by omega)], rfl⟩
  · exact zT_some ⟨by rw [if_neg (by omega)], rfl⟩
theorem e_checkNotEnded {g : zG} {r : Nat} (hr : rgok g r) : sX4_checkNotEnded r g = some (if g 5 r 4 = 0 then (0, 0) else (3, 0), g) := by
  unfold rgok at hr
  refine zT_eqn ?_
  unfold sX4_checkNotEnded
  repeat' first
    | (with_reducible refine zT_ltT ?_ ?_; · omega)
    | (with_reducible refine zT_ltF ?_ ?_; · omega)
    | (with_reducible refine zT_lt ?_ (fun _ => ?_) (fun _ => ?_); · omega)
    | (with_reducible refine zT_leT ?_ ?_; · omega)
    | (with_reducible refine zT_leF ?_ ?_; · omega)
    | (with_reducible refine zT_le ?_ (fun _ => ?_) (fun _ => ?_); · omega)
    | (with_reducible refine zT_eqT ?_ ?_; · omega)
    | (with_reducible refine zT_eqF ?_ ?_; · omega)
    | (with_reducible refine zT_eq ?_ (fun _ => ?_) (fun _ => ?_); · omega)
    | (with_reducible refine zT_ix ?_ ?_; · omega)
    | (with_reducible refine zT_li ?_ ?_; · omega)
    | (with_reducible refine zT_bo ?_ ?_; · omega)
    | (with_reducible refine zT_ri ?_ ?_; · omega)
    | (with_reducible refine zT_dv ?_ ?_; · omega)
    | (with_reducible refine zT_let ?_)
  · exact zT_some ⟨by rw [if_pos (by omega)], rfl⟩
  · exact zT_some ⟨by rw [if_neg (by omega)], rfl⟩
theorem e_checkTerm {g : zG} {x y z : Int} (hx : zIn x) (hy : zIn y) (hz : zIn z) : sX4_checkTerm x y z g = some (if (0 ≤ x ∧ x ≤ 1439) ∧ (x + 1 ≤ y ∧ y ≤ 1440) ∧ (0 ≤ z ∧ z ≤ 60) then (0, 0) else (2, 0), g) := by
  refine zT_eqn ?_
  unfold sX4_checkTerm
  by_cases c1 : 0 ≤ x ∧ x ≤ 1439
  · have e1 := e_checkRange (g := g) (x := x) (a := 0) (b := 1439) hx (by decide) (by decide)
    rw [if_pos c1] at e1
    refine zT_bxe e1 ?_
    by_cases c2 : x + 1 ≤ y ∧ y ≤ 1440
    · have e2 := e_checkRange (g := g) (x := y) (a := x + 1) (b := 1440) hy (by constructor <;> omega) (by decide)
      rw [if_pos c2] at e2
      refine zT_bxe e2 ?_
      by_cases c3 : 0 ≤ z ∧ z ≤ 60
      · have e3 := e_checkRange (g := g) (x := z) (a := 0) (b := 60) hz (by decide) (by decide)
        rw [if_pos c3] at e3
        refine zT_bxe e3 ?_
        exact zT_some ⟨by rw [if_pos ⟨c1, c2, c3⟩], rfl⟩
      · have e3 := e_checkRange (g := g) (x := z) (a := 0) (b := 60) hz (by decide) (by decide)
        rw [if_neg c3] at e3
        exact zT_bxt e3 ⟨by rw [if_neg (fun h => c3 h.2.2)], rfl⟩
    · have e2 := e_checkRange (g := g) (x := y) (a := x + 1) (b := 1440) hy (by constructor <;> omega) (by decide)
      rw [if_neg c2] at e2
      exact zT_bxt e2 ⟨by rw [if_neg (fun h => c2 h.2.1)], rfl⟩
  · have e1 := e_checkRange (g := g) (x := x) (a := 0) (b := 1439) hx (by decide) (by decide)
    rw [if_neg c1] at e1
    exact zT_bxt e1 ⟨by rw [if_neg (fun h => c1 h.1)], rfl⟩
def uFis (g : zG) (k : Nat) (w : Int) : Int := if w = 0 then g 4 k 2 else if w = 1 then g 4 k 1 else if w = 2 then g 4 k 4 else if w = 3 then g 4 k 5 else if w = 4 then uDep g k else if w = 5 then g 4 k 8 else if w = 6 then g 4 k 7 else if g 4 k 3 = 0 then 0 else 1
section QF
variable {g : zG} {F n : Nat}
theorem e_flightIs {x w : Int} (hF : FOK g F) (hx : zIn x) (hw : zIn w) : sX4_flightIs x w g = some (if 0 ≤ x ∧ x < (F : Int) then (if 0 ≤ w ∧ w ≤ 7 then (0, uFis g x.toNat w) else (2, 0)) else (1, 0), g) := by
  refine zT_eqn ?_
  unfold sX4_flightIs
  have e1 := e_flightAt hF hx
  by_cases c1 : 0 ≤ x ∧ x < (F : Int)
  · rw [if_pos c1] at e1 ⊢
    refine zT_bxe e1 ?_
    have e2 := e_checkRange (g := g) (x := w) (a := 0) (b := 7) hw (by decide) (by decide)
    by_cases c2 : 0 ≤ w ∧ w ≤ 7
    · rw [if_pos c2] at e2 ⊢
      refine zT_bxe e2 ?_
      have hf := (hF.2.2 x.toNat (by omega)).1
      have hf2 := hf
      unfold flok at hf2
      repeat' first
        | (refine zT_bde (e_departure hf) ?_)
        | (with_reducible refine zT_ltT ?_ ?_; · omega)
        | (with_reducible refine zT_ltF ?_ ?_; · omega)
        | (with_reducible refine zT_lt ?_ (fun _ => ?_) (fun _ => ?_); · omega)
        | (with_reducible refine zT_leT ?_ ?_; · omega)
        | (with_reducible refine zT_leF ?_ ?_; · omega)
        | (with_reducible refine zT_le ?_ (fun _ => ?_) (fun _ => ?_); · omega)
        | (with_reducible refine zT_eqT ?_ ?_; · omega)
        | (with_reducible refine zT_eqF ?_ ?_; · omega)
        | (with_reducible refine zT_eq ?_ (fun _ => ?_) (fun _ => ?_); · omega)
        | (with_reducible refine zT_ix ?_ ?_; · omega)
        | (with_reducible refine zT_li ?_ ?_; · omega)
        | (with_reducible refine zT_bo ?_ ?_; · omega)
        | (with_reducible refine zT_ri ?_ ?_; · omega)
        | (with_reducible refine zT_dv ?_ ?_; · omega)
        | (with_reducible refine zT_let ?_)
      all_goals refine zT_some ⟨?_, rfl⟩
      all_goals unfold uFis
      · rw [if_pos (by omega)]
      · rw [if_neg (by omega), if_pos (by omega)]
      · rw [if_neg (by omega), if_neg (by omega), if_pos (by omega)]
      · rw [if_neg (by omega), if_neg (by omega), if_neg (by omega), if_pos (by omega)]
      · rw [if_neg (by omega), if_neg (by omega), if_neg (by omega), if_neg (by omega), if_pos (by omega)]
      · rw [if_neg (by omega), if_neg (by omega), if_neg (by omega), if_neg (by omega), if_neg (by omega), if_pos (by omega)]
      · rw [if_neg (by omega), if_neg (by omega), if_neg (by omega), if_neg (by omega), if_neg (by omega), if_neg (by omega), if_pos (by omega)]
      · rw [if_neg (by omega), if_neg (by omega), if_neg (by omega), if_neg (by omega), if_neg (by omega), if_neg (by omega), if_neg (by omega), if_pos (by omega)]
      · rw [if_neg (by omega), if_neg (by omega), if_neg (by omega), if_neg (by omega), if_neg (by omega), if_neg (by omega), if_neg (by omega), if_neg (by omega)]
    · rw [if_neg c2] at e2 ⊢
      exact zT_bxt e2 ⟨rfl, rfl⟩
  · rw [if_neg c1] at e1 ⊢
    exact zT_bxt e1 ⟨rfl, rfl⟩
theorem e_over {x s : Int} (hF : FOK g F) (hx : zIn x) (hs : zIn s) : sX4_over x s g = some (if 0 ≤ x ∧ x < (F : Int) then (if 0 ≤ s ∧ s < 6 then (0, uTov g x.toNat s) else (1, 0)) else (1, 0), g) := by
  refine zT_eqn ?_
  unfold sX4_over
  have e1 := e_flightAt hF hx
  by_cases c1 : 0 ≤ x ∧ x < (F : Int)
  · rw [if_pos c1] at e1 ⊢
    refine zT_bxe e1 ?_
    have e2 := e_checkSector (g := g) hs
    by_cases c2 : 0 ≤ s ∧ s < 6
    · rw [if_pos c2] at e2 ⊢
      refine zT_bxe e2 ?_
      obtain ⟨hf, hb⟩ := hF.2.2 x.toNat (by omega)
      exact zT_bde (e_timeOver hf hb c2) (zT_some ⟨rfl, rfl⟩)
    · rw [if_neg c2] at e2 ⊢
      exact zT_bxt e2 ⟨rfl, rfl⟩
  · rw [if_neg c1] at e1 ⊢
    exact zT_bxt e1 ⟨rfl, rfl⟩
/-- is in a window -/
def uWin (g : zG) (s b w : Int) (k : Nat) : Int := if uLds g k s = 1 ∧ b ≤ uTov g k s ∧ uTov g k s < b + w then 1 else 0
def uLoad (g : zG) (F : Nat) (s b w : Int) : Int := uSum (uWin g s b w) F
theorem t_loadOf_run {s b w : Int} (hF : FOK g F) (hs : 0 ≤ s ∧ s < 6) (hb : -1 ≤ b ∧ b ≤ 3000) (hw : 1 ≤ w ∧ w ≤ 240) : ∀ (d k f : Nat), k + d = F → d < f →
    zT (sX4_loadOf_run n f 0 s b w (uSum (uWin g s b w) k) (k : Int) g) (fun r g' => r = uLoad g F s b w ∧ g' = g) := by
  obtain ⟨h1, h2, h3⟩ := hF
  intro d
  induction d with
  | zero =>
    intro k f hk hf
    obtain ⟨f, rfl⟩ : ∃ f', f = f' + 1 := ⟨f - 1, by omega⟩
    rw [qsX4_loadOf_run0]
    unfold sX4_loadOf_h6
    have hkF : k = F := by omega
    subst hkF
    exact zT_ltF (by omega) (zT_some ⟨rfl, rfl⟩)
  | succ d ih =>
    intro k f hk hf
    obtain ⟨f, rfl⟩ : ∃ f', f = f' + 1 := ⟨f - 1, by omega⟩
    obtain ⟨hfk, hbk⟩ := h3 k (by omega)
    have hT := uTov_bd hfk hbk hs
    have hL := uLds_bd (g := g) (k := k) (s := s)
    have := ih (k + 1) f (by omega) (by omega)
    rw [qsX4_loadOf_run0]
    unfold sX4_loadOf_h6
    simp only [Int.toNat_natCast]
    refine zT_ltT (by omega) (zT_li (by omega) ?_)
    refine zT_bde (e_timeOver hfk hbk hs) ?_
    refine zT_bde (e_loads hfk hbk hs) ?_
    have e : uSum (uWin g s b w) (k + 1) = uSum (uWin g s b w) k + uWin g s b w k := rfl
    rw [e] at this
    unfold uWin at this ⊢
    repeat' first
      | (with_reducible refine zT_ltT ?_ ?_; · omega)
      | (with_reducible refine zT_ltF ?_ ?_; · omega)
      | (with_reducible refine zT_lt ?_ (fun _ => ?_) (fun _ => ?_); · omega)
      | (with_reducible refine zT_leT ?_ ?_; · omega)
      | (with_reducible refine zT_leF ?_ ?_; · omega)
      | (with_reducible refine zT_le ?_ (fun _ => ?_) (fun _ => ?_); · omega)
      | (with_reducible refine zT_eqT ?_ ?_; · omega)
      | (with_reducible refine zT_eqF ?_ ?_; · omega)
      | (with_reducible refine zT_eq ?_ (fun _ => ?_) (fun _ => ?_); · omega)
      | (with_reducible refine zT_ix ?_ ?_; · omega)
      | (with_reducible refine zT_li ?_ ?_; · omega)
      | (with_reducible refine zT_bo ?_ ?_; · omega)
      | (with_reducible refine zT_ri ?_ ?_; · omega)
      | (with_reducible refine zT_dv ?_ ?_; · omega)
      | (with_reducible refine zT_let ?_)
    · rw [if_neg (by omega), Int.add_zero] at this; exact this
    · rw [if_neg (by omega), Int.add_zero] at this; exact this
    · rw [if_pos (by omega)] at this; exact this
    · rw [if_neg (by omega), Int.add_zero] at this; exact this
theorem e_loadOf {s b w : Int} (hn : 24 < n) (hF : FOK g F) (hs : 0 ≤ s ∧ s < 6) (hb : -1 ≤ b ∧ b ≤ 3000) (hw : 1 ≤ w ∧ w ≤ 240) : sX4_loadOf n s b w g = some (uLoad g F s b w, g) :=
  zT_eqn (t_loadOf_run (n := n) hF hs hb hw F 0 n (by omega) (by have := hF.2.1; omega))
theorem uLoad_bd {s b w : Int} : 0 ≤ uLoad g F s b w ∧ uLoad g F s b w ≤ (F : Int) := by
  have := uSum_bound (f := uWin g s b w) (m := 1) (n := F) (fun k _ => by unfold uWin; split <;> omega)
  rw [Int.mul_one] at this
  exact this
theorem e_load {s b w : Int} (hn : 24 < n) (hF : FOK g F) (hs : zIn s) (hb : zIn b) (hw : zIn w) : sX4_load n s b w g = some (if 0 ≤ s ∧ s < 6 then (if 0 ≤ b ∧ b ≤ 2999 ∧ 1 ≤ w ∧ w ≤ 240 then (0, uLoad g F s b w) else (2, 0)) else (1, 0), g) := by
  refine zT_eqn ?_
  unfold sX4_load
  have e1 := e_checkSector (g := g) hs
  by_cases c1 : 0 ≤ s ∧ s < 6
  · rw [if_pos c1] at e1 ⊢
    refine zT_bxe e1 ?_
    have e2 := e_checkRange (g := g) (x := b) (a := 0) (b := 2999) hb (by decide) (by decide)
    by_cases c2 : 0 ≤ b ∧ b ≤ 2999
    · rw [if_pos c2] at e2
      refine zT_bxe e2 ?_
      have e3 := e_checkRange (g := g) (x := w) (a := 1) (b := 240) hw (by decide) (by decide)
      by_cases c3 : 1 ≤ w ∧ w ≤ 240
      · rw [if_pos c3] at e3
        refine zT_bxe e3 ?_
        rw [if_pos (by omega)]
        exact zT_bde (e_loadOf hn hF c1 (by omega) c3) (zT_some ⟨rfl, rfl⟩)
      · rw [if_neg c3] at e3
        rw [if_neg (by omega)]
        exact zT_bxt e3 ⟨rfl, rfl⟩
    · rw [if_neg c2] at e2
      rw [if_neg (by omega)]
      exact zT_bxt e2 ⟨rfl, rfl⟩
  · rw [if_neg c1] at e1 ⊢
    exact zT_bxt e1 ⟨rfl, rfl⟩
def uInside (g : zG) (F : Nat) (s m : Int) : Int := uSum (fun k => uIsd g k s m) F
theorem t_inside_run {s m : Int} (hF : FOK g F) (hs : 0 ≤ s ∧ s < 6) (hm : 0 ≤ m ∧ m ≤ 2999) : ∀ (d k f : Nat), k + d = F → d < f →
    zT (sX4_inside_run n f 0 s m (uSum (fun k => uIsd g k s m) k) (k : Int) g) (fun r g' => r = (0, uInside g F s m) ∧ g' = g) := by
  obtain ⟨h1, h2, h3⟩ := hF
  intro d
  induction d with
  | zero =>
    intro k f hk hf
    obtain ⟨f, rfl⟩ : ∃ f', f = f' + 1 := ⟨f - 1, by omega⟩
    rw [qsX4_inside_run0]
    unfold sX4_inside_h17
    have hkF : k = F := by omega
    subst hkF
    exact zT_ltF (by omega) (zT_some ⟨rfl, rfl⟩)
  | succ d ih =>
    intro k f hk hf
    obtain ⟨f, rfl⟩ : ∃ f', f = f' + 1 := ⟨f - 1, by omega⟩
    obtain ⟨hfk, hbk⟩ := h3 k (by omega)
    have := ih (k + 1) f (by omega) (by omega)
    rw [qsX4_inside_run0]
    unfold sX4_inside_h17
    simp only [Int.toNat_natCast]
    refine zT_ltT (by omega) (zT_li (by omega) ?_)
    refine zT_bde (e_isInside hfk hbk hs hm) ?_
    have e : uSum (fun k => uIsd g k s m) (k + 1) = uSum (fun k => uIsd g k s m) k + uIsd g k s m := rfl
    rw [e] at this
    have hd : uIsd g k s m = 0 ∨ uIsd g k s m = 1 := by
      unfold uIsd
      split
      · exact Or.inl rfl
      · split
        · exact Or.inr rfl
        · exact Or.inl rfl
    repeat' first
      | (with_reducible refine zT_ltT ?_ ?_; · omega)
      | (with_reducible refine zT_ltF ?_ ?_; · omega)
      | (with_reducible refine zT_lt ?_ (fun _ => ?_) (fun _ => ?_); · omega)
      | (with_reducible refine zT_leT ?_ ?_; · omega)
      | (with_reducible refine zT_leF ?_ ?_; · omega)
      | (with_reducible refine zT_le ?_ (fun _ => ?_) (fun _ => ?_); · omega)
      | (with_reducible refine zT_eqT ?_ ?_; · omega)
      | (with_reducible refine zT_eqF ?_ ?_; · omega)
      | (with_reducible refine zT_eq ?_ (fun _ => ?_) (fun _ => ?_); · omega)
      | (with_reducible refine zT_ix ?_ ?_; · omega)
      | (with_reducible refine zT_li ?_ ?_; · omega)
      | (with_reducible refine zT_bo ?_ ?_; · omega)
      | (with_reducible refine zT_ri ?_ ?_; · omega)
      | (with_reducible refine zT_dv ?_ ?_; · omega)
      | (with_reducible refine zT_let ?_)
    · rename_i c
      rw [c, Int.add_zero] at this; exact this
    · rename_i c
      rw [show uIsd g k s m = 1 from by omega] at this; exact this
theorem e_inside {s m : Int} (hn : 24 < n) (hF : FOK g F) (hs : zIn s) (hm : zIn m) : sX4_inside n s m g = some (if 0 ≤ s ∧ s < 6 then (if 0 ≤ m ∧ m ≤ 2999 then (0, uInside g F s m) else (2, 0)) else (1, 0), g) := by
  refine zT_eqn ?_
  unfold sX4_inside
  have e1 := e_checkSector (g := g) hs
  by_cases c1 : 0 ≤ s ∧ s < 6
  · rw [if_pos c1] at e1 ⊢
    refine zT_bxe e1 ?_
    have e2 := e_checkRange (g := g) (x := m) (a := 0) (b := 2999) hm (by decide) (by decide)
    by_cases c2 : 0 ≤ m ∧ m ≤ 2999
    · rw [if_pos c2] at e2 ⊢
      refine zT_bxe e2 ?_
      exact t_inside_run (n := n) hF c1 c2 F 0 n (by omega) (by have := hF.2.1; omega)
    · rw [if_neg c2] at e2 ⊢
      exact zT_bxt e2 ⟨rfl, rfl⟩
  · rw [if_neg c1] at e1 ⊢
    exact zT_bxt e1 ⟨rfl, rfl⟩
def uMx (f : Nat → Int) : Nat → Int
  | 0 => 0
  | n + 1 => max (uMx f n) (f n)
def uPkf (g : zG) (F : Nat) (s w : Int) (k : Nat) : Int := if uLds g k s = 1 then uLoad g F s (uTov g k s) w else 0
def uPeak (g : zG) (F : Nat) (s w : Int) : Int := uMx (uPkf g F s w) F
theorem uMx_nn {f : Nat → Int} {m : Nat} : 0 ≤ uMx f m := by
  induction m with
  | zero => exact Int.le_refl 0
  | succ m ih => show 0 ≤ max (uMx f m) (f m); omega
theorem uMx_le {f : Nat → Int} {m : Nat} {b : Int} (h0 : 0 ≤ b) (h : ∀ k, k < m → f k ≤ b) : uMx f m ≤ b := by
  induction m with
  | zero => exact h0
  | succ m ih =>
    have h1 := ih (fun k hk => h k (by omega))
    have h2 := h m (by omega)
    show max (uMx f m) (f m) ≤ b
    omega
theorem uMx_ge {f : Nat → Int} {m k : Nat} (hk : k < m) : f k ≤ uMx f m := by
  induction m with
  | zero => omega
  | succ m ih =>
    show f k ≤ max (uMx f m) (f m)
    by_cases c : k = m
    · rw [c]; omega
    · have := ih (by omega); omega
theorem t_peakAnew_run {s w : Int} (hn : 24 < n) (hF : FOK g F) (hs : 0 ≤ s ∧ s < 6) (hw : 1 ≤ w ∧ w ≤ 240) : ∀ (d k f : Nat), k + d = F → d < f →
    zT (sX4_peakAnew_run n f 0 s w (uMx (uPkf g F s w) k) (k : Int) g) (fun r g' => r = (0, uPeak g F s w) ∧ g' = g) := by
  obtain ⟨h1, h2, h3⟩ := id hF
  intro d
  induction d with
  | zero =>
    intro k f hk hf
    obtain ⟨f, rfl⟩ : ∃ f', f = f' + 1 := ⟨f - 1, by omega⟩
    rw [qsX4_peakAnew_run0]
    unfold sX4_peakAnew_h17
    have hkF : k = F := by omega
    subst hkF
    exact zT_ltF (by omega) (zT_some ⟨rfl, rfl⟩)
  | succ d ih =>
    intro k f hk hf
    obtain ⟨f, rfl⟩ : ∃ f', f = f' + 1 := ⟨f - 1, by omega⟩
    obtain ⟨hfk, hbk⟩ := h3 k (by omega)
    have hT := uTov_bd hfk hbk hs
    have hL := uLds_bd (g := g) (k := k) (s := s)
    have hld := uLoad_bd (g := g) (F := F) (s := s) (b := uTov g k s) (w := w)
    have hm0 := uMx_nn (f := uPkf g F s w) (m := k)
    have hm1 := uMx_le (f := uPkf g F s w) (m := k) (b := (F : Int)) (by omega) (fun j _ => by
      unfold uPkf
      split
      · exact (uLoad_bd).2
      · omega)
    have := ih (k + 1) f (by omega) (by omega)
    rw [qsX4_peakAnew_run0]
    unfold sX4_peakAnew_h17
    simp only [Int.toNat_natCast]
    refine zT_ltT (by omega) (zT_li (by omega) ?_)
    refine zT_bde (e_loads hfk hbk hs) ?_
    have e : uMx (uPkf g F s w) (k + 1) = max (uMx (uPkf g F s w) k) (uPkf g F s w k) := rfl
    rw [e] at this
    refine zT_eq (by omega) (fun c => ?_) (fun c => ?_)
    · refine zT_let ?_
      rw [show uPkf g F s w k = 0 from by unfold uPkf; rw [if_neg (by omega)], show max (uMx (uPkf g F s w) k) 0 = uMx (uPkf g F s w) k from by omega] at this
      exact this
    · refine zT_bde (e_timeOver hfk hbk hs) ?_
      refine zT_bde (e_loadOf hn hF hs (by omega) hw) ?_
      refine zT_ri (by omega) (zT_ri (by omega) (zT_let (zT_let ?_)))
      rw [show uPkf g F s w k = uLoad g F s (uTov g k s) w from by unfold uPkf; rw [if_pos (by omega)]] at this
      exact this
theorem e_peakAnew {s w : Int} (hn : 24 < n) (hF : FOK g F) (hs : zIn s) (hw : zIn w) : sX4_peakAnew n s w g = some (if 0 ≤ s ∧ s < 6 then (if 1 ≤ w ∧ w ≤ 240 then (0, uPeak g F s w) else (2, 0)) else (1, 0), g) := by
  refine zT_eqn ?_
  unfold sX4_peakAnew
  have e1 := e_checkSector (g := g) hs
  by_cases c1 : 0 ≤ s ∧ s < 6
  · rw [if_pos c1] at e1 ⊢
    refine zT_bxe e1 ?_
    have e2 := e_checkRange (g := g) (x := w) (a := 1) (b := 240) hw (by decide) (by decide)
    by_cases c2 : 1 ≤ w ∧ w ≤ 240
    · rw [if_pos c2] at e2 ⊢
      refine zT_bxe e2 ?_
      exact t_peakAnew_run (n := n) hn hF c1 c2 F 0 n (by omega) (by have := hF.2.1; omega)
    · rw [if_neg c2] at e2 ⊢
      exact zT_bxt e2 ⟨rfl, rfl⟩
  · rw [if_neg c1] at e1 ⊢
    exact zT_bxt e1 ⟨rfl, rfl⟩
def uChr (g : zG) (r : Int) (k : Nat) : Int := if g 4 k 5 = r then uChg g k else 0
theorem t_charged_run {r : Int} (hF : FOK g F) (hr : 0 ≤ r ∧ r < 6) : ∀ (d k f : Nat), k + d = F → d < f →
    zT (sX4_chargedToRegulation_run n f 0 r (uSum (uChr g r) k) (k : Int) g) (fun z g' => z = uSum (uChr g r) F ∧ g' = g) := by
  obtain ⟨h1, h2, h3⟩ := hF
  intro d
  induction d with
  | zero =>
    intro k f hk hf
    obtain ⟨f, rfl⟩ : ∃ f', f = f' + 1 := ⟨f - 1, by omega⟩
    rw [qsX4_chargedToRegulation_run0]
    unfold sX4_chargedToRegulation_h4
    have hkF : k = F := by omega
    subst hkF
    exact zT_ltF (by omega) (zT_some ⟨rfl, rfl⟩)
  | succ d ih =>
    intro k f hk hf
    obtain ⟨f, rfl⟩ : ∃ f', f = f' + 1 := ⟨f - 1, by omega⟩
    obtain ⟨hfk, hbk⟩ := h3 k (by omega)
    have hf2 := hfk
    unfold flok at hf2
    have := ih (k + 1) f (by omega) (by omega)
    rw [qsX4_chargedToRegulation_run0]
    unfold sX4_chargedToRegulation_h4
    simp only [Int.toNat_natCast]
    have e : uSum (uChr g r) (k + 1) = uSum (uChr g r) k + uChr g r k := rfl
    rw [e] at this
    refine zT_ltT (by omega) (zT_li (by omega) (zT_eq (by omega) (fun c => ?_) (fun c => ?_)))
    · refine zT_bde (e_charge hfk) (zT_let (zT_let ?_))
      rw [show uChr g r k = uChg g k from by unfold uChr; rw [if_pos c]] at this
      exact this
    · refine zT_let ?_
      rw [show uChr g r k = 0 from by unfold uChr; rw [if_neg c], Int.add_zero] at this
      exact this
theorem e_charged {r : Int} (hn : 24 < n) (hF : FOK g F) (hr : 0 ≤ r ∧ r < 6) : sX4_chargedToRegulation n r g = some (uSum (uChr g r) F, g) :=
  zT_eqn (t_charged_run (n := n) hF hr F 0 n (by omega) (by have := hF.2.1; omega))
def uCoi (g : zG) (c w : Int) (k : Nat) : Int := if g 4 k 0 = c then uLed g k w else 0
theorem t_companyIs_run {c w : Int} (hF : FOK g F) (hc : 0 ≤ c ∧ c < 4) (hw : 0 ≤ w ∧ w ≤ 2) : ∀ (d k f : Nat), k + d = F → d < f →
    zT (sX4_companyIs_run n f 0 c w (uSum (uCoi g c w) k) (k : Int) g) (fun z g' => z = (0, uSum (uCoi g c w) F) ∧ g' = g) := by
  obtain ⟨h1, h2, h3⟩ := hF
  intro d
  induction d with
  | zero =>
    intro k f hk hf
    obtain ⟨f, rfl⟩ : ∃ f', f = f' + 1 := ⟨f - 1, by omega⟩
    rw [qsX4_companyIs_run0]
    unfold sX4_companyIs_h15
    have hkF : k = F := by omega
    subst hkF
    exact zT_ltF (by omega) (zT_some ⟨rfl, rfl⟩)
  | succ d ih =>
    intro k f hk hf
    obtain ⟨f, rfl⟩ : ∃ f', f = f' + 1 := ⟨f - 1, by omega⟩
    obtain ⟨hfk, hbk⟩ := h3 k (by omega)
    have hf2 := hfk
    unfold flok at hf2
    have := ih (k + 1) f (by omega) (by omega)
    rw [qsX4_companyIs_run0]
    unfold sX4_companyIs_h15
    simp only [Int.toNat_natCast]
    have e : uSum (uCoi g c w) (k + 1) = uSum (uCoi g c w) k + uCoi g c w k := rfl
    rw [e] at this
    refine zT_ltT (by omega) (zT_li (by omega) (zT_eq (by omega) (fun d => ?_) (fun d => ?_)))
    · refine zT_bde (e_ledgerLine hfk hw) (zT_let (zT_let ?_))
      rw [show uCoi g c w k = uLed g k w from by unfold uCoi; rw [if_pos d]] at this
      exact this
    · refine zT_let ?_
      rw [show uCoi g c w k = 0 from by unfold uCoi; rw [if_neg d], Int.add_zero] at this
      exact this
theorem e_companyIs {c w : Int} (hn : 24 < n) (hF : FOK g F) (hc : zIn c) (hw : zIn w) : sX4_companyIs n c w g = some (if 0 ≤ c ∧ c < 4 then (if 0 ≤ w ∧ w ≤ 2 then (0, uSum (uCoi g c w) F) else (2, 0)) else (1, 0), g) := by
  refine zT_eqn ?_
  unfold sX4_companyIs
  have e1 := e_checkCompany (g := g) hc
  by_cases c1 : 0 ≤ c ∧ c < 4
  · rw [if_pos c1] at e1 ⊢
    refine zT_bxe e1 ?_
    have e2 := e_checkRange (g := g) (x := w) (a := 0) (b := 2) hw (by decide) (by decide)
    by_cases c2 : 0 ≤ w ∧ w ≤ 2
    · rw [if_pos c2] at e2 ⊢
      refine zT_bxe e2 ?_
      exact t_companyIs_run (n := n) hF c1 c2 F 0 n (by omega) (by have := hF.2.1; omega)
    · rw [if_neg c2] at e2 ⊢
      exact zT_bxt e2 ⟨rfl, rfl⟩
  · rw [if_neg c1] at e1 ⊢
    exact zT_bxt e1 ⟨rfl, rfl⟩
end QF

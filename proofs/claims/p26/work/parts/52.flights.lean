/-! flights: what is read of them -/
def flok (g : zG) (k : Nat) : Prop := (0 ≤ g 4 k 0 ∧ g 4 k 0 ≤ 3) ∧ (0 ≤ g 4 k 1 ∧ g 4 k 1 ≤ 1439) ∧ (0 ≤ g 4 k 2 ∧ g 4 k 2 ≤ 2) ∧ (0 ≤ g 4 k 3 ∧ g 4 k 3 ≤ 1) ∧ (-1 ≤ g 4 k 4 ∧ g 4 k 4 ≤ 1440) ∧ (-1 ≤ g 4 k 5 ∧ g 4 k 5 ≤ 5) ∧ (-1 ≤ g 4 k 6 ∧ g 4 k 6 ≤ 1439) ∧ (0 ≤ g 4 k 7 ∧ g 4 k 7 ≤ 99) ∧ (0 ≤ g 4 k 8 ∧ g 4 k 8 ≤ 5) ∧ (-1 ≤ g 4 k 9 ∧ g 4 k 9 ≤ 600) ∧ (g 4 k 2 = 1 → 0 ≤ g 4 k 6)
def flbs (g : zG) (k : Nat) : Prop := ∀ s : Int, 0 ≤ s → s < 6 → (-1 ≤ g 14 k s.toNat ∧ g 14 k s.toNat ≤ 600) ∧ (0 ≤ g 15 k s.toNat ∧ g 15 k s.toNat ≤ 120)
def rgok (g : zG) (r : Nat) : Prop := (0 ≤ g 5 r 0 ∧ g 5 r 0 < 6) ∧ (0 ≤ g 5 r 1 ∧ g 5 r 1 ≤ 1439) ∧ (g 5 r 1 < g 5 r 2 ∧ g 5 r 2 ≤ 1440) ∧ (0 ≤ g 5 r 3 ∧ g 5 r 3 ≤ 60) ∧ (0 ≤ g 5 r 4 ∧ g 5 r 4 ≤ 1)
theorem zup_rd {g : zG} {k i p a b c : Nat} {v : Int} : zup g k i p v a b c = if a = k ∧ b = i ∧ c = p then v else g a b c := rfl
def uB (g : zG) (k : Nat) (s : Int) : Int := g 14 k s.toNat
def uDep (g : zG) (k : Nat) : Int := if g 4 k 2 = 1 then g 4 k 6 else if g 4 k 4 = -1 then g 4 k 1 else g 4 k 4
def uTov (g : zG) (k : Nat) (s : Int) : Int := if uB g k s = -1 then -1 else uDep g k + uB g k s
def uLds (g : zG) (k : Nat) (s : Int) : Int := if g 4 k 2 = 2 then 0 else if uB g k s = -1 then 0 else 1
def uIsd (g : zG) (k : Nat) (s m : Int) : Int := if uLds g k s = 0 then 0 else if uTov g k s ≤ m ∧ m < uTov g k s + g 15 k s.toNat then 1 else 0
def uFix (g : zG) (k : Nat) : Int := if g 4 k 2 = 1 then 1 else if g 4 k 2 = 0 ∧ g 4 k 3 ≠ 0 then 1 else 0
def uLst (g : zG) (k : Nat) : Int := if g 4 k 2 = 0 ∧ g 4 k 3 = 0 then 1 else 0
def uLtm (g : zG) (k : Nat) (s : Int) : Int := if uB g k s = -1 then -1 else (if g 4 k 2 = 1 then g 4 k 6 else g 4 k 1) + uB g k s
def uDly (g : zG) (k : Nat) : Int := if g 4 k 4 = -1 then 0 else g 4 k 4 - g 4 k 1
def uChg (g : zG) (k : Nat) : Int := if g 4 k 2 = 1 then uDly g k else 0
def uOut (g : zG) (k : Nat) : Int := if g 4 k 2 = 1 ∧ g 4 k 4 ≠ -1 ∧ (g 4 k 6 < g 4 k 4 - 5 ∨ g 4 k 4 + 10 < g 4 k 6) then 1 else 0
def uLed (g : zG) (k : Nat) (w : Int) : Int := if w = 0 then uChg g k else if w = 1 then uOut g k else if g 4 k 2 = 1 then 1 else 0
section RD
variable {g : zG} {k : Nat} {s : Int}
theorem e_behindAt (hs : 0 ≤ s ∧ s < 6) : sX1_behindAt k s g = some (uB g k s, g) := by
  refine zT_eqn ?_
  unfold sX1_behindAt
  repeat' first
    | (with_reducible refine zT_ltT ?_ ?_; · omega)
    | (with_reducible refine zT_ltF ?_ ?_; · omega)
    | (with_reducible refine zT_lt ?_ (fun _ => ?_) (fun _ => ?_); · omega)
    | (with_reducible refine zT_leT ?_ ?_; · omega)
    | (with_reducible refine zT_leF ?_ ?_; · omega)
    | (with_reducible refine zT_le ?_ (fun _ => ?_) (fun _ => ?_); · omega)
    | (with_reducible refine zT_eqT ?_ ?_; · omega)
    | (with_reducible refine zT_eqF ?_ ?_; · omega)
    | (with_reducible refine zT_eq ?_ (fun _ => ?_) (fun _ => ?_); · omega)
    | (with_reducible refine zT_ix ?_ ?_; · omega)
    | (with_reducible refine zT_li ?_ ?_; · omega)
    | (with_reducible refine zT_bo ?_ ?_; · omega)
    | (with_reducible refine zT_ri ?_ ?_; · omega)
    | (with_reducible refine zT_dv ?_ ?_; · omega)
    | (with_reducible refine zT_let ?_)
  exact zT_some ⟨rfl, rfl⟩
theorem e_stayAt (hs : 0 ≤ s ∧ s < 6) : sX1_stayAt k s g = some (g 15 k s.toNat, g) := by
  refine zT_eqn ?_
  unfold sX1_stayAt
  repeat' first
    | (with_reducible refine zT_ltT ?_ ?_; · omega)
    | (with_reducible refine zT_ltF ?_ ?_; · omega)
    | (with_reducible refine zT_lt ?_ (fun _ => ?_) (fun _ => ?_); · omega)
    | (with_reducible refine zT_leT ?_ ?_; · omega)
    | (with_reducible refine zT_leF ?_ ?_; · omega)
    | (with_reducible refine zT_le ?_ (fun _ => ?_) (fun _ => ?_); · omega)
    | (with_reducible refine zT_eqT ?_ ?_; · omega)
    | (with_reducible refine zT_eqF ?_ ?_; · omega)
    | (with_reducible refine zT_eq ?_ (fun _ => ?_) (fun _ => ?_); · omega)
    | (with_reducible refine zT_ix ?_ ?_; · omega)
    | (with_reducible refine zT_li ?_ ?_; · omega)
    | (with_reducible refine zT_bo ?_ ?_; · omega)
    | (with_reducible refine zT_ri ?_ ?_; · omega)
    | (with_reducible refine zT_dv ?_ ?_; · omega)
    | (with_reducible refine zT_let ?_)
  exact zT_some ⟨rfl, rfl⟩
theorem uB_bd (hb : flbs g k) (hs : 0 ≤ s ∧ s < 6) : -1 ≤ uB g k s ∧ uB g k s ≤ 600 := (hb s hs.1 hs.2).1
theorem e_enters (hb : flbs g k) (hs : 0 ≤ s ∧ s < 6) : sX1_enters k s g = some (if uB g k s = -1 then 0 else 1, g) := by
  have hB := uB_bd hb hs
  refine zT_eqn ?_
  unfold sX1_enters
  refine zT_bde (e_behindAt hs) ?_
  repeat' first
    | (with_reducible refine zT_ltT ?_ ?_; · omega)
    | (with_reducible refine zT_ltF ?_ ?_; · omega)
    | (with_reducible refine zT_lt ?_ (fun _ => ?_) (fun _ => ?_); · omega)
    | (with_reducible refine zT_leT ?_ ?_; · omega)
    | (with_reducible refine zT_leF ?_ ?_; · omega)
    | (with_reducible refine zT_le ?_ (fun _ => ?_) (fun _ => ?_); · omega)
    | (with_reducible refine zT_eqT ?_ ?_; · omega)
    | (with_reducible refine zT_eqF ?_ ?_; · omega)
    | (with_reducible refine zT_eq ?_ (fun _ => ?_) (fun _ => ?_); · omega)
    | (with_reducible refine zT_ix ?_ ?_; · omega)
    | (with_reducible refine zT_li ?_ ?_; · omega)
    | (with_reducible refine zT_bo ?_ ?_; · omega)
    | (with_reducible refine zT_ri ?_ ?_; · omega)
    | (with_reducible refine zT_dv ?_ ?_; · omega)
    | (with_reducible refine zT_let ?_)
  · exact zT_some ⟨by rw [if_pos (by omega)], rfl⟩
  · exact zT_some ⟨by rw [if_neg (by omega)], rfl⟩
theorem e_departure (hf : flok g k) : sX1_departure k g = some (uDep g k, g) := by
  unfold flok at hf
  refine zT_eqn ?_
  unfold sX1_departure
  repeat' first
    | (with_reducible refine zT_ltT ?_ ?_; · omega)
    | (with_reducible refine zT_ltF ?_ ?_; · omega)
    | (with_reducible refine zT_lt ?_ (fun _ => ?_) (fun _ => ?_); · omega)
    | (with_reducible refine zT_leT ?_ ?_; · omega)
    | (with_reducible refine zT_leF ?_ ?_; · omega)
    | (with_reducible refine zT_le ?_ (fun _ => ?_) (fun _ => ?_); · omega)
    | (with_reducible refine zT_eqT ?_ ?_; · omega)
    | (with_reducible refine zT_eqF ?_ ?_; · omega)
    | (with_reducible refine zT_eq ?_ (fun _ => ?_) (fun _ => ?_); · omega)
    | (with_reducible refine zT_ix ?_ ?_; · omega)
    | (with_reducible refine zT_li ?_ ?_; · omega)
    | (with_reducible refine zT_bo ?_ ?_; · omega)
    | (with_reducible refine zT_ri ?_ ?_; · omega)
    | (with_reducible refine zT_dv ?_ ?_; · omega)
    | (with_reducible refine zT_let ?_)
  · exact zT_some ⟨by unfold uDep; rw [if_pos (by omega)], rfl⟩
  · exact zT_some ⟨by unfold uDep; rw [if_neg (by omega), if_pos (by omega)], rfl⟩
  · exact zT_some ⟨by unfold uDep; rw [if_neg (by omega), if_neg (by omega)], rfl⟩
theorem uDep_bd (hf : flok g k) : 0 ≤ uDep g k ∧ uDep g k ≤ 1440 := by
  unfold flok at hf
  unfold uDep
  split
  · omega
  · split <;> omega
theorem e_timeOver (hf : flok g k) (hb : flbs g k) (hs : 0 ≤ s ∧ s < 6) : sX1_timeOver k s g = some (uTov g k s, g) := by
  have hB := uB_bd hb hs
  refine zT_eqn ?_
  unfold sX1_timeOver
  refine zT_bde (e_behindAt hs) ?_
  repeat' first
    | (with_reducible refine zT_ltT ?_ ?_; · omega)
    | (with_reducible refine zT_ltF ?_ ?_; · omega)
    | (with_reducible refine zT_lt ?_ (fun _ => ?_) (fun _ => ?_); · omega)
    | (with_reducible refine zT_leT ?_ ?_; · omega)
    | (with_reducible refine zT_leF ?_ ?_; · omega)
    | (with_reducible refine zT_le ?_ (fun _ => ?_) (fun _ => ?_); · omega)
    | (with_reducible refine zT_eqT ?_ ?_; · omega)
    | (with_reducible refine zT_eqF ?_ ?_; · omega)
    | (with_reducible refine zT_eq ?_ (fun _ => ?_) (fun _ => ?_); · omega)
    | (with_reducible refine zT_ix ?_ ?_; · omega)
    | (with_reducible refine zT_li ?_ ?_; · omega)
    | (with_reducible refine zT_bo ?_ ?_; · omega)
    | (with_reducible refine zT_ri ?_ ?_; · omega)
    | (with_reducible refine zT_dv ?_ ?_; · omega)
    | (with_reducible refine zT_let ?_)
  · exact zT_some ⟨by unfold uTov; rw [if_pos (by omega)], rfl⟩
  · refine zT_bde (e_departure hf) ?_
    exact zT_some ⟨by unfold uTov; rw [if_neg (by omega)], rfl⟩
theorem uTov_bd (hf : flok g k) (hb : flbs g k) (hs : 0 ≤ s ∧ s < 6) : -1 ≤ uTov g k s ∧ uTov g k s ≤ 2040 := by
  have hB := uB_bd hb hs
  have hD := uDep_bd hf
  unfold uTov
  split <;> omega
theorem uTov_nn (hf : flok g k) (hb : flbs g k) (hs : 0 ≤ s ∧ s < 6) (h : uB g k s ≠ -1) : 0 ≤ uTov g k s := by
  have hB := uB_bd hb hs
  have hD := uDep_bd hf
  unfold uTov
  rw [if_neg h]
  omega
theorem e_loads (hf : flok g k) (hb : flbs g k) (hs : 0 ≤ s ∧ s < 6) : sX1_loads k s g = some (uLds g k s, g) := by
  have hf2 := hf
  unfold flok at hf2
  refine zT_eqn ?_
  unfold sX1_loads
  repeat' first
    | (with_reducible refine zT_ltT ?_ ?_; · omega)
    | (with_reducible refine zT_ltF ?_ ?_; · omega)
    | (with_reducible refine zT_lt ?_ (fun _ => ?_) (fun _ => ?_); · omega)
    | (with_reducible refine zT_leT ?_ ?_; · omega)
    | (with_reducible refine zT_leF ?_ ?_; · omega)
    | (with_reducible refine zT_le ?_ (fun _ => ?_) (fun _ => ?_); · omega)
    | (with_reducible refine zT_eqT ?_ ?_; · omega)
    | (with_reducible refine zT_eqF ?_ ?_; · omega)
    | (with_reducible refine zT_eq ?_ (fun _ => ?_) (fun _ => ?_); · omega)
    | (with_reducible refine zT_ix ?_ ?_; · omega)
    | (with_reducible refine zT_li ?_ ?_; · omega)
    | (with_reducible refine zT_bo ?_ ?_; · omega)
    | (with_reducible refine zT_ri ?_ ?_; · omega)
    | (with_reducible refine zT_dv ?_ ?_; · omega)
    | (with_reducible refine zT_let ?_)
  · exact zT_some ⟨by unfold uLds; rw [if_pos (by omega)], rfl⟩
  · refine zT_bde (e_enters hb hs) ?_
    by_cases c : uB g k s = -1
    · rw [if_pos c]
      repeat' first
        | (with_reducible refine zT_ltT ?_ ?_; · omega)
        | (with_reducible refine zT_ltF ?_ ?_; · omega)
        | (with_reducible refine zT_lt ?_ (fun _ => ?_) (fun _ => ?_); · omega)
        | (with_reducible refine zT_leT ?_ ?_; · omega)
        | (with_reducible refine zT_leF ?_ ?_; · omega)
        | (with_reducible refine zT_le ?_ (fun _ => ?_) (fun _ => ?_); · omega)
        | (with_reducible refine zT_eqT ?_ ?_; · omega)
        | (with_reducible refine zT_eqF ?_ ?_; · omega)
        | (with_reducible refine zT_eq ?_ (fun _ => ?_) (fun _ => ?_); · omega)
        | (with_reducible refine zT_ix ?_ ?_; · omega)
        | (with_reducible refine zT_li ?_ ?_; · omega)
        | (with_reducible refine zT_bo ?_ ?_; · omega)
        | (with_reducible refine zT_ri ?_ ?_; · omega)
        | (with_reducible refine zT_dv ?_ ?_; · omega)
        | (with_reducible refine zT_let ?_)
      exact zT_some ⟨by unfold uLds; rw [if_neg (by omega), if_pos c], rfl⟩
    · rw [if_neg c]
      repeat' first
        | (with_reducible refine zT_ltT ?_ ?_; · omega)
        | (with_reducible refine zT_ltF ?_ ?_; · omega)
        | (with_reducible refine zT_lt ?_ (fun _ => ?_) (fun _ => ?_); · omega)
        | (with_reducible refine zT_leT ?_ ?_; · omega)
        | (with_reducible refine zT_leF ?_ ?_; · omega)
        | (with_reducible refine zT_le ?_ (fun _ => ?_) (fun _ => ?_); · omega)
        | (with_reducible refine zT_eqT ?_ ?_; · omega)
        | (with_reducible refine zT_eqF ?_ ?_; · omega)
        | (with_reducible refine zT_eq ?_ (fun _ => ?_) (fun _ => ?_); · omega)
        | (with_reducible refine zT_ix ?_ ?_; · omega)
        | (with_reducible refine zT_li ?_ ?_; · omega)
        | (with_reducible refine zT_bo ?_ ?_; · omega)
        | (with_reducible refine zT_ri ?_ ?_; · omega)
        | (with_reducible refine zT_dv ?_ ?_; · omega)
        | (with_reducible refine zT_let ?_)
      exact zT_some ⟨by unfold uLds; rw [if_neg (by omega), if_neg c], rfl⟩
theorem uLds_bd : uLds g k s = 0 ∨ uLds g k s = 1 := by
  unfold uLds
  split
  · exact Or.inl rfl
  · split
    · exact Or.inl rfl
    · exact Or.inr rfl
theorem uLds_one : uLds g k s = 1 ↔ g 4 k 2 ≠ 2 ∧ uB g k s ≠ -1 := by
  unfold uLds
  split
  · omega
  · split <;> omega
theorem e_isInside {m : Int} (hf : flok g k) (hb : flbs g k) (hs : 0 ≤ s ∧ s < 6) (hm : 0 ≤ m ∧ m ≤ 2999) : sX1_isInside k s m g = some (uIsd g k s m, g) := by
  have hT := uTov_bd hf hb hs
  have hS := (hb s hs.1 hs.2).2
  have hL := uLds_bd (g := g) (k := k) (s := s)
  refine zT_eqn ?_
  unfold sX1_isInside
  refine zT_bde (e_timeOver hf hb hs) ?_
  refine zT_bde (e_loads hf hb hs) ?_
  repeat' first
    | (refine zT_bde (e_stayAt hs) ?_)
    | (with_reducible refine zT_ltT ?_ ?_; · omega)
    | (with_reducible refine zT_ltF ?_ ?_; · omega)
    | (with_reducible refine zT_lt ?_ (fun _ => ?_) (fun _ => ?_); · omega)
    | (with_reducible refine zT_leT ?_ ?_; · omega)
    | (with_reducible refine zT_leF ?_ ?_; · omega)
    | (with_reducible refine zT_le ?_ (fun _ => ?_) (fun _ => ?_); · omega)
    | (with_reducible refine zT_eqT ?_ ?_; · omega)
    | (with_reducible refine zT_eqF ?_ ?_; · omega)
    | (with_reducible refine zT_eq ?_ (fun _ => ?_) (fun _ => ?_); · omega)
    | (with_reducible refine zT_ix ?_ ?_; · omega)
    | (with_reducible refine zT_li ?_ ?_; · omega)
    | (with_reducible refine zT_bo ?_ ?_; · omega)
    | (with_reducible refine zT_ri ?_ ?_; · omega)
    | (with_reducible refine zT_dv ?_ ?_; · omega)
    | (with_reducible refine zT_let ?_)
  · exact zT_some ⟨by unfold uIsd; rw [if_pos (by omega)], rfl⟩
  · exact zT_some ⟨by unfold uIsd; rw [if_neg (by omega), if_pos (by omega)], rfl⟩
  · exact zT_some ⟨by unfold uIsd; rw [if_neg (by omega), if_neg (by omega)], rfl⟩
  · exact zT_some ⟨by unfold uIsd; rw [if_neg (by omega), if_neg (by omega)], rfl⟩
theorem e_isFixed (hf : flok g k) : sX1_isFixed k g = some (uFix g k, g) := by
  unfold flok at hf
  refine zT_eqn ?_
  unfold sX1_isFixed sX1_isFixed_j22
  repeat' first
    | (with_reducible refine zT_ltT ?_ ?_; · omega)
    | (with_reducible refine zT_ltF ?_ ?_; · omega)
    | (with_reducible refine zT_lt ?_ (fun _ => ?_) (fun _ => ?_); · omega)
    | (with_reducible refine zT_leT ?_ ?_; · omega)
    | (with_reducible refine zT_leF ?_ ?_; · omega)
    | (with_reducible refine zT_le ?_ (fun _ => ?_) (fun _ => ?_); · omega)
    | (with_reducible refine zT_eqT ?_ ?_; · omega)
    | (with_reducible refine zT_eqF ?_ ?_; · omega)
    | (with_reducible refine zT_eq ?_ (fun _ => ?_) (fun _ => ?_); · omega)
    | (with_reducible refine zT_ix ?_ ?_; · omega)
    | (with_reducible refine zT_li ?_ ?_; · omega)
    | (with_reducible refine zT_bo ?_ ?_; · omega)
    | (with_reducible refine zT_ri ?_ ?_; · omega)
    | (with_reducible refine zT_dv ?_ ?_; · omega)
    | (with_reducible refine zT_let ?_)
  · exact zT_some ⟨by unfold uFix; rw [if_pos (by omega)], rfl⟩
  · exact zT_some ⟨by unfold uFix; rw [if_neg (by omega), if_neg (by omega)], rfl⟩
  · exact zT_some ⟨by unfold uFix; rw [if_neg (by omega), if_pos (by omega)], rfl⟩
  · exact zT_some ⟨by unfold uFix; rw [if_neg (by omega), if_neg (by omega)], rfl⟩
theorem e_isListed (hf : flok g k) : sX1_isListed k g = some (uLst g k, g) := by
  unfold flok at hf
  refine zT_eqn ?_
  unfold sX1_isListed
  repeat' first
    | (with_reducible refine zT_ltT ?_ ?_; · omega)
    | (with_reducible refine zT_ltF ?_ ?_; · omega)
    | (with_reducible refine zT_lt ?_ (fun _ => ?_) (fun _ => ?_); · omega)
    | (with_reducible refine zT_leT ?_ ?_; · omega)
    | (with_reducible refine zT_leF ?_ ?_; · omega)
    | (with_reducible refine zT_le ?_ (fun _ => ?_) (fun _ => ?_); · omega)
    | (with_reducible refine zT_eqT ?_ ?_; · omega)
    | (with_reducible refine zT_eqF ?_ ?_; · omega)
    | (with_reducible refine zT_eq ?_ (fun _ => ?_) (fun _ => ?_); · omega)
    | (with_reducible refine zT_ix ?_ ?_; · omega)
    | (with_reducible refine zT_li ?_ ?_; · omega)
    | (with_reducible refine zT_bo ?_ ?_; · omega)
    | (with_reducible refine zT_ri ?_ ?_; · omega)
    | (with_reducible refine zT_dv ?_ ?_; · omega)
    | (with_reducible refine zT_let ?_)
  · exact zT_some ⟨by unfold uLst; rw [if_pos (by omega)], rfl⟩
  · exact zT_some ⟨by unfold uLst; rw [if_neg (by omega)], rfl⟩
  · exact zT_some ⟨by unfold uLst; rw [if_neg (by omega)], rfl⟩
theorem uFix_bd : uFix g k = 0 ∨ uFix g k = 1 := by
  unfold uFix
  split
  · exact Or.inr rfl
  · split
    · exact Or.inr rfl
    · exact Or.inl rfl
theorem uLst_bd : uLst g k = 0 ∨ uLst g k = 1 := by
  unfold uLst
  split
  · exact Or.inr rfl
  · exact Or.inl rfl
theorem e_lineTime (hf : flok g k) (hb : flbs g k) (hs : 0 ≤ s ∧ s < 6) : sX1_lineTime k s g = some (uLtm g k s, g) := by
  have hB := uB_bd hb hs
  unfold flok at hf
  refine zT_eqn ?_
  unfold sX1_lineTime
  refine zT_bde (e_behindAt hs) ?_
  repeat' first
    | (with_reducible refine zT_ltT ?_ ?_; · omega)
    | (with_reducible refine zT_ltF ?_ ?_; · omega)
    | (with_reducible refine zT_lt ?_ (fun _ => ?_) (fun _ => ?_); · omega)
    | (with_reducible refine zT_leT ?_ ?_; · omega)
    | (with_reducible refine zT_leF ?_ ?_; · omega)
    | (with_reducible refine zT_le ?_ (fun _ => ?_) (fun _ => ?_); · omega)
    | (with_reducible refine zT_eqT ?_ ?_; · omega)
    | (with_reducible refine zT_eqF ?_ ?_; · omega)
    | (with_reducible refine zT_eq ?_ (fun _ => ?_) (fun _ => ?_); · omega)
    | (with_reducible refine zT_ix ?_ ?_; · omega)
    | (with_reducible refine zT_li ?_ ?_; · omega)
    | (with_reducible refine zT_bo ?_ ?_; · omega)
    | (with_reducible refine zT_ri ?_ ?_; · omega)
    | (with_reducible refine zT_dv ?_ ?_; · omega)
    | (with_reducible refine zT_let ?_)
  · exact zT_some ⟨by unfold uLtm; rw [if_pos (by omega)], rfl⟩
  · exact zT_some ⟨by unfold uLtm; rw [if_neg (by omega), if_pos (by omega)], rfl⟩
  · exact zT_some ⟨by unfold uLtm; rw [if_neg (by omega), if_neg (by omega)], rfl⟩
theorem uLtm_bd (hf : flok g k) (hb : flbs g k) (hs : 0 ≤ s ∧ s < 6) : -1 ≤ uLtm g k s ∧ uLtm g k s ≤ 2040 := by
  have hB := uB_bd hb hs
  unfold flok at hf
  unfold uLtm
  split
  · omega
  · split <;> omega
theorem e_loseSlotTime : sX1_loseSlotTime k g = some (0, zup (zup g 4 k 4 (-1)) 4 k 5 (-1)) := rfl
theorem e_delay (hf : flok g k) : sX1_delay k g = some (uDly g k, g) := by
  unfold flok at hf
  refine zT_eqn ?_
  unfold sX1_delay
  repeat' first
    | (with_reducible refine zT_ltT ?_ ?_; · omega)
    | (with_reducible refine zT_ltF ?_ ?_; · omega)
    | (with_reducible refine zT_lt ?_ (fun _ => ?_) (fun _ => ?_); · omega)
    | (with_reducible refine zT_leT ?_ ?_; · omega)
    | (with_reducible refine zT_leF ?_ ?_; · omega)
    | (with_reducible refine zT_le ?_ (fun _ => ?_) (fun _ => ?_); · omega)
    | (with_reducible refine zT_eqT ?_ ?_; · omega)
    | (with_reducible refine zT_eqF ?_ ?_; · omega)
    | (with_reducible refine zT_eq ?_ (fun _ => ?_) (fun _ => ?_); · omega)
    | (with_reducible refine zT_ix ?_ ?_; · omega)
    | (with_reducible refine zT_li ?_ ?_; · omega)
    | (with_reducible refine zT_bo ?_ ?_; · omega)
    | (with_reducible refine zT_ri ?_ ?_; · omega)
    | (with_reducible refine zT_dv ?_ ?_; · omega)
    | (with_reducible refine zT_let ?_)
  · exact zT_some ⟨by unfold uDly; rw [if_pos (by omega)], rfl⟩
  · exact zT_some ⟨by unfold uDly; rw [if_neg (by omega)], rfl⟩
theorem uDly_bd (hf : flok g k) : -1440 ≤ uDly g k ∧ uDly g k ≤ 1440 := by
  unfold flok at hf
  unfold uDly
  split <;> omega
theorem e_charge (hf : flok g k) : sX1_charge k g = some (uChg g k, g) := by
  have hf2 := hf
  unfold flok at hf2
  refine zT_eqn ?_
  unfold sX1_charge
  repeat' first
    | (refine zT_bde (e_delay hf) ?_)
    | (with_reducible refine zT_ltT ?_ ?_; · omega)
    | (with_reducible refine zT_ltF ?_ ?_; · omega)
    | (with_reducible refine zT_lt ?_ (fun _ => ?_) (fun _ => ?_); · omega)
    | (with_reducible refine zT_leT ?_ ?_; · omega)
    | (with_reducible refine zT_leF ?_ ?_; · omega)
    | (with_reducible refine zT_le ?_ (fun _ => ?_) (fun _ => ?_); · omega)
    | (with_reducible refine zT_eqT ?_ ?_; · omega)
    | (with_reducible refine zT_eqF ?_ ?_; · omega)
    | (with_reducible refine zT_eq ?_ (fun _ => ?_) (fun _ => ?_); · omega)
    | (with_reducible refine zT_ix ?_ ?_; · omega)
    | (with_reducible refine zT_li ?_ ?_; · omega)
    | (with_reducible refine zT_bo ?_ ?_; · omega)
    | (with_reducible refine zT_ri ?_ ?_; · omega)
    | (with_reducible refine zT_dv ?_ ?_; · omega)
    | (with_reducible refine zT_let ?_)
  · exact zT_some ⟨by unfold uChg; rw [if_pos (by omega)], rfl⟩
  · exact zT_some ⟨by unfold uChg; rw [if_neg (by omega)], rfl⟩
theorem uChg_bd (hf : flok g k) : -1440 ≤ uChg g k ∧ uChg g k ≤ 1440 := by
  have := uDly_bd hf
  unfold uChg
  split <;> omega
theorem e_wentOutOfWindow (hf : flok g k) : sX1_wentOutOfWindow k g = some (uOut g k, g) := by
  unfold flok at hf
  refine zT_eqn ?_
  unfold sX1_wentOutOfWindow sX1_wentOutOfWindow_j43
  repeat' first
    | (with_reducible refine zT_ltT ?_ ?_; · omega)
    | (with_reducible refine zT_ltF ?_ ?_; · omega)
    | (with_reducible refine zT_lt ?_ (fun _ => ?_) (fun _ => ?_); · omega)
    | (with_reducible refine zT_leT ?_ ?_; · omega)
    | (with_reducible refine zT_leF ?_ ?_; · omega)
    | (with_reducible refine zT_le ?_ (fun _ => ?_) (fun _ => ?_); · omega)
    | (with_reducible refine zT_eqT ?_ ?_; · omega)
    | (with_reducible refine zT_eqF ?_ ?_; · omega)
    | (with_reducible refine zT_eq ?_ (fun _ => ?_) (fun _ => ?_); · omega)
    | (with_reducible refine zT_ix ?_ ?_; · omega)
    | (with_reducible refine zT_li ?_ ?_; · omega)
    | (with_reducible refine zT_bo ?_ ?_; · omega)
    | (with_reducible refine zT_ri ?_ ?_; · omega)
    | (with_reducible refine zT_dv ?_ ?_; · omega)
    | (with_reducible refine zT_let ?_)
  · exact zT_some ⟨by unfold uOut; rw [if_neg (by omega)], rfl⟩
  · exact zT_some ⟨by unfold uOut; rw [if_pos (by omega)], rfl⟩
  · exact zT_some ⟨by unfold uOut; rw [if_neg (by omega)], rfl⟩
  · exact zT_some ⟨by unfold uOut; rw [if_pos (by omega)], rfl⟩
  · exact zT_some ⟨by unfold uOut; rw [if_neg (by omega)], rfl⟩
theorem uOut_bd : uOut g k = 0 ∨ uOut g k = 1 := by
  unfold uOut
  split
  · exact Or.inr rfl
  · exact Or.inl rfl
theorem e_ledgerLine {w : Int} (hf : flok g k) (hw : 0 ≤ w ∧ w ≤ 2) : sX1_ledgerLine k w g = some (uLed g k w, g) := by
  have hf2 := hf
  have hO := uOut_bd (g := g) (k := k)
  unfold flok at hf2
  refine zT_eqn ?_
  unfold sX1_ledgerLine
  repeat' first
    | (refine zT_bde (e_charge hf) ?_)
    | (refine zT_bde (e_wentOutOfWindow hf) ?_)
    | (with_reducible refine zT_ltT ?_ ?_; · omega)
    | (with_reducible refine zT_ltF ?_ ?_; · omega)
    | (with_reducible refine zT_lt ?_ (fun _ => ?_) (fun _ => ?_); · omega)
    | (with_reducible refine zT_leT ?_ ?_; · omega)
    | (with_reducible refine zT_leF ?_ ?_; · omega)
    | (with_reducible refine zT_le ?_ (fun _ => ?_) (fun _ => ?_); · omega)
    | (with_reducible refine zT_eqT ?_ ?_; · omega)
    | (with_reducible refine zT_eqF ?_ ?_; · omega)
    | (with_reducible refine zT_eq ?_ (fun _ => ?_) (fun _ => ?_); · omega)
    | (with_reducible refine zT_ix ?_ ?_; · omega)
    | (with_reducible refine zT_li ?_ ?_; · omega)
    | (with_reducible refine zT_bo ?_ ?_; · omega)
    | (with_reducible refine zT_ri ?_ ?_; · omega)
    | (with_reducible refine zT_dv ?_ ?_; · omega)
    | (with_reducible refine zT_let ?_)
  · exact zT_some ⟨by unfold uLed; rw [if_pos (by omega)], rfl⟩
  · exact zT_some ⟨by unfold uLed; rw [if_neg (by omega), if_pos (by omega)]; omega, rfl⟩
  · exact zT_some ⟨by unfold uLed; rw [if_neg (by omega), if_pos (by omega)]; omega, rfl⟩
  · exact zT_some ⟨by unfold uLed; rw [if_neg (by omega), if_neg (by omega), if_pos (by omega)], rfl⟩
  · exact zT_some ⟨by unfold uLed; rw [if_neg (by omega), if_neg (by omega), if_neg (by omega)], rfl⟩
theorem uLed_bd {w : Int} (hf : flok g k) : -1440 ≤ uLed g k w ∧ uLed g k w ≤ 1440 := by
  have h1 := uChg_bd hf
  have h2 := uOut_bd (g := g) (k := k)
  unfold uLed
  split
  · omega
  · split
    · omega
    · split <;> omega
theorem e_canEnterNext {b : Int} (hf : flok g k) (hb : flbs g k) (hs : 0 ≤ s ∧ s < 6) (hbd : 0 ≤ b ∧ b ≤ 600) : sX1_canEnterNext k s b g = some (if g 4 k 2 = 0 ∧ g 4 k 4 = -1 ∧ g 4 k 8 < 5 ∧ uB g k s = -1 ∧ g 4 k 9 < b then 1 else 0, g) := by
  have hf2 := hf
  unfold flok at hf2
  refine zT_eqn ?_
  unfold sX1_canEnterNext
  by_cases c : uB g k s = -1
  · have e := e_enters hb hs
    rw [if_pos c] at e
    repeat' first
      | (refine zT_bde e ?_)
      | (with_reducible refine zT_ltT ?_ ?_; · omega)
      | (with_reducible refine zT_ltF ?_ ?_; · omega)
      | (with_reducible refine zT_lt ?_ (fun _ => ?_) (fun _ => ?_); · omega)
      | (with_reducible refine zT_leT ?_ ?_; · omega)
      | (with_reducible refine zT_leF ?_ ?_; · omega)
      | (with_reducible refine zT_le ?_ (fun _ => ?_) (fun _ => ?_); · omega)
      | (with_reducible refine zT_eqT ?_ ?_; · omega)
      | (with_reducible refine zT_eqF ?_ ?_; · omega)
      | (with_reducible refine zT_eq ?_ (fun _ => ?_) (fun _ => ?_); · omega)
      | (with_reducible refine zT_ix ?_ ?_; · omega)
      | (with_reducible refine zT_li ?_ ?_; · omega)
      | (with_reducible refine zT_bo ?_ ?_; · omega)
      | (with_reducible refine zT_ri ?_ ?_; · omega)
      | (with_reducible refine zT_dv ?_ ?_; · omega)
      | (with_reducible refine zT_let ?_)
    · exact zT_some ⟨by rw [if_pos (by omega)], rfl⟩
    · exact zT_some ⟨by rw [if_neg (by omega)], rfl⟩
    · exact zT_some ⟨by rw [if_neg (by omega)], rfl⟩
    · exact zT_some ⟨by rw [if_neg (by omega)], rfl⟩
    · exact zT_some ⟨by rw [if_neg (by omega)], rfl⟩
  · have e := e_enters hb hs
    rw [if_neg c] at e
    repeat' first
      | (refine zT_bde e ?_)
      | (with_reducible refine zT_ltT ?_ ?_; · omega)
      | (with_reducible refine zT_ltF ?_ ?_; · omega)
      | (with_reducible refine zT_lt ?_ (fun _ => ?_) (fun _ => ?_); · omega)
      | (with_reducible refine zT_leT ?_ ?_; · omega)
      | (with_reducible refine zT_leF ?_ ?_; · omega)
      | (with_reducible refine zT_le ?_ (fun _ => ?_) (fun _ => ?_); · omega)
      | (with_reducible refine zT_eqT ?_ ?_; · omega)
      | (with_reducible refine zT_eqF ?_ ?_; · omega)
      | (with_reducible refine zT_eq ?_ (fun _ => ?_) (fun _ => ?_); · omega)
      | (with_reducible refine zT_ix ?_ ?_; · omega)
      | (with_reducible refine zT_li ?_ ?_; · omega)
      | (with_reducible refine zT_bo ?_ ?_; · omega)
      | (with_reducible refine zT_ri ?_ ?_; · omega)
      | (with_reducible refine zT_dv ?_ ?_; · omega)
      | (with_reducible refine zT_let ?_)
    · exact zT_some ⟨by rw [if_neg (by omega)], rfl⟩
    · exact zT_some ⟨by rw [if_neg (by omega)], rfl⟩
    · exact zT_some ⟨by rw [if_neg (by omega)], rfl⟩
    · exact zT_some ⟨by rw [if_neg (by omega)], rfl⟩
theorem e_addEntry {b t : Int} (hs : 0 ≤ s ∧ s < 6) : sX1_addEntry k s b t g = some (0, zup (zup (zup (zup g 14 k s.toNat b) 15 k s.toNat t) 4 k 9 b) 4 k 8 (g 4 k 8 + 1)) := by
  refine zT_eqn ?_
  unfold sX1_addEntry
  repeat' first
    | (with_reducible refine zT_st ?_)
    | (with_reducible refine zT_ltT ?_ ?_; · omega)
    | (with_reducible refine zT_ltF ?_ ?_; · omega)
    | (with_reducible refine zT_lt ?_ (fun _ => ?_) (fun _ => ?_); · omega)
    | (with_reducible refine zT_leT ?_ ?_; · omega)
    | (with_reducible refine zT_leF ?_ ?_; · omega)
    | (with_reducible refine zT_le ?_ (fun _ => ?_) (fun _ => ?_); · omega)
    | (with_reducible refine zT_eqT ?_ ?_; · omega)
    | (with_reducible refine zT_eqF ?_ ?_; · omega)
    | (with_reducible refine zT_eq ?_ (fun _ => ?_) (fun _ => ?_); · omega)
    | (with_reducible refine zT_ix ?_ ?_; · omega)
    | (with_reducible refine zT_li ?_ ?_; · omega)
    | (with_reducible refine zT_bo ?_ ?_; · omega)
    | (with_reducible refine zT_ri ?_ ?_; · omega)
    | (with_reducible refine zT_dv ?_ ?_; · omega)
    | (with_reducible refine zT_let ?_)
  exact zT_some ⟨rfl, by rw [zup_rd, zup_rd, zup_rd]; simp⟩
theorem e_forgetReckoned : sX1_forgetReckoned k g = some (0, zup (zup g 4 k 12 0) 4 k 13 (-1)) := rfl
theorem e_reckon {p r : Int} (hp : -2147483648 ≤ p ∧ p ≤ 2147483647) (hd : 0 ≤ g 4 k 12 ∧ g 4 k 12 ≤ 1440) : sX1_reckon k p r g = some (0, if g 4 k 12 < p then zup (zup g 4 k 12 p) 4 k 13 r else g) := by
  refine zT_eqn ?_
  unfold sX1_reckon
  repeat' first
    | (with_reducible refine zT_st ?_)
    | (with_reducible refine zT_ltT ?_ ?_; · omega)
    | (with_reducible refine zT_ltF ?_ ?_; · omega)
    | (with_reducible refine zT_lt ?_ (fun _ => ?_) (fun _ => ?_); · omega)
    | (with_reducible refine zT_leT ?_ ?_; · omega)
    | (with_reducible refine zT_leF ?_ ?_; · omega)
    | (with_reducible refine zT_le ?_ (fun _ => ?_) (fun _ => ?_); · omega)
    | (with_reducible refine zT_eqT ?_ ?_; · omega)
    | (with_reducible refine zT_eqF ?_ ?_; · omega)
    | (with_reducible refine zT_eq ?_ (fun _ => ?_) (fun _ => ?_); · omega)
    | (with_reducible refine zT_ix ?_ ?_; · omega)
    | (with_reducible refine zT_li ?_ ?_; · omega)
    | (with_reducible refine zT_bo ?_ ?_; · omega)
    | (with_reducible refine zT_ri ?_ ?_; · omega)
    | (with_reducible refine zT_dv ?_ ?_; · omega)
    | (with_reducible refine zT_let ?_)
  · exact zT_some ⟨rfl, by rw [if_neg (by omega)]⟩
  · exact zT_some ⟨rfl, by rw [if_pos (by omega)]⟩
theorem e_holdsAt {r : Nat} {m : Int} (hr : rgok g r) (hm : -1 ≤ m ∧ m ≤ 3000) : sX3_holdsAt r m g = some (if g 5 r 1 ≤ m ∧ m < g 5 r 2 then 1 else 0, g) := by
  unfold rgok at hr
  refine zT_eqn ?_
  unfold sX3_holdsAt
  repeat' first
    | (with_reducible refine zT_ltT ?_ ?_; · omega)
    | (with_reducible refine zT_ltF ?_ ?_; · omega)
    | (with_reducible refine zT_lt ?_ (fun _ => ?_) (fun _ => ?_); · omega)
    | (with_reducible refine zT_leT ?_ ?_; · omega)
    | (with_reducible refine zT_leF ?_ ?_; · omega)
    | (with_reducible refine zT_le ?_ (fun _ => ?_) (fun _ => ?_); · omega)
    | (with_reducible refine zT_eqT ?_ ?_; · omega)
    | (with_reducible refine zT_eqF ?_ ?_; · omega)
    | (with_reducible refine zT_eq ?_ (fun _ => ?_) (fun _ => ?_); · omega)
    | (with_reducible refine zT_ix ?_ ?_; · omega)
    | (with_reducible refine zT_li ?_ ?_; · omega)
    | (with_reducible refine zT_bo ?_ ?_; · omega)
    | (with_reducible refine zT_ri ?_ ?_; · omega)
    | (with_reducible refine zT_dv ?_ ?_; · omega)
    | (with_reducible refine zT_let ?_)
  · exact zT_some ⟨by rw [if_neg (by omega)], rfl⟩
  · exact zT_some ⟨by rw [if_pos (by omega)], rfl⟩
  · exact zT_some ⟨by rw [if_neg (by omega)], rfl⟩
def uSc (g : zG) (r : Nat) : Nat := if g 5 r 4 = 0 then uS (g 5 r 1) (g 5 r 2) (g 5 r 3) else 0
theorem uMul_bd {a b : Int} (ha : 0 ≤ a ∧ a ≤ 1440) (hb : 0 ≤ b ∧ b ≤ 60) : 0 ≤ a * b ∧ a * b ≤ 86400 := by
  refine ⟨Int.mul_nonneg ha.1 hb.1, ?_⟩
  have : a * b ≤ 1440 * 60 := Int.le_trans (Int.mul_le_mul_of_nonneg_right ha.2 hb.1) (Int.mul_le_mul_of_nonneg_left hb.2 (by omega))
  omega
theorem e_slotCount {r : Nat} (hr : rgok g r) : sX3_slotCount r g = some ((uSc g r : Int), g) := by
  unfold rgok at hr
  have hm := uMul_bd (a := g 5 r 2 - g 5 r 1) (b := g 5 r 3) (by omega) (by omega)
  refine zT_eqn ?_
  unfold sX3_slotCount uSc uS
  generalize (g 5 r 2 - g 5 r 1) * g 5 r 3 = x at hm ⊢
  repeat' first
    | (with_reducible refine zT_ltT ?_ ?_; · omega)
    | (with_reducible refine zT_ltF ?_ ?_; · omega)
    | (with_reducible refine zT_lt ?_ (fun _ => ?_) (fun _ => ?_); · omega)
    | (with_reducible refine zT_leT ?_ ?_; · omega)
    | (with_reducible refine zT_leF ?_ ?_; · omega)
    | (with_reducible refine zT_le ?_ (fun _ => ?_) (fun _ => ?_); · omega)
    | (with_reducible refine zT_eqT ?_ ?_; · omega)
    | (with_reducible refine zT_eqF ?_ ?_; · omega)
    | (with_reducible refine zT_eq ?_ (fun _ => ?_) (fun _ => ?_); · omega)
    | (with_reducible refine zT_ix ?_ ?_; · omega)
    | (with_reducible refine zT_li ?_ ?_; · omega)
    | (with_reducible refine zT_bo ?_ ?_; · omega)
    | (with_reducible refine zT_ri ?_ ?_; · omega)
    | (with_reducible refine zT_dv ?_ ?_; · omega)
    | (with_reducible refine zT_let ?_)
  · refine zT_some ⟨?_, rfl⟩
    rw [if_pos (by omega), Int.tdiv_eq_ediv_of_nonneg (by omega)]
    omega
  · exact zT_some ⟨by rw [if_neg (by omega)]; rfl, rfl⟩
theorem e_slotBegin {r : Nat} {j : Int} (hr : rgok g r) (hp : 0 < g 5 r 3) (hj : 0 ≤ j ∧ j ≤ 1441) : sX3_slotBegin r j g = some (uBg (g 5 r 1) (g 5 r 3) j.toNat, g) := by
  unfold rgok at hr
  refine zT_eqn ?_
  unfold sX3_slotBegin
  repeat' first
    | (with_reducible refine zT_ltT ?_ ?_; · omega)
    | (with_reducible refine zT_ltF ?_ ?_; · omega)
    | (with_reducible refine zT_lt ?_ (fun _ => ?_) (fun _ => ?_); · omega)
    | (with_reducible refine zT_leT ?_ ?_; · omega)
    | (with_reducible refine zT_leF ?_ ?_; · omega)
    | (with_reducible refine zT_le ?_ (fun _ => ?_) (fun _ => ?_); · omega)
    | (with_reducible refine zT_eqT ?_ ?_; · omega)
    | (with_reducible refine zT_eqF ?_ ?_; · omega)
    | (with_reducible refine zT_eq ?_ (fun _ => ?_) (fun _ => ?_); · omega)
    | (with_reducible refine zT_ix ?_ ?_; · omega)
    | (with_reducible refine zT_li ?_ ?_; · omega)
    | (with_reducible refine zT_bo ?_ ?_; · omega)
    | (with_reducible refine zT_ri ?_ ?_; · omega)
    | (with_reducible refine zT_dv ?_ ?_; · omega)
    | (with_reducible refine zT_let ?_)
  exact zT_some ⟨uBg_tdiv hj.1, rfl⟩
theorem e_slotEnd {r : Nat} {j : Int} (hr : rgok g r) (hp : 0 < g 5 r 3) (hj : 0 ≤ j ∧ j ≤ 1440) : sX3_slotEnd r j g = some (uEn (g 5 r 1) (g 5 r 2) (g 5 r 3) j.toNat, g) := by
  have hb := uBg_ge (fr := g 5 r 1) (rt := g 5 r 3) hp (j := (j + 1).toNat)
  have hr2 := hr
  unfold rgok at hr2
  refine zT_eqn ?_
  unfold sX3_slotEnd
  refine zT_bde (e_slotBegin hr hp (by omega)) ?_
  repeat' first
    | (with_reducible refine zT_ltT ?_ ?_; · omega)
    | (with_reducible refine zT_ltF ?_ ?_; · omega)
    | (with_reducible refine zT_lt ?_ (fun _ => ?_) (fun _ => ?_); · omega)
    | (with_reducible refine zT_leT ?_ ?_; · omega)
    | (with_reducible refine zT_leF ?_ ?_; · omega)
    | (with_reducible refine zT_le ?_ (fun _ => ?_) (fun _ => ?_); · omega)
    | (with_reducible refine zT_eqT ?_ ?_; · omega)
    | (with_reducible refine zT_eqF ?_ ?_; · omega)
    | (with_reducible refine zT_eq ?_ (fun _ => ?_) (fun _ => ?_); · omega)
    | (with_reducible refine zT_ix ?_ ?_; · omega)
    | (with_reducible refine zT_li ?_ ?_; · omega)
    | (with_reducible refine zT_bo ?_ ?_; · omega)
    | (with_reducible refine zT_ri ?_ ?_; · omega)
    | (with_reducible refine zT_dv ?_ ?_; · omega)
    | (with_reducible refine zT_let ?_)
  refine zT_some ⟨?_, rfl⟩
  unfold uEn
  rw [show (j + 1).toNat = j.toNat + 1 from by omega]
end RD

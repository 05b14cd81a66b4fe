/-! messages and swaps -/
abbrev uMok (a2 a3 a4 : Int) : Prop := (1 ≤ a2 ∧ a2 ≤ 99) ∧ (0 ≤ a3 ∧ a3 ≤ 2) ∧ (0 ≤ a4 ∧ a4 ≤ (if a3 = 1 then 0 else 1439))
section ME
variable {g : zG} {a2 a3 a4 : Int} {F R k : Nat}
theorem e_message_pre {P : Nat × Int → zG → Prop} (hF : FOK g F) (hk : k < F) (h2 : zIn a2) (h3 : zIn a3) (h4 : zIn a4) (hok : uMok a2 a3 a4) (hc : zT (zeq (g 4 k 2) 0 (zle a2 (g 4 k 7) (zbo 0 (some ((0, 0), g))) (zst g 4 k 7 a2 (fun g => zbd (sX1_follow k a3 a4 g) (fun _ g => zbo 1 (some ((0, 1), g)))))) (zbo 0 (some ((0, 0), g)))) P) : zT (sX4_message (k : Int) a2 a3 a4 g) P := by
  have h24 := hF.2.1
  have e1 := e_flightAt (x := (k : Int)) hF (by constructor <;> omega)
  rw [if_pos (by omega)] at e1
  obtain ⟨c2, c3, c4⟩ := hok
  unfold sX4_message sX4_message_j35
  refine zT_bxe e1 ?_
  have e2 := e_checkRange (g := g) (x := a2) (a := 1) (b := 99) h2 (by decide) (by decide)
  rw [if_pos c2] at e2
  refine zT_bxe e2 ?_
  have e3 := e_checkRange (g := g) (x := a3) (a := 0) (b := 2) h3 (by decide) (by decide)
  rw [if_pos c3] at e3
  refine zT_bxe e3 ?_
  simp only [Int.toNat_natCast]
  refine zT_eq (by omega) (fun c => ?_) (fun c => ?_)
  · have e4 := e_checkRange (g := g) (x := a4) (a := 0) (b := 0) h4 (by decide) (by decide)
    rw [if_pos c] at c4
    rw [if_pos c4] at e4
    exact zT_bxe e4 hc
  · have e4 := e_checkRange (g := g) (x := a4) (a := 0) (b := 1439) h4 (by decide) (by decide)
    rw [if_neg c] at c4
    rw [if_pos c4] at e4
    exact zT_bxe e4 hc
theorem t_message (hI : INV g F R) (hk : k < F) (hok : uMok a2 a3 a4) : zT (sX4_message (k : Int) a2 a3 a4 g) (fun o g' => (o = (0, 0) ∧ ¬ (g 4 k 2 = 0 ∧ g 4 k 7 < a2) ∧ g' = g) ∨ (o = (0, 1) ∧ g 4 k 2 = 0 ∧ g 4 k 7 < a2 ∧ INV g' F R ∧ D3 g g' ∧ g' 4 k 7 = a2 ∧ (a3 = 0 → g' 4 k 1 = a4 ∧ g' 4 k 4 = (if g 4 k 4 < a4 then -1 else g 4 k 4)) ∧ (a3 = 1 → g' 4 k 2 = 2) ∧ (a3 = 2 → g' 4 k 2 = 1 ∧ g' 4 k 6 = a4 ∧ g' 4 k 4 = g 4 k 4))) := by
  obtain ⟨hf0, hb0⟩ := hI.1.2.2 k hk
  have hs0 := hI.2.2 k hk
  have hf2 := hf0
  unfold flok at hf2
  obtain ⟨q1, q2, q3⟩ := id hok
  have q4 : 0 ≤ a4 ∧ a4 ≤ 1439 := by
    split at q3 <;> omega
  refine e_message_pre hI.1 hk (by constructor <;> omega) (by constructor <;> omega) (by constructor <;> omega) hok ?_
  by_cases c3 : g 4 k 2 = 0 ∧ g 4 k 7 < a2
  · refine zT_eqT (by omega) (zT_leF (by omega) (zT_st ?_))
    unfold sX1_follow
    have hres : ∀ g', INV g' F R → D3 g g' → g' 4 k 7 = a2 → (a3 = 0 → g' 4 k 1 = a4 ∧ g' 4 k 4 = (if g 4 k 4 < a4 then -1 else g 4 k 4)) → (a3 = 1 → g' 4 k 2 = 2) → (a3 = 2 → g' 4 k 2 = 1 ∧ g' 4 k 6 = a4 ∧ g' 4 k 4 = g 4 k 4) → zT (zbo 1 (some (((0, 1) : Nat × Int), g'))) (fun o g' => (o = (0, 0) ∧ ¬ (g 4 k 2 = 0 ∧ g 4 k 7 < a2) ∧ g' = g) ∨ (o = (0, 1) ∧ g 4 k 2 = 0 ∧ g 4 k 7 < a2 ∧ INV g' F R ∧ D3 g g' ∧ g' 4 k 7 = a2 ∧ (a3 = 0 → g' 4 k 1 = a4 ∧ g' 4 k 4 = (if g 4 k 4 < a4 then -1 else g 4 k 4)) ∧ (a3 = 1 → g' 4 k 2 = 2) ∧ (a3 = 2 → g' 4 k 2 = 1 ∧ g' 4 k 6 = a4 ∧ g' 4 k 4 = g 4 k 4))) :=
      fun g' b1 b2 b3 b4 b5 b6 => zT_bo (by omega) (zT_some (Or.inr ⟨rfl, c3.1, c3.2, b1, b2, b3, b4, b5, b6⟩))
    by_cases k0 : a3 = 0
    · by_cases cl : g 4 k 4 < a4
      · refine zT_bde (r := 0) (g := zup (zup (zup (zup g 4 k 7 a2) 4 k 1 a4) 4 k 4 (-1)) 4 k 5 (-1)) (zT_eqn ?_) (hres _ ?_ (fun q => by rw [zup_rd, if_neg (by omega), zup_rd, if_neg (by omega), zup_rd, if_neg (by omega), zup_rd, if_neg (by omega)]) (by simp [zup_rd]) (fun _ => ⟨by simp [zup_rd], by rw [if_pos cl]; simp [zup_rd]⟩) (fun z => by omega) (fun z => by omega))
        · refine zT_eqT (by omega) (zT_st (zT_ltT ?_ (zT_bde e_loseSlotTime (zT_some ⟨rfl, rfl⟩))))
          simp [zup_rd]
          omega
        · refine hI.fl (k := k) (fun a j p q => by rw [zup_rd, if_neg (by omega), zup_rd, if_neg (by omega), zup_rd, if_neg (by omega), zup_rd, if_neg (by omega)]) (by unfold flok; simp [zup_rd]; omega) (fun s z1 z2 => by simp [zup_rd]; exact hb0 s z1 z2) ?_
          unfold sok
          simp [zup_rd]
      · refine zT_bde (r := 0) (g := zup (zup g 4 k 7 a2) 4 k 1 a4) (zT_eqn ?_) (hres _ ?_ (fun q => by rw [zup_rd, if_neg (by omega), zup_rd, if_neg (by omega)]) (by simp [zup_rd]) (fun _ => ⟨by simp [zup_rd], by rw [if_neg cl]; simp [zup_rd]⟩) (fun z => by omega) (fun z => by omega))
        · refine zT_eqT (by omega) (zT_st (zT_ltF ?_ (zT_some ⟨rfl, rfl⟩)))
          simp [zup_rd]
          omega
        · refine hI.fl (k := k) (fun a j p q => by rw [zup_rd, if_neg (by omega), zup_rd, if_neg (by omega)]) (by unfold flok; simp [zup_rd]; omega) (fun s z1 z2 => by simp [zup_rd]; exact hb0 s z1 z2) ?_
          unfold sok uB at hs0 ⊢
          simp [zup_rd]
          refine ⟨?_, hs0.2⟩
          rcases hs0.1 with z | z
          · exact Or.inl z
          · exact Or.inr ⟨by omega, z.2.1, z.2.2.1, z.2.2.2.1, z.2.2.2.2⟩
    · by_cases k1 : a3 = 1
      · refine zT_bde (r := 0) (g := zup (zup g 4 k 7 a2) 4 k 2 2) (zT_eqn ?_) (hres _ ?_ (fun q => by rw [zup_rd, if_neg (by omega), zup_rd, if_neg (by omega)]) (by simp [zup_rd]) (fun z => by omega) (fun _ => by simp [zup_rd]) (fun z => by omega))
        · exact zT_eqF (by omega) (zT_eqT (by omega) (zT_st (zT_some ⟨rfl, rfl⟩)))
        · refine hI.fl (k := k) (fun a j p q => by rw [zup_rd, if_neg (by omega), zup_rd, if_neg (by omega)]) (by unfold flok; simp [zup_rd]; omega) (fun s z1 z2 => by simp [zup_rd]; exact hb0 s z1 z2) ?_
          unfold sok uB at hs0 ⊢
          simp [zup_rd]
          exact hs0.1
      · refine zT_bde (r := 0) (g := zup (zup (zup g 4 k 7 a2) 4 k 2 1) 4 k 6 a4) (zT_eqn ?_) (hres _ ?_ (fun q => by rw [zup_rd, if_neg (by omega), zup_rd, if_neg (by omega), zup_rd, if_neg (by omega)]) (by simp [zup_rd]) (fun z => by omega) (fun z => by omega) (fun _ => ⟨by simp [zup_rd], by simp [zup_rd], by simp [zup_rd]⟩))
        · exact zT_eqF (by omega) (zT_eqF (by omega) (zT_st (zT_st (zT_some ⟨rfl, rfl⟩))))
        · refine hI.fl (k := k) (fun a j p q => by rw [zup_rd, if_neg (by omega), zup_rd, if_neg (by omega), zup_rd, if_neg (by omega)]) (by unfold flok; simp [zup_rd]; omega) (fun s z1 z2 => by simp [zup_rd]; exact hb0 s z1 z2) ?_
          unfold sok uB at hs0 ⊢
          simp [zup_rd]
          exact hs0.1
  · by_cases c4 : g 4 k 2 = 0
    · exact zT_eqT (by omega) (zT_leT (by omega) (zT_bo (by omega) (zT_some (Or.inl ⟨rfl, c3, rfl⟩))))
    · exact zT_eqF (by omega) (zT_bo (by omega) (zT_some (Or.inl ⟨rfl, c3, rfl⟩)))
end ME
section SW
variable {g : zG} {F R i j : Nat}
def uSh (g : zG) (i j : Nat) : Prop := g 4 i 2 = 0 ∧ g 4 j 2 = 0 ∧ g 4 i 0 = g 4 j 0 ∧ g 4 i 4 ≠ -1 ∧ g 4 j 4 ≠ -1 ∧ g 4 i 5 = g 4 j 5
theorem e_shares (hi : flok g i) (hj : flok g j) : zT (sX1_sharesRuling i j g) (fun r g' => g' = g ∧ ((r = 1 ∧ uSh g i j) ∨ (r = 0 ∧ ¬ uSh g i j))) := by
  unfold flok at hi hj
  unfold sX1_sharesRuling uSh
  repeat' first
    | (with_reducible refine zT_ltT ?_ ?_; · omega)
    | (with_reducible refine zT_ltF ?_ ?_; · omega)
    | (with_reducible refine zT_lt ?_ (fun _ => ?_) (fun _ => ?_); · omega)
    | (with_reducible refine zT_leT ?_ ?_; · omega)
    | (with_reducible refine zT_leF ?_ ?_; · omega)
    | (with_reducible refine zT_le ?_ (fun _ => ?_) (fun _ => ?_); · omega)
    | (with_reducible refine zT_eqT ?_ ?_; · omega)
    | (with_reducible refine zT_eqF ?_ ?_; · omega)
    | (with_reducible refine zT_eq ?_ (fun _ => ?_) (fun _ => ?_); · omega)
    | (with_reducible refine zT_ix ?_ ?_; · omega)
    | (with_reducible refine zT_li ?_ ?_; · omega)
    | (with_reducible refine zT_bo ?_ ?_; · omega)
    | (with_reducible refine zT_ri ?_ ?_; · omega)
    | (with_reducible refine zT_dv ?_ ?_; · omega)
    | (with_reducible refine zT_let ?_)
  · exact zT_some ⟨rfl, Or.inr ⟨rfl, by omega⟩⟩
  · exact zT_some ⟨rfl, Or.inr ⟨rfl, by omega⟩⟩
  · exact zT_some ⟨rfl, Or.inl ⟨rfl, by omega⟩⟩
  · exact zT_some ⟨rfl, Or.inr ⟨rfl, by omega⟩⟩
  · exact zT_some ⟨rfl, Or.inr ⟨rfl, by omega⟩⟩
  · exact zT_some ⟨rfl, Or.inr ⟨rfl, by omega⟩⟩
  · exact zT_some ⟨rfl, Or.inr ⟨rfl, by omega⟩⟩
/-- the slot times by which the times over the ruling's sector are the other's -/
def uS1 (g : zG) (i j : Nat) : Int := g 4 j 4 + uB g j (g 5 (g 4 i 5).toNat 0) - uB g i (g 5 (g 4 i 5).toNat 0)
def uSw (g : zG) (i j : Nat) : Prop := i ≠ j ∧ uSh g i j ∧ g 4 i 1 ≤ uS1 g i j ∧ g 4 j 1 ≤ g 4 i 4 + uB g i (g 5 (g 4 i 5).toNat 0) - uB g j (g 5 (g 4 i 5).toNat 0)
def uS2 (g : zG) (i j : Nat) : Int := g 4 i 4 + uB g i (g 5 (g 4 i 5).toNat 0) - uB g j (g 5 (g 4 i 5).toNat 0)
theorem t_swaps (hI : INV g F R) (hi : i < F) (hj : j < F) : zT (sL_swaps (i : Int) (j : Int) g) (fun z g' => (z = 0 ∧ ¬ uSw g i j ∧ g' = g) ∨ (z = 1 ∧ uSw g i j ∧ INV g' F R ∧ g' = zup (zup g 4 i 4 (uS1 g i j)) 4 j 4 (uS2 g i j))) := by
  have h24 := hI.1.2.1
  have hR6 := hI.2.1.2.1
  obtain ⟨hfi, hbi⟩ := hI.1.2.2 i hi
  obtain ⟨hfj, hbj⟩ := hI.1.2.2 j hj
  have hsi := hI.2.2 i hi
  have hsj := hI.2.2 j hj
  have hi2 := hfi
  have hj2 := hfj
  unfold flok at hi2 hj2
  have e1 := e_flightAt (x := (i : Int)) hI.1 (by constructor <;> omega)
  rw [if_pos (by omega)] at e1
  have e2 := e_flightAt (x := (j : Int)) hI.1 (by constructor <;> omega)
  rw [if_pos (by omega)] at e2
  unfold sL_swaps
  by_cases cij : i = j
  · have e : sX4_swap (i : Int) (j : Int) g = some ((1 + 1, 0), g) := by
      refine zT_eqn ?_
      unfold sX4_swap
      exact zT_bxe e1 (zT_bxe e2 (zT_eqT (by omega) (zT_some ⟨rfl, rfl⟩)))
    exact zT_bk2 e (by decide) (zT_bo (by omega) (zT_some (Or.inl ⟨rfl, fun z => z.1 cij, rfl⟩)))
  · by_cases c4 : uSh g i j
    · obtain ⟨k1, k2, k3, k4, k5, k6⟩ := id c4
      have hru : 0 ≤ g 4 i 5 ∧ g 4 i 5 < (R : Int) := by
        rcases hsi.1 with z | z
        · omega
        · exact ⟨z.2.1, z.2.2.1⟩
      have hrr : (g 4 i 5).toNat < R := by omega
      have hrg := hI.2.1.2.2 _ hrr
      have hrg2 := hrg
      unfold rgok at hrg2
      have hs : 0 ≤ g 5 (g 4 i 5).toNat 0 ∧ g 5 (g 4 i 5).toNat 0 < 6 := hrg2.1
      have hBi := uB_bd hbi hs
      have hBj := uB_bd hbj hs
      have hoki : uB g i (g 5 (g 4 i 5).toNat 0) ≠ -1 ∧ g 4 i 4 + uB g i (g 5 (g 4 i 5).toNat 0) ≤ 1440 ∧ g 4 i 1 ≤ g 4 i 4 := by
        rcases hsi.1 with z | z
        · omega
        · exact ⟨z.2.2.2.1, z.2.2.2.2, z.1⟩
      have hokj : uB g j (g 5 (g 4 i 5).toNat 0) ≠ -1 ∧ g 4 j 4 + uB g j (g 5 (g 4 i 5).toNat 0) ≤ 1440 ∧ g 4 j 1 ≤ g 4 j 4 := by
        rcases hsj.1 with z | z
        · omega
        · rw [← k6] at z
          exact ⟨z.2.2.2.1, z.2.2.2.2, z.1⟩
      have tvi : uTov g i (g 5 (g 4 i 5).toNat 0) = g 4 i 4 + uB g i (g 5 (g 4 i 5).toNat 0) := by
        unfold uTov uDep
        rw [if_neg hoki.1, if_neg (by omega), if_neg k4]
      have tvj : uTov g j (g 5 (g 4 i 5).toNat 0) = g 4 j 4 + uB g j (g 5 (g 4 i 5).toNat 0) := by
        unfold uTov uDep
        rw [if_neg hokj.1, if_neg (by omega), if_neg k5]
      have hcl : ∀ P : Nat × Int → zG → Prop, zT (zlt (uS1 g i j) (g 4 i 1) (sX4_swap_j111 g) (zlt (uS2 g i j) (g 4 j 1) (sX4_swap_j111 g) (zst g 4 i 4 (uS1 g i j) (fun g' => zst g' 4 j 4 (uS2 g i j) (fun g => some ((0, 0), g)))))) P → zT (sX4_swap (i : Int) (j : Int) g) P := by
        intro P hP
        unfold sX4_swap
        refine zT_bxe e1 (zT_bxe e2 (zT_eqF (by omega) ?_))
        simp only [Int.toNat_natCast]
        refine zT_bdm (e_shares hfi hfj) ?_
        rintro r g' ⟨rfl, ⟨rfl, -⟩ | ⟨rfl, hn⟩⟩
        · refine zT_eqF (by omega) ?_
          have e3 := e_regulationAt (g := g') (x := g' 4 i 5) hI.2.1.1 hR6 (by constructor <;> omega)
          rw [if_pos hru] at e3
          refine zT_bxe e3 (zT_let ?_)
          refine zT_bde (e_timeOver hfj hbj hs) (zT_bde (e_behindAt hs) (zT_let ?_))
          refine zT_bde (e_timeOver hfi hbi hs) (zT_bde (e_behindAt hs) (zT_let ?_))
          rw [tvi, tvj]
          exact hP
        · exact absurd c4 hn
      have d1 : uS1 g i j = g 4 j 4 + uB g j (g 5 (g 4 i 5).toNat 0) - uB g i (g 5 (g 4 i 5).toNat 0) := rfl
      have d2 : uS2 g i j = g 4 i 4 + uB g i (g 5 (g 4 i 5).toNat 0) - uB g j (g 5 (g 4 i 5).toNat 0) := rfl
      by_cases c5 : g 4 i 1 ≤ uS1 g i j ∧ g 4 j 1 ≤ uS2 g i j
      · have e : sX4_swap (i : Int) (j : Int) g = some ((0, 0), zup (zup g 4 i 4 (uS1 g i j)) 4 j 4 (uS2 g i j)) := by
          refine zT_eqn (hcl _ (zT_ltF (by omega) (zT_ltF (by omega) (zT_st (zT_st (zT_some ⟨rfl, rfl⟩))))))
        refine zT_bke e (zT_bo (by omega) (zT_some (Or.inr ⟨rfl, ⟨cij, c4, c5.1, c5.2⟩, ?_, rfl⟩)))
        have hI1 : INV (zup g 4 i 4 (uS1 g i j)) F R := by
          refine hI.fl (k := i) (fun a b p q => by rw [zup_rd, if_neg (by omega)]) (by unfold flok; simp [zup_rd]; omega) (fun s z1 z2 => by simp [zup_rd]; exact hbi s z1 z2) ?_
          unfold sok uB at hsi ⊢
          simp [zup_rd]
          refine ⟨Or.inr ⟨c5.1, hru.1, hru.2, hoki.1, ?_⟩, fun z1 z2 => ?_⟩
          · have : uS1 g i j + uB g i (g 5 (g 4 i 5).toNat 0) ≤ 1440 := by omega
            exact this
          · exact absurd (hsi.2 z1 z2) k4
        refine hI1.fl (k := j) (fun a b p q => by rw [zup_rd, if_neg (by omega)]) (by unfold flok; simp [zup_rd]; omega) (fun s z1 z2 => by simp [zup_rd]; exact hbj s z1 z2) ?_
        have hcj : ¬ (j = i) := fun z => cij z.symm
        unfold sok uB at hsj ⊢
        simp [zup_rd]
        refine ⟨Or.inr ⟨c5.2, by omega, by omega, ?_, ?_⟩, fun z1 z2 => ?_⟩
        · have := hokj.1
          rw [k6] at this
          exact this
        · have h9 : uS2 g i j + uB g j (g 5 (g 4 i 5).toNat 0) ≤ 1440 := by omega
          rw [show (g 4 i 5).toNat = (g 4 j 5).toNat from by rw [k6]] at h9
          exact h9
        · exact absurd (hsj.2 z1 z2) k5
      · have e : sX4_swap (i : Int) (j : Int) g = some ((2 + 1, 0), g) := by
          refine zT_eqn (hcl _ ?_)
          unfold sX4_swap_j111
          refine zT_lt (by omega) (fun _ => zT_some ⟨rfl, rfl⟩) (fun z => ?_)
          exact zT_ltT (by omega) (zT_some ⟨rfl, rfl⟩)
        exact zT_bk1 e (zT_bo (by omega) (zT_some (Or.inl ⟨rfl, fun z => c5 ⟨z.2.2.1, z.2.2.2⟩, rfl⟩)))
    · have e : sX4_swap (i : Int) (j : Int) g = some ((2 + 1, 0), g) := by
        refine zT_eqn ?_
        unfold sX4_swap
        refine zT_bxe e1 (zT_bxe e2 (zT_eqF (by omega) ?_))
        simp only [Int.toNat_natCast]
        refine zT_bdm (e_shares hfi hfj) ?_
        rintro r g' ⟨rfl, ⟨rfl, z⟩ | ⟨rfl, -⟩⟩
        · exact absurd z c4
        · exact zT_eqT (by omega) (zT_some ⟨rfl, rfl⟩)
      exact zT_bk1 e (zT_bo (by omega) (zT_some (Or.inl ⟨rfl, fun z => c4 z.2.1, rfl⟩)))
end SW

/-! swaps -/
section SW
variable {g h : zG} {a1 a2 a3 a4 : Int} {F R i j : Nat}
def uSh (g : zG) (i j : Nat) : Prop := g 4 i 2 = 0 ∧ g 4 j 2 = 0 ∧ g 4 i 0 = g 4 j 0 ∧ g 4 i 4 ≠ -1 ∧ g 4 j 4 ≠ -1 ∧ g 4 i 5 = g 4 j 5
theorem e_shares (hi : flok g i) (hj : flok g j) : zT (sX1_sharesRuling i j g) (fun r g' => g' = g ∧ ((r = 1 ∧ uSh g i j) ∨ (r = 0 ∧ ¬ uSh g i j))) := by
  unfold flok at hi hj
  unfold sX1_sharesRuling uSh
  repeat' first
    | (with_reducible refine zT_ltT ?_ ?_; · omega)
    | (with_reducible refine zT_ltF ?_ ?_; · omega)
    | (with_reducible refine zT_lt ?_ (fun _ => ?_) (fun _ => ?_); · omega)
    | (with_reducible refine zT_leT ?_ ?_; · omega)
    | (with_reducible refine zT_leF ?_ ?_; · omega)
    | (with_reducible refine zT_le ?_ (fun _ => ?_) (fun _ => ?_); · omega)
    | (with_reducible refine zT_eqT ?_ ?_; · omega)
    | (with_reducible refine zT_eqF ?_ ?_; · omega)
    | (with_reducible refine zT_eq ?_ (fun _ => ?_) (fun _ => ?_); · omega)
    | (with_reducible refine zT_ix ?_ ?_; · omega)
    | (with_reducible refine zT_li ?_ ?_; · omega)
    | (with_reducible refine zT_bo ?_ ?_; · omega)
    | (with_reducible refine zT_ri ?_ ?_; · omega)
    | (with_reducible refine zT_dv ?_ ?_; · omega)
    | (with_reducible refine zT_let ?_)
  · exact zT_some ⟨rfl, Or.inr ⟨rfl, by omega⟩⟩
  · exact zT_some ⟨rfl, Or.inr ⟨rfl, by omega⟩⟩
  · exact zT_some ⟨rfl, Or.inl ⟨rfl, by omega⟩⟩
  · exact zT_some ⟨rfl, Or.inr ⟨rfl, by omega⟩⟩
  · exact zT_some ⟨rfl, Or.inr ⟨rfl, by omega⟩⟩
  · exact zT_some ⟨rfl, Or.inr ⟨rfl, by omega⟩⟩
  · exact zT_some ⟨rfl, Or.inr ⟨rfl, by omega⟩⟩
/-- not to be swapped: what the reference says -/
theorem g_swap_no {x y x3 s u w : Int} {c : Int} (hx : zIn x) (hy : zIn y) (h3 : x3 = 0 ∨ x3 = 1) (hc : c = (if x3 = 0 then 1 else if x = y then 2 else 3)) : zT (sX5_swap_j212 x y x3 u w 0 h) (fun _ h' => h' = zup h 6 0 0 c) := by
  unfold sX5_swap_j212 sX5_swap_j242
  refine zT_eq (by omega) (fun d => ?_) (fun d => ?_)
  · rw [if_pos d] at hc
    subst hc
    exact zT_holds (by decide) (zT_eqT (by decide) (zT_some rfl))
  · rw [if_neg d] at hc
    refine zT_eq (by omega) (fun d2 => ?_) (fun d2 => ?_)
    · rw [if_pos d2] at hc
      subst hc
      exact zT_holds (by decide) (zT_eqT (by decide) (zT_some rfl))
    · rw [if_neg d2] at hc
      subst hc
      exact zT_eqT (by omega) (zT_holds (by decide) (zT_eqT (by decide) (zT_some rfl)))
theorem g_swap_no2 {x y x3 : Int} {c : Int} (hx : zIn x) (hy : zIn y) (h3 : x3 = 0 ∨ x3 = 1) (hc : c = (if x3 = 0 then 1 else if x = y then 2 else 3)) : zT (sX5_swap_j93 x y x3 h) (fun _ h' => h' = zup h 6 0 0 c) := by
  unfold sX5_swap_j93 sX5_swap_j94 sX5_swap_j116 sX5_swap_j147 sX5_swap_j178 sX5_swap_j211
  exact zT_eqT (by omega) (zT_eqT (by omega) (zT_eqT (by omega) (zT_eqT (by omega) (g_swap_no (s := 0) hx hy h3 hc))))
theorem case20 (hr : REL g) (h1 : zIn a1) (h2 : zIn a2) : ∃ g', sLc20 4000 a1 a2 a3 a4 g = some g' ∧ REL g' := by
  obtain ⟨F, R, hI, hRf⟩ := hr
  have h24 := hI.1.2.1
  have hR6 := hI.2.1.2.1
  unfold sLc20 sL_swap
  have e1 := e_flightAt hI.1 h1
  by_cases c1 : 0 ≤ a1 ∧ a1 < (F : Int)
  · rw [if_pos c1] at e1
    have e2 := e_flightAt hI.1 h2
    by_cases c2 : 0 ≤ a2 ∧ a2 < (F : Int)
    · rw [if_pos c2] at e2
      by_cases c3 : a1 = a2
      · refine u_badv (c := 1) hI hRf (zT_eqn ?_) (Or.inr (Or.inl rfl)) (fun g1 h hf => ?_)
        · unfold sX4_swap
          exact zT_bxe e1 (zT_bxe e2 (zT_eqT ⟨c3, h1, h2⟩ (zT_some ⟨rfl, rfl⟩)))
        · unfold sX5_swap sX5_swap_j21
          refine zT_bde (f_isFlight hf.1.1 h24 h1) ?_
          rw [if_pos c1]
          refine zT_eqF (by omega) (zT_bde (f_isFlight hf.1.1 h24 h2) ?_)
          rw [if_pos c2]
          exact zT_eqF (by omega) (zT_eqF (by omega) (zT_eqT ⟨c3, h1, h2⟩ (g_swap_no2 h1 h2 (Or.inr rfl) (by rw [if_neg (by decide), if_pos c3]; rfl))))
      · obtain ⟨i, rfl⟩ : ∃ i : Nat, a1 = (i : Int) := ⟨a1.toNat, by omega⟩
        obtain ⟨j, rfl⟩ : ∃ j : Nat, a2 = (j : Int) := ⟨a2.toNat, by omega⟩
        have hiF : i < F := by omega
        have hjF : j < F := by omega
        have hij : i ≠ j := fun z => c3 (by rw [z])
        obtain ⟨hfi, hbi⟩ := hI.1.2.2 i hiF
        obtain ⟨hfj, hbj⟩ := hI.1.2.2 j hjF
        have hsi := hI.2.2 i hiF
        have hsj := hI.2.2 j hjF
        have hi2 := hfi
        have hj2 := hfj
        unfold flok at hi2 hj2
        -- the reference up to its choice
        have hpre : ∀ (g1 : zG) (P : Int → zG → Prop), REF g1 g F R → (uSh g i j → zT (sX5_swap_j94 (i : Int) (j : Int) 1 1 g1) P) → (¬ uSh g i j → zT (sX5_swap_j93 (i : Int) (j : Int) 1 g1) P) → zT (sX5_swap (i : Int) (j : Int) g1) P := by
          intro g1 P hf hy hn
          obtain ⟨⟨b0, b1, b2, b3, b4, b5, b6, b7, b8, b9⟩, -⟩ := hf.1.2 i hiF
          obtain ⟨⟨d0, d1, d2, d3, d4, d5, d6, d7, d8, d9⟩, -⟩ := hf.1.2 j hjF
          have hsi2 : g 4 i 5 = -1 ↔ g 4 i 4 = -1 := by
            rcases hsi.1 with z | z <;> omega
          have hsj2 : g 4 j 5 = -1 ↔ g 4 j 4 = -1 := by
            rcases hsj.1 with z | z <;> omega
          unfold uSh at hy hn
          unfold sX5_swap sX5_swap_j21
          refine zT_bde (f_isFlight hf.1.1 h24 h1) ?_
          rw [if_pos c1]
          refine zT_eqF (by omega) (zT_bde (f_isFlight hf.1.1 h24 h2) ?_)
          rw [if_pos c2]
          refine zT_eqF (by omega) (zT_eqF (by omega) (zT_eqF ⟨c3, h1, h2⟩ ?_))
          simp only [Int.toNat_natCast]
          repeat' first
            | (with_reducible exact hy (by omega))
            | (with_reducible exact hn (by omega))
            | (with_reducible refine zT_ltT ?_ ?_; · omega)
            | (with_reducible refine zT_ltF ?_ ?_; · omega)
            | (with_reducible refine zT_lt ?_ (fun _ => ?_) (fun _ => ?_); · omega)
            | (with_reducible refine zT_leT ?_ ?_; · omega)
            | (with_reducible refine zT_leF ?_ ?_; · omega)
            | (with_reducible refine zT_le ?_ (fun _ => ?_) (fun _ => ?_); · omega)
            | (with_reducible refine zT_eqT ?_ ?_; · omega)
            | (with_reducible refine zT_eqF ?_ ?_; · omega)
            | (with_reducible refine zT_eq ?_ (fun _ => ?_) (fun _ => ?_); · omega)
            | (with_reducible refine zT_ix ?_ ?_; · omega)
            | (with_reducible refine zT_li ?_ ?_; · omega)
            | (with_reducible refine zT_bo ?_ ?_; · omega)
            | (with_reducible refine zT_ri ?_ ?_; · omega)
            | (with_reducible refine zT_dv ?_ ?_; · omega)
            | (with_reducible refine zT_let ?_)
        by_cases c4 : uSh g i j
        · obtain ⟨k1, k2, k3, k4, k5, k6⟩ := id c4
          have hru : 0 ≤ g 4 i 5 ∧ g 4 i 5 < (R : Int) := by
            rcases hsi.1 with z | z
            · omega
            · exact ⟨z.2.1, z.2.2.1⟩
          have hrr : (g 4 i 5).toNat < R := by omega
          have hrg := hI.2.1.2.2 _ hrr
          have hrg2 := hrg
          unfold rgok at hrg2
          have hs : 0 ≤ g 5 (g 4 i 5).toNat 0 ∧ g 5 (g 4 i 5).toNat 0 < 6 := hrg2.1
          have hBi := uB_bd hbi hs
          have hBj := uB_bd hbj hs
          have hoki : uB g i (g 5 (g 4 i 5).toNat 0) ≠ -1 ∧ g 4 i 4 + uB g i (g 5 (g 4 i 5).toNat 0) ≤ 1440 ∧ g 4 i 1 ≤ g 4 i 4 := by
            rcases hsi.1 with z | z
            · omega
            · exact ⟨z.2.2.2.1, z.2.2.2.2, z.1⟩
          have hokj : uB g j (g 5 (g 4 i 5).toNat 0) ≠ -1 ∧ g 4 j 4 + uB g j (g 5 (g 4 i 5).toNat 0) ≤ 1440 ∧ g 4 j 1 ≤ g 4 j 4 := by
            rcases hsj.1 with z | z
            · omega
            · rw [← k6] at z
              exact ⟨z.2.2.2.1, z.2.2.2.2, z.1⟩
          have tvi : uTov g i (g 5 (g 4 i 5).toNat 0) = g 4 i 4 + uB g i (g 5 (g 4 i 5).toNat 0) := by
            unfold uTov uDep
            rw [if_neg hoki.1, if_neg (by omega), if_neg k4]
          have tvj : uTov g j (g 5 (g 4 i 5).toNat 0) = g 4 j 4 + uB g j (g 5 (g 4 i 5).toNat 0) := by
            unfold uTov uDep
            rw [if_neg hokj.1, if_neg (by omega), if_neg k5]
          have dpi : uDep g i = g 4 i 4 := by
            unfold uDep
            rw [if_neg (by omega), if_neg k4]
          have dpj : uDep g j = g 4 j 4 := by
            unfold uDep
            rw [if_neg (by omega), if_neg k5]
          -- both sides, to the choice by planned times
          have hcl : ∀ P : Nat × Int → zG → Prop, zT (zlt (g 4 j 4 + uB g j (g 5 (g 4 i 5).toNat 0) - uB g i (g 5 (g 4 i 5).toNat 0)) (g 4 i 1) (sX4_swap_j111 g) (zlt (g 4 i 4 + uB g i (g 5 (g 4 i 5).toNat 0) - uB g j (g 5 (g 4 i 5).toNat 0)) (g 4 j 1) (sX4_swap_j111 g) (zst g 4 i 4 (g 4 j 4 + uB g j (g 5 (g 4 i 5).toNat 0) - uB g i (g 5 (g 4 i 5).toNat 0)) (fun g' => zst g' 4 j 4 (g 4 i 4 + uB g i (g 5 (g 4 i 5).toNat 0) - uB g j (g 5 (g 4 i 5).toNat 0)) (fun g => some ((0, 0), g)))))) P → zT (sX4_swap (i : Int) (j : Int) g) P := by
            intro P hP
            unfold sX4_swap
            refine zT_bxe e1 (zT_bxe e2 (zT_eqF ⟨c3, h1, h2⟩ ?_))
            simp only [Int.toNat_natCast]
            refine zT_bdm (e_shares hfi hfj) ?_
            rintro r g' ⟨rfl, ⟨rfl, -⟩ | ⟨rfl, hn⟩⟩
            · refine zT_eqF (by omega) ?_
              have e3 := e_regulationAt (g := g') (x := g' 4 i 5) hI.2.1.1 hR6 (by constructor <;> omega)
              rw [if_pos hru] at e3
              refine zT_bxe e3 (zT_let ?_)
              refine zT_bde (e_timeOver hfj hbj hs) (zT_bde (e_behindAt hs) (zT_let ?_))
              refine zT_bde (e_timeOver hfi hbi hs) (zT_bde (e_behindAt hs) (zT_let ?_))
              rw [tvi, tvj]
              exact hP
            · exact absurd c4 hn
          have hre : ∀ (g1 : zG) (P : Int → zG → Prop), REF g1 g F R → zT (sX5_swap_j178 (i : Int) (j : Int) 1 1 (g 4 j 4 + uB g j (g 5 (g 4 i 5).toNat 0) - uB g i (g 5 (g 4 i 5).toNat 0)) (g 4 i 4 + uB g i (g 5 (g 4 i 5).toNat 0) - uB g j (g 5 (g 4 i 5).toNat 0)) g1) P → zT (sX5_swap (i : Int) (j : Int) g1) P := by
            intro g1 P hf hP
            refine hpre g1 P hf (fun _ => ?_) (fun z => absurd c4 z)
            obtain ⟨⟨b0, b1, b2, b3, b4, b5, b6, b7, b8, b9⟩, bb⟩ := hf.1.2 i hiF
            obtain ⟨-, dd⟩ := hf.1.2 j hjF
            have gi : g1 30 0 (6 * (i : Int) + g 5 (g 4 i 5).toNat 0).toNat = uB g i (g 5 (g 4 i 5).toNat 0) := (bb _ hs.1 hs.2).1
            have gj : g1 30 0 (6 * (j : Int) + g 5 (g 4 i 5).toNat 0).toNat = uB g j (g 5 (g 4 i 5).toNat 0) := (dd _ hs.1 hs.2).1
            have g32 := (hf.2.1.2 _ hrr).1
            unfold sX5_swap_j94
            simp only [Int.toNat_natCast]
            refine zT_eqF (by omega) (zT_ix (by omega) (zT_ix (by omega) ?_))
            rw [b5, g32]
            unfold sX5_swap_j116
            refine zT_eqF (by omega) (zT_bde (f_overOf hjF h24 hf.1 hfj hs) (zT_ix (by omega) ?_))
            rw [gi]
            unfold sX5_swap_j147
            refine zT_eqF (by omega) (zT_bde (f_overOf hiF h24 hf.1 hfi hs) (zT_ix (by omega) ?_))
            rw [gj, dpi, dpj]
            exact hP
          generalize hs1 : g 4 j 4 + uB g j (g 5 (g 4 i 5).toNat 0) - uB g i (g 5 (g 4 i 5).toNat 0) = s1 at hcl hre
          generalize hs2 : g 4 i 4 + uB g i (g 5 (g 4 i 5).toNat 0) - uB g j (g 5 (g 4 i 5).toNat 0) = s2 at hcl hre
          by_cases c5 : g 4 i 1 ≤ s1 ∧ g 4 j 1 ≤ s2
          · refine z_cmpv (O := (0, 0)) (P1 := fun g1 => KS R (zup (zup g 4 i 4 s1) 4 j 4 s2) g1) ?_ (Or.inl rfl) (fun g1 h => ?_)
            · refine hcl _ (zT_ltF (by omega) (zT_ltF (by omega) (zT_st (zT_st (zT_some ⟨rfl, KS.rf⟩)))))
            · have hf : REF g1 g F R := (hRf.rows (g' := zup (zup g 4 i 4 s1) 4 j 4 s2) (fun a b c q => by rw [zup_rd, if_neg (by omega), zup_rd, if_neg (by omega)])).l h
              have p1 := (hf.1.2 i hiF).1.2.1
              have p2 := (hf.1.2 j hjF).1.2.1
              refine hre g1 _ hf ?_
              unfold sX5_swap_j178 sX5_swap_j212 sX5_swap_j242
              simp only [Int.toNat_natCast]
              refine zT_eqF (by omega) (zT_ix (by omega) (zT_ltF (by omega) (zT_ix (by omega) (zT_ltF (by omega) (zT_eqF (by omega) (zT_eqF ⟨c3, h1, h2⟩ (zT_eqF (by omega) (zT_holds (by decide) ?_))))))))
              rw [if_pos rfl]
              refine zT_eqF (by omega) (zT_ix (by omega) (zT_st (zT_ix (by omega) (zT_st (zT_some ⟨?_, ?_⟩)))))
              · simp [zup_rd, uPos]
              · have hi0 := hRf.1.2 i hiF
                obtain ⟨x1, x2⟩ := REL.fl (g' := zup (zup g 4 i 4 s1) 24 0 i s1) hI hRf hiF (fun a b c q => by rw [zup_rd, if_neg (by omega), zup_rd, if_neg (by omega)]) (by unfold flok; simp [zup_rd]; omega) (fun s q1 q2 => by simp [zup_rd]; exact hbi s q1 q2) (by
                  unfold sok uB at hsi ⊢
                  unfold uB at hoki hs1
                  simp [zup_rd]
                  refine ⟨Or.inr ⟨by omega, by omega, by omega, hoki.1, ?_⟩, ?_⟩
                  · unfold uB at hokj
                    omega
                  · intro z1 z2
                    have := hsi.2 z1 z2
                    omega) (by
                  obtain ⟨d1, d2⟩ := hi0
                  unfold FRw
                  simp [zup_rd]
                  exact ⟨⟨d1.1, d1.2.1, d1.2.2.1, d1.2.2.2.1, d1.2.2.2.2.2.1, d1.2.2.2.2.2.2.1, d1.2.2.2.2.2.2.2.1, d1.2.2.2.2.2.2.2.2.1, d1.2.2.2.2.2.2.2.2.2⟩, d2⟩) (fun r _ => by
                  rw [uCh_wait (g := g) (by omega), uCh_wait (by simp [zup_rd]; omega)]
                  simp [zup_rd]) (fun c _ => by
                  rw [uCo_wait (g := g) (by omega) (Or.inl rfl), uCo_wait (g := g) (by omega) (Or.inr rfl), uCo_wait (by simp [zup_rd]; omega) (Or.inl rfl), uCo_wait (by simp [zup_rd]; omega) (Or.inr rfl)]
                  simp [zup_rd])
                have hj0 := x2.1.2 j hjF
                obtain ⟨y1, y2⟩ := REL.fl (g' := zup (zup (zup (zup g 4 i 4 s1) 24 0 i s1) 4 j 4 s2) 24 0 j s2) x1 x2 hjF (fun a b c q => by rw [zup_rd, if_neg (by omega), zup_rd, if_neg (by omega)]) (by unfold flok; simp [zup_rd]; omega) (fun s q1 q2 => by simp [zup_rd]; exact hbj s q1 q2) (by
                  unfold sok uB at hsj ⊢
                  unfold uB at hokj hs2
                  simp [zup_rd, hij, hij.symm]
                  rw [← k6]
                  refine ⟨Or.inr ⟨by omega, by omega, by omega, hokj.1, ?_⟩, ?_⟩
                  · unfold uB at hoki
                    omega
                  · intro z1 z2
                    have := hsj.2 z1 z2
                    omega) (by
                  obtain ⟨d1, d2⟩ := hRf.1.2 j hjF
                  unfold FRw
                  simp [zup_rd, hij, hij.symm]
                  exact ⟨⟨d1.1, d1.2.1, d1.2.2.1, d1.2.2.2.1, d1.2.2.2.2.2.1, d1.2.2.2.2.2.2.1, d1.2.2.2.2.2.2.2.1, d1.2.2.2.2.2.2.2.2.1, d1.2.2.2.2.2.2.2.2.2⟩, d2⟩) (fun r _ => by
                  rw [uCh_wait (g := zup (zup g 4 i 4 s1) 24 0 i s1) (by simp [zup_rd]; omega), uCh_wait (by simp [zup_rd]; omega)]
                  simp [zup_rd]) (fun c _ => by
                  rw [uCo_wait (g := zup (zup g 4 i 4 s1) 24 0 i s1) (by simp [zup_rd]; omega) (Or.inl rfl), uCo_wait (g := zup (zup g 4 i 4 s1) 24 0 i s1) (by simp [zup_rd]; omega) (Or.inr rfl), uCo_wait (by simp [zup_rd]; omega) (Or.inl rfl), uCo_wait (by simp [zup_rd]; omega) (Or.inr rfl)]
                  simp [zup_rd])
                rw [zup_comm (g := zup g 4 i 4 s1) (by omega)] at y1 y2
                exact REL.ks y1 y2 (KS.up (KS.up (h.sk (Or.inr ⟨rfl, rfl⟩))))
          · refine u_badv (c := 2) hI hRf (zT_eqn ?_) (Or.inr (Or.inr rfl)) (fun g1 h hf => ?_)
            · refine hcl _ ?_
              unfold sX4_swap_j111
              refine zT_lt (by omega) (fun c => zT_some ⟨rfl, rfl⟩) (fun c => ?_)
              exact zT_ltT (by omega) (zT_some ⟨rfl, rfl⟩)
            · have p1 := (hf.1.2 i hiF).1.2.1
              have p2 := (hf.1.2 j hjF).1.2.1
              refine hre g1 _ hf ?_
              unfold sX5_swap_j178 sX5_swap_j211
              simp only [Int.toNat_natCast]
              refine zT_eqF (by omega) (zT_ix (by omega) (zT_lt (by omega) (fun c => ?_) (fun c => ?_)))
              · exact g_swap_no (s := 0) h1 h2 (Or.inr rfl) (by rw [if_neg (by decide), if_neg c3]; rfl)
              · exact zT_ix (by omega) (zT_ltT (by omega) (g_swap_no (s := 0) h1 h2 (Or.inr rfl) (by rw [if_neg (by decide), if_neg c3]; rfl)))
        · refine u_badv (c := 2) hI hRf (zT_eqn ?_) (Or.inr (Or.inr rfl)) (fun g1 h hf => ?_)
          · unfold sX4_swap
            refine zT_bxe e1 (zT_bxe e2 (zT_eqF ⟨c3, h1, h2⟩ ?_))
            simp only [Int.toNat_natCast]
            refine zT_bdm (e_shares hfi hfj) ?_
            rintro r g' ⟨rfl, ⟨rfl, hy⟩ | ⟨rfl, -⟩⟩
            · exact absurd hy c4
            · exact zT_eqT (by omega) (zT_some ⟨rfl, rfl⟩)
          · exact hpre g1 _ hf (fun z => absurd z c4) (fun _ => g_swap_no2 h1 h2 (Or.inr rfl) (by rw [if_neg (by decide), if_neg c3]; rfl))
    · rw [if_neg c2] at e2
      refine u_badv (c := 0) hI hRf (zT_eqn ?_) (Or.inl rfl) (fun g1 h hf => ?_)
      · unfold sX4_swap
        exact zT_bxe e1 (zT_bxt e2 ⟨rfl, rfl⟩)
      · unfold sX5_swap sX5_swap_j20 sX5_swap_j21
        refine zT_bde (f_isFlight hf.1.1 h24 h1) ?_
        rw [if_pos c1]
        refine zT_eqF (by omega) (zT_bde (f_isFlight hf.1.1 h24 h2) ?_)
        rw [if_neg c2]
        exact zT_eqT (by omega) (zT_eqT (by omega) (g_swap_no2 h1 h2 (Or.inl rfl) rfl))
  · rw [if_neg c1] at e1
    refine u_badv (c := 0) hI hRf (zT_eqn ?_) (Or.inl rfl) (fun g1 h hf => ?_)
    · unfold sX4_swap
      exact zT_bxt e1 ⟨rfl, rfl⟩
    · unfold sX5_swap sX5_swap_j20 sX5_swap_j21
      refine zT_bde (f_isFlight hf.1.1 h24 h1) ?_
      rw [if_neg c1]
      exact zT_eqT (by omega) (zT_eqT (by omega) (g_swap_no2 h1 h2 (Or.inl rfl) rfl))
end SW

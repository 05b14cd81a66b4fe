/-! telling: entries, regulations, flights -/
section TELL3
variable {g : zG} {a1 a2 a3 a4 : Int}
theorem g_entry_none {x : Int} {h : zG} (h3 : zIn a3) (h4 : zIn a4) : zT (sX5_entry_j20 x a2 a3 a4 0 h) (fun _ h' => h' = zup h 6 0 0 (uPos [1, 2, 3] 1)) := by
  have hj : ∀ t0, (t0 = 0 ∨ t0 = 1) → zT (sX5_entry_j49 x a2 a3 a4 0 t0 h) (fun _ h' => h' = zup h 6 0 0 (uPos [1, 2, 3] 1)) := by
    intro t0 _
    unfold sX5_entry_j49 sX5_entry_j114 sX5_entry_j115 sX5_entry_j146
    exact zT_eqT (by omega) (zT_eqT (by omega) (zT_holds (by decide) (zT_eqT (by decide) (zT_some rfl))))
  unfold sX5_entry_j20 sX5_entry_j48
  refine zT_bde (f_isIn h3 (by decide) (by decide)) ?_
  by_cases c3 : 0 ≤ a3 ∧ a3 ≤ 600
  · rw [if_pos c3]
    refine zT_eqF (by omega) (zT_bde (f_isIn h4 (by decide) (by decide)) ?_)
    by_cases c4 : 1 ≤ a4 ∧ a4 ≤ 120
    · rw [if_pos c4]
      exact zT_eqF (by omega) (hj 1 (Or.inr rfl))
    · rw [if_neg c4]
      exact zT_eqT (by omega) (hj 0 (Or.inl rfl))
  · rw [if_neg c3]
    exact zT_eqT (by omega) (hj 0 (Or.inl rfl))
theorem case1 (hr : REL g) (h1 : zIn a1) (h2 : zIn a2) (h3 : zIn a3) (h4 : zIn a4) : ∃ g', sLc1 4000 a1 a2 a3 a4 g = some g' ∧ REL g' := by
  obtain ⟨F, R, hI, hRf⟩ := hr
  have h24 := hI.1.2.1
  unfold sLc1 sL_entry
  have e1 := e_flightAt hI.1 h1
  by_cases c1 : 0 ≤ a1 ∧ a1 < (F : Int)
  · rw [if_pos c1] at e1
    obtain ⟨k, rfl⟩ : ∃ k : Nat, a1 = (k : Int) := ⟨a1.toNat, by omega⟩
    have hkF : k < F := by omega
    obtain ⟨hf0, hb0⟩ := hI.1.2.2 k hkF
    have hs0 := hI.2.2 k hkF
    have hf2 := hf0
    unfold flok at hf2
    have e2 := e_checkSector (g := g) h2
    by_cases c2 : 0 ≤ a2 ∧ a2 < 6
    · rw [if_pos c2] at e2
      have hB := uB_bd hb0 c2
      have e3 := e_checkRange (g := g) (x := a3) (a := 0) (b := 600) h3 (by decide) (by decide)
      have e4 := e_checkRange (g := g) (x := a4) (a := 1) (b := 120) h4 (by decide) (by decide)
      -- the reference, as far as the choice
      have href : ∀ (g1 : zG) (t0 : Int) (P : Int → zG → Prop), REF g1 g F R → (t0 = 0 ∨ t0 = 1) → (∀ t, t = (if g 4 k 2 = 0 ∧ g 4 k 4 = -1 ∧ g 4 k 8 < 5 ∧ uB g k a2 = -1 ∧ g 4 k 9 < a3 then 1 else 0) → zT (sX5_entry_j115 (k : Int) a2 a3 a4 1 t0 t g1) P) → zT (sX5_entry_j49 (k : Int) a2 a3 a4 1 t0 g1) P := by
        intro g1 t0 P hf ht0 hk
        obtain ⟨⟨b0, b1, b2, b3, b4, b5, b6, b7, b8, b9⟩, d2⟩ := hf.1.2 k hkF
        have b30 : g1 30 0 (6 * (k : Int) + a2).toNat = uB g k a2 := (d2 a2 c2.1 c2.2).1
        unfold sX5_entry_j49 sX5_entry_j114
        simp only [Int.toNat_natCast]
        repeat' first
          | (with_reducible exact hk 0 (by rw [if_neg (by omega)]))
          | (with_reducible exact hk 1 (by rw [if_pos (by omega)]))
          | (with_reducible refine zT_ltT ?_ ?_; · omega)
          | (with_reducible refine zT_ltF ?_ ?_; · omega)
          | (with_reducible refine zT_lt ?_ (fun _ => ?_) (fun _ => ?_); · omega)
          | (with_reducible refine zT_leT ?_ ?_; · omega)
          | (with_reducible refine zT_leF ?_ ?_; · omega)
          | (with_reducible refine zT_le ?_ (fun _ => ?_) (fun _ => ?_); · omega)
          | (with_reducible refine zT_eqT ?_ ?_; · omega)
          | (with_reducible refine zT_eqF ?_ ?_; · omega)
          | (with_reducible refine zT_eq ?_ (fun _ => ?_) (fun _ => ?_); · omega)
          | (with_reducible refine zT_ix ?_ ?_; · omega)
          | (with_reducible refine zT_li ?_ ?_; · omega)
          | (with_reducible refine zT_bo ?_ ?_; · omega)
          | (with_reducible refine zT_ri ?_ ?_; · omega)
          | (with_reducible refine zT_dv ?_ ?_; · omega)
          | (with_reducible refine zT_let ?_)
      by_cases c3 : 0 ≤ a3 ∧ a3 ≤ 600
      · rw [if_pos c3] at e3
        by_cases c4 : 1 ≤ a4 ∧ a4 ≤ 120
        · rw [if_pos c4] at e4
          have e5 := e_canEnterNext hf0 hb0 c2 c3
          have hpre : ∀ (g1 : zG) (P : Int → zG → Prop), REF g1 g F R → (∀ t, t = (if g 4 k 2 = 0 ∧ g 4 k 4 = -1 ∧ g 4 k 8 < 5 ∧ uB g k a2 = -1 ∧ g 4 k 9 < a3 then 1 else 0) → zT (sX5_entry_j115 (k : Int) a2 a3 a4 1 1 t g1) P) → zT (sX5_entry (k : Int) a2 a3 a4 g1) P := by
            intro g1 P hf hk
            unfold sX5_entry sX5_entry_j20
            refine zT_bde (f_isFlight hf.1.1 h24 h1) ?_
            rw [if_pos c1]
            refine zT_eqF (by omega) (zT_bde (f_isSector h2) ?_)
            rw [if_pos c2]
            refine zT_eqF (by omega) (zT_bde (f_isIn h3 (by decide) (by decide)) ?_)
            rw [if_pos c3]
            refine zT_eqF (by omega) (zT_bde (f_isIn h4 (by decide) (by decide)) ?_)
            rw [if_pos c4]
            exact zT_eqF (by omega) (href g1 1 P hf (Or.inr rfl) hk)
          by_cases c5 : g 4 k 2 = 0 ∧ g 4 k 4 = -1 ∧ g 4 k 8 < 5 ∧ uB g k a2 = -1 ∧ g 4 k 9 < a3
          · rw [if_pos c5] at e5
            refine z_cmp (O := (0, g 4 k 8 + 1)) (P1 := fun g1 => KS R (zup (zup (zup (zup g 14 k a2.toNat a3) 15 k a2.toNat a4) 4 k 9 a3) 4 k 8 (g 4 k 8 + 1)) g1) ?_ (Or.inl rfl) (fun _ => ⟨by show -2147483648 ≤ g 4 k 8 + 1; omega, by show g 4 k 8 + 1 ≤ 2147483647; omega⟩) (fun _ _ h => h.sk (Or.inl rfl)) (fun g1 h => ?_)
            · unfold sX4_entry
              refine zT_bxe e1 (zT_bxe e2 (zT_bxe e3 (zT_bxe e4 ?_)))
              rw [Int.toNat_natCast]
              refine zT_bde e5 (zT_eqF (by omega) (zT_bde (e_addEntry c2) (zT_some ⟨?_, KS.rf⟩)))
              simp [zup_rd]
            · have hf : REF g1 g F R := (hRf.rows (g' := zup (zup (zup (zup g 14 k a2.toNat a3) 15 k a2.toNat a4) 4 k 9 a3) 4 k 8 (g 4 k 8 + 1)) (fun a j p q => by rw [zup_rd, if_neg (by omega), zup_rd, if_neg (by omega), zup_rd, if_neg (by omega), zup_rd, if_neg (by omega)])).l h
              obtain ⟨⟨b0, b1, b2, b3, b4, b5, b6, b7, b8, b9⟩, d2⟩ := hf.1.2 k hkF
              refine hpre g1 _ hf (fun t ht => ?_)
              rw [if_pos c5] at ht
              subst ht
              unfold sX5_entry_j115 sX5_entry_j146
              refine zT_eqF (by omega) (zT_eqF (by omega) (zT_eqF (by omega) (zT_holds (by decide) ?_)))
              rw [if_pos rfl]
              simp only [Int.toNat_natCast]
              refine zT_eqF (by omega) (zT_ix (by omega) (zT_st (zT_ix (by omega) (zT_st (zT_ix (by omega) (zT_st (zT_ix (by omega) (zT_ix (by omega) (zT_st (zT_ix (by omega) (zT_some ⟨?_, fun _ => ?_, ?_, ?_⟩)))))))))))
              · simp [zup_rd, uPos]
              · simp [zup_rd]
                exact b6
              · simp [zup_rd]
              · have en : (6 * (k : Int) + a2).toNat = 6 * k + a2.toNat := by omega
                rw [en]
                have e26 : (zup (zup (zup (zup g1 6 0 0 0) 30 0 (6 * k + a2.toNat) a3) 31 0 (6 * k + a2.toNat) a4) 27 0 k a3) 26 0 k + 1 = g 4 k 8 + 1 := by
                  simp [zup_rd]
                  exact b6
                rw [e26]
                have hrow0 := hRf.1.2 k hkF
                obtain ⟨x1, x2⟩ := REL.fl (g' := zup (zup (zup (zup (zup (zup (zup (zup g 14 k a2.toNat a3) 15 k a2.toNat a4) 4 k 9 a3) 4 k 8 (g 4 k 8 + 1)) 30 0 (6 * k + a2.toNat) a3) 31 0 (6 * k + a2.toNat) a4) 27 0 k a3) 26 0 k (g 4 k 8 + 1)) hI hRf hkF (fun a j p q => by rw [zup_rd, if_neg (by omega), zup_rd, if_neg (by omega), zup_rd, if_neg (by omega), zup_rd, if_neg (by omega), zup_rd, if_neg (by omega), zup_rd, if_neg (by omega), zup_rd, if_neg (by omega), zup_rd, if_neg (by omega)]) (by unfold flok; simp [zup_rd]; omega) (fun s q1 q2 => by
                  have := hb0 s q1 q2
                  simp only [zup_rd]
                  by_cases cs : s.toNat = a2.toNat
                  · simp [cs]
                    omega
                  · simp [cs]
                    exact this) (by
                  unfold sok at hs0 ⊢
                  simp [zup_rd]
                  refine ⟨Or.inl ?_, hs0.2⟩
                  rcases hs0.1 with z | z
                  · exact z
                  · omega) (by
                  obtain ⟨d1, d2⟩ := hrow0
                  refine ⟨?_, fun s q1 q2 => ?_⟩
                  · simp [zup_rd]
                    exact ⟨d1.1, d1.2.1, d1.2.2.1, d1.2.2.2.1, d1.2.2.2.2.1, d1.2.2.2.2.2.1, d1.2.2.2.2.2.2.2.2⟩
                  · have es : (6 * (k : Int) + s).toNat = 6 * k + s.toNat := by omega
                    have := d2 s q1 q2
                    rw [es] at this ⊢
                    simp only [zup_rd]
                    by_cases cs : s.toNat = a2.toNat
                    · simp [cs]
                    · simp [cs]
                      exact this) (fun r _ => by
                  rw [uCh_wait (g := g) (by omega), uCh_wait (by simp [zup_rd]; omega)]
                  simp [zup_rd]) (fun c _ => by
                  rw [uCo_wait (g := g) (by omega) (Or.inl rfl), uCo_wait (g := g) (by omega) (Or.inr rfl), uCo_wait (by simp [zup_rd]; omega) (Or.inl rfl), uCo_wait (by simp [zup_rd]; omega) (Or.inr rfl)]
                  simp [zup_rd])
                exact REL.ks x1 x2 (KS.up (KS.up (KS.up (KS.up (h.sk (Or.inr ⟨rfl, rfl⟩))))))
          · rw [if_neg c5] at e5
            refine u_bad (c := 2) hI hRf (zT_eqn ?_) (Or.inr (Or.inr rfl)) (fun g1 h hf => ?_)
            · unfold sX4_entry
              refine zT_bxe e1 (zT_bxe e2 (zT_bxe e3 (zT_bxe e4 ?_)))
              rw [Int.toNat_natCast]
              exact zT_bde e5 (zT_eqT (by omega) (zT_some ⟨rfl, rfl⟩))
            · refine hpre g1 _ hf (fun t ht => ?_)
              rw [if_neg c5] at ht
              subst ht
              unfold sX5_entry_j115 sX5_entry_j146
              exact zT_eqF (by omega) (zT_eqF (by omega) (zT_eqT (by omega) (zT_holds (by decide) (zT_eqT (by decide) (zT_some rfl)))))
        · rw [if_neg c4] at e4
          refine u_bad (c := 1) hI hRf (zT_eqn ?_) (Or.inr (Or.inl rfl)) (fun g1 h hf => ?_)
          · unfold sX4_entry
            exact zT_bxe e1 (zT_bxe e2 (zT_bxe e3 (zT_bxt e4 ⟨rfl, rfl⟩)))
          · unfold sX5_entry sX5_entry_j20 sX5_entry_j48
            refine zT_bde (f_isFlight hf.1.1 h24 h1) ?_
            rw [if_pos c1]
            refine zT_eqF (by omega) (zT_bde (f_isSector h2) ?_)
            rw [if_pos c2]
            refine zT_eqF (by omega) (zT_bde (f_isIn h3 (by decide) (by decide)) ?_)
            rw [if_pos c3]
            refine zT_eqF (by omega) (zT_bde (f_isIn h4 (by decide) (by decide)) ?_)
            rw [if_neg c4]
            refine zT_eqT (by omega) (href g1 0 _ hf (Or.inl rfl) (fun t ht => ?_))
            unfold sX5_entry_j115 sX5_entry_j146
            exact zT_eqF (by omega) (zT_eqT (by omega) (zT_holds (by decide) (zT_eqT (by decide) (zT_some rfl))))
      · rw [if_neg c3] at e3
        refine u_bad (c := 1) hI hRf (zT_eqn ?_) (Or.inr (Or.inl rfl)) (fun g1 h hf => ?_)
        · unfold sX4_entry
          exact zT_bxe e1 (zT_bxe e2 (zT_bxt e3 ⟨rfl, rfl⟩))
        · unfold sX5_entry sX5_entry_j20 sX5_entry_j48
          refine zT_bde (f_isFlight hf.1.1 h24 h1) ?_
          rw [if_pos c1]
          refine zT_eqF (by omega) (zT_bde (f_isSector h2) ?_)
          rw [if_pos c2]
          refine zT_eqF (by omega) (zT_bde (f_isIn h3 (by decide) (by decide)) ?_)
          rw [if_neg c3]
          refine zT_eqT (by omega) (href g1 0 _ hf (Or.inl rfl) (fun t ht => ?_))
          unfold sX5_entry_j115 sX5_entry_j146
          exact zT_eqF (by omega) (zT_eqT (by omega) (zT_holds (by decide) (zT_eqT (by decide) (zT_some rfl))))
    · rw [if_neg c2] at e2
      refine u_bad (c := 0) hI hRf (zT_eqn ?_) (Or.inl rfl) (fun g1 h hf => ?_)
      · unfold sX4_entry
        exact zT_bxe e1 (zT_bxt e2 ⟨rfl, rfl⟩)
      · unfold sX5_entry sX5_entry_j19
        refine zT_bde (f_isFlight hf.1.1 h24 h1) ?_
        rw [if_pos c1]
        refine zT_eqF (by omega) (zT_bde (f_isSector h2) ?_)
        rw [if_neg c2]
        exact zT_eqT (by omega) (g_entry_none h3 h4)
  · rw [if_neg c1] at e1
    refine u_bad (c := 0) hI hRf (zT_eqn ?_) (Or.inl rfl) (fun g1 h hf => ?_)
    · unfold sX4_entry
      exact zT_bxt e1 ⟨rfl, rfl⟩
    · unfold sX5_entry sX5_entry_j19
      refine zT_bde (f_isFlight hf.1.1 h24 h1) ?_
      rw [if_neg c1]
      exact zT_eqT (by omega) (g_entry_none h3 h4)
theorem case9 (hr : REL g) (h1 : zIn a1) (h2 : zIn a2) (h3 : zIn a3) (h4 : zIn a4) : ∃ g', sLc9 4000 a1 a2 a3 a4 g = some g' ∧ REL g' := by
  obtain ⟨F, R, hI, hRf⟩ := hr
  have hR6 := hI.2.1.2.1
  have hR1 := hI.2.1.1
  unfold sLc9 sL_regulation
  have e1 := e_checkSector (g := g) h1
  by_cases c1 : 0 ≤ a1 ∧ a1 < 6
  · rw [if_pos c1] at e1
    have e2 := e_checkTerm (g := g) h2 h3 h4
    by_cases c2 : (0 ≤ a2 ∧ a2 ≤ 1439) ∧ (a2 + 1 ≤ a3 ∧ a3 ≤ 1440) ∧ (0 ≤ a4 ∧ a4 ≤ 60)
    · rw [if_pos c2] at e2
      by_cases c3 : R < 6
      · refine z_cmp (O := (0, (R : Int))) (P1 := fun g1 => KS (R + 1) (zaddG (zRg g R a1 a2 a3 a4) 1) g1) ?_ (Or.inl rfl) (fun _ => ⟨by show -2147483648 ≤ (R : Int); omega, by show (R : Int) ≤ 2147483647; omega⟩) (fun _ _ h => h.sk (Or.inl rfl)) (fun g1 h => ?_)
        · unfold sX4_regulation zRgT
          refine zT_bxe e1 (zT_bxe e2 (zT_ltT (by omega) ?_))
          rw [if_pos (by omega), hR1, Int.toNat_natCast]
          exact zT_some ⟨by rw [show (R : Int) + 1 - 1 = (R : Int) from by omega], KS.rf⟩
        · have hcl : ∀ a j p, ¬ ((a = 5 ∧ j = R) ∨ (a = 1 ∧ j = 1)) → zaddG (zRg g R a1 a2 a3 a4) 1 a j p = g a j p := by
            intro a j p q
            unfold zaddG
            rw [zup_rd, if_neg (by omega), zup_rd, if_neg (by omega), zRg_o (by omega)]
          have hg0 : REF (zaddG (zRg g R a1 a2 a3 a4) 1) g F R := hRf.rows (fun k j p q => hcl k j p (by omega))
          have hks : KS R (zaddG (zRg g R a1 a2 a3 a4) 1) g1 := fun k j p q => h k j p (by omega)
          have hf : REF g1 g F R := hg0.l hks
          unfold sX5_regulation sX5_regulation_j40
          refine zT_bde (f_isSector h1) ?_
          rw [if_pos c1]
          refine zT_eqF (by omega) (zT_bde (f_isPart h2 h3 h4) ?_)
          rw [if_pos c2]
          have b14 := hf.2.1.1
          refine zT_eqF (by omega) (zT_eqF (by omega) (zT_holds (by decide) ?_))
          rw [if_pos rfl]
          refine zT_eqF (by omega) ?_
          have e14 : zup g1 6 0 0 0 6 0 14 = (R : Int) := by simp [zup_rd]; exact b14
          rw [e14]
          refine zT_bde (f_lays (by omega)) (zT_st (zT_some ⟨?_, fun _ => ?_, ?_, ?_⟩))
          · simp [zup_rd, uPos]
          · simp [zup_rd]
            omega
          · simp [zup_rd]
          · generalize hgx : zup (zup (zup (zup (zup (zaddG (zRg g R a1 a2 a3 a4) 1) 32 0 R a1) 33 0 R a2) 34 0 R a3) 35 0 R a4) 6 0 14 ((R : Int) + 1) = gx
            have ox : ∀ a j p, ¬ ((a = 5 ∧ j = R) ∨ (a = 1 ∧ j = 1) ∨ ((32 ≤ a ∧ a ≤ 35) ∧ j = 0 ∧ p = R) ∨ (a = 6 ∧ j = 0 ∧ p = 14)) → gx a j p = g a j p := by
              intro a j p q
              rw [← hgx, zup_rd, if_neg (by omega), zup_rd, if_neg (by omega), zup_rd, if_neg (by omega), zup_rd, if_neg (by omega), zup_rd, if_neg (by omega)]
              exact hcl a j p (by omega)
            have x5 : ∀ p, gx 5 R p = zRg g R a1 a2 a3 a4 5 R p := by
              intro p
              rw [← hgx]
              simp [zup_rd, zaddG]
            have x32 : gx 32 0 R = a1 := by rw [← hgx]; simp [zup_rd]
            have x33 : gx 33 0 R = a2 := by rw [← hgx]; simp [zup_rd]
            have x34 : gx 34 0 R = a3 := by rw [← hgx]; simp [zup_rd]
            have x35 : gx 35 0 R = a4 := by rw [← hgx]; simp [zup_rd]
            have x14 : gx 6 0 14 = (R : Int) + 1 := by rw [← hgx]; simp [zup_rd]
            have x112 : gx 1 1 2 = ((R + 1 : Nat) : Int) := by
              rw [← hgx]
              simp [zup_rd, zaddG]
              rw [zRg_o (by omega), hR1]
            have cf : CF g gx := fun a j p q => ox a j p (by omega)
            obtain ⟨i1, i2, i3⟩ := hI
            obtain ⟨r1, r2, r3, r4, r5, r6⟩ := hRf
            have hI2 : INV gx F (R + 1) := by
              refine ⟨i1.cf cf, ⟨x112, by omega, fun q hq => ?_⟩, fun j hj => ?_⟩
              · by_cases cq : q = R
                · rw [cq]
                  have := zRg_ok (g := g) (n := R) c1 c2
                  unfold rgok at this ⊢
                  rw [x5, x5, x5, x5, x5]
                  exact this
                · have z := i2.2.2 q (by omega)
                  unfold rgok at z ⊢
                  rw [ox 5 q 0 (by omega), ox 5 q 1 (by omega), ox 5 q 2 (by omega), ox 5 q 3 (by omega), ox 5 q 4 (by omega)]
                  exact z
              · have q := i3 j hj
                unfold sok at q ⊢
                rw [cf.f (k := j) (p := 1) (by decide), cf.f (k := j) (p := 2) (by decide), cf.f (k := j) (p := 3) (by decide), cf.f (k := j) (p := 4) (by decide), cf.f (k := j) (p := 5) (by decide)]
                refine ⟨?_, q.2⟩
                rcases q.1 with z | ⟨z1, z2, z3, z4⟩
                · exact Or.inl z
                · refine Or.inr ⟨z1, z2, by omega, ?_⟩
                  rw [ox 5 _ 0 (by omega), cf.b]
                  exact z4
            have hR2 : REF gx gx F (R + 1) := by
              refine ⟨⟨by rw [ox 6 0 1 (by omega), r1.1], fun j hj => ?_⟩, ⟨by rw [x14]; omega, fun q hq => ?_⟩, fun j q1 q2 => ?_, fun q q1 q2 => ?_, fun q hq => ?_, fun c hc => ?_⟩
              · have q := r1.2 j hj
                rw [ox 20 0 j (by omega), ox 21 0 j (by omega), ox 22 0 j (by omega), ox 23 0 j (by omega), ox 24 0 j (by omega), ox 25 0 j (by omega), ox 26 0 j (by omega), ox 27 0 j (by omega), ox 28 0 j (by omega), ox 29 0 j (by omega)]
                rw [cf.f (k := j) (p := 0) (by decide), cf.f (k := j) (p := 1) (by decide), cf.f (k := j) (p := 2) (by decide), cf.f (k := j) (p := 3) (by decide), cf.f (k := j) (p := 4) (by decide), cf.f (k := j) (p := 5) (by decide), cf.f (k := j) (p := 6) (by decide), cf.f (k := j) (p := 7) (by decide), cf.f (k := j) (p := 8) (by decide), cf.f (k := j) (p := 9) (by decide)]
                refine ⟨q.1, fun s q1 q2 => ?_⟩
                rw [ox 14 j s.toNat (by omega), ox 15 j s.toNat (by omega), ox 30 0 _ (by omega), ox 31 0 _ (by omega)]
                exact q.2 s q1 q2
              · by_cases cq : q = R
                · rw [cq]
                  unfold RREF
                  rw [x32, x33, x34, x35, x5, x5, x5, x5, x5, ox 37 0 R (by omega), r4 R (Nat.le_refl R) (by omega)]
                  unfold zRg
                  simp
                · have z := r2.2 q (by omega)
                  unfold RREF at z ⊢
                  rw [ox 5 q 0 (by omega), ox 5 q 1 (by omega), ox 5 q 2 (by omega), ox 5 q 3 (by omega), ox 5 q 4 (by omega), ox 32 0 q (by omega), ox 33 0 q (by omega), ox 34 0 q (by omega), ox 35 0 q (by omega), ox 37 0 q (by omega)]
                  exact z
              · have q := r3 j q1 q2
                rw [ox 22 0 j (by omega), ox 26 0 j (by omega), ox 28 0 j (by omega), ox 29 0 j (by omega)]
                refine ⟨q.1, fun s q3 q4 => ?_⟩
                rw [ox 31 0 _ (by omega)]
                exact q.2 s q3 q4
              · rw [ox 37 0 q (by omega)]
                exact r4 q (by omega) q2
              · rw [ox 36 0 q (by omega), r5 q hq]
                exact uSum_congr (fun k _ => (uCh_cf cf).symm)
              · obtain ⟨p1, p2⟩ := r6 c hc
                rw [ox 38 0 c (by omega), ox 39 0 c (by omega), p1, p2]
                exact ⟨uSum_congr (fun k _ => (uCo_cf cf).symm), uSum_congr (fun k _ => (uCo_cf cf).symm)⟩
            have e14b : (zup (zup (zup (zup (zup g1 6 0 0 0) 32 0 R a1) 33 0 R a2) 34 0 R a3) 35 0 R a4) 6 0 14 = (R : Int) := by simp [zup_rd]; exact b14
            rw [e14b]
            refine REL.ks hI2 hR2 ?_
            rw [← hgx]
            exact KS.up (KS.up (KS.up (KS.up (KS.up (h.sk (Or.inr ⟨rfl, rfl⟩))))))
      · refine u_bad (c := 2) hI hRf (zT_eqn ?_) (Or.inr (Or.inr rfl)) (fun g1 h hf => ?_)
        · unfold sX4_regulation
          exact zT_bxe e1 (zT_bxe e2 (zT_ltF (by omega) (zT_some ⟨rfl, rfl⟩)))
        · unfold sX5_regulation sX5_regulation_j40
          refine zT_bde (f_isSector h1) ?_
          rw [if_pos c1]
          refine zT_eqF (by omega) (zT_bde (f_isPart h2 h3 h4) ?_)
          rw [if_pos c2]
          have b14 := hf.2.1.1
          exact zT_eqF (by omega) (zT_eqT (by omega) (zT_holds (by decide) (zT_eqT (by decide) (zT_some rfl))))
    · rw [if_neg c2] at e2
      refine u_bad (c := 1) hI hRf (zT_eqn ?_) (Or.inr (Or.inl rfl)) (fun g1 h hf => ?_)
      · unfold sX4_regulation
        exact zT_bxe e1 (zT_bxt e2 ⟨rfl, rfl⟩)
      · unfold sX5_regulation sX5_regulation_j40
        refine zT_bde (f_isSector h1) ?_
        rw [if_pos c1]
        refine zT_eqF (by omega) (zT_bde (f_isPart h2 h3 h4) ?_)
        rw [if_neg c2]
        exact zT_eqT (by omega) (zT_holds (by decide) (zT_eqT (by decide) (zT_some rfl)))
  · rw [if_neg c1] at e1
    refine u_bad (c := 0) hI hRf (zT_eqn ?_) (Or.inl rfl) (fun g1 h hf => ?_)
    · unfold sX4_regulation
      exact zT_bxt e1 ⟨rfl, rfl⟩
    · unfold sX5_regulation sX5_regulation_j40
      refine zT_bde (f_isSector h1) ?_
      rw [if_neg c1]
      exact zT_eqT (by omega) (zT_holds (by decide) (zT_eqT (by decide) (zT_some rfl)))
/-- the row of the entries of a new flight -/
theorem g_flight_run {n F : Nat} {h0 : zG} (hF : F < 24) (h61 : h0 6 0 1 = (F : Int)) : ∀ (d j f : Nat) (h : zG), j + d = 6 → d < f → (∀ a b c, ¬ (a = 30 ∧ b = 0 ∧ 6 * F ≤ c ∧ c < 6 * F + 6) → h a b c = h0 a b c) → (∀ i, i < j → h 30 0 (6 * F + i) = -1) →
    zT (sX5_flight_run n f 0 (j : Int) h) (fun z h' => z = (F : Int) ∧ (∀ a b c, ¬ ((a = 30 ∧ b = 0 ∧ 6 * F ≤ c ∧ c < 6 * F + 6) ∨ (a = 6 ∧ b = 0 ∧ c = 1)) → h' a b c = h0 a b c) ∧ (∀ i, i < 6 → h' 30 0 (6 * F + i) = -1) ∧ h' 6 0 1 = (F : Int) + 1) := by
  intro d
  induction d with
  | zero =>
    intro j f h hj hf hfr hz
    obtain ⟨f, rfl⟩ : ∃ f', f = f' + 1 := ⟨f - 1, by omega⟩
    have e : h 6 0 1 = (F : Int) := by rw [hfr 6 0 1 (by omega)]; exact h61
    rw [qsX5_flight_run0]
    unfold sX5_flight_h103
    refine zT_ltF (by omega) (zT_st (zT_some ⟨?_, fun a b c q => ?_, fun i hi => ?_, ?_⟩))
    · simp [zup_rd, e]
    · rw [zup_rd, if_neg (by omega)]
      exact hfr a b c (by omega)
    · simp [zup_rd]
      exact hz i (by omega)
    · simp [zup_rd, e]
  | succ d ih =>
    intro j f h hj hf hfr hz
    obtain ⟨f, rfl⟩ : ∃ f', f = f' + 1 := ⟨f - 1, by omega⟩
    have e : h 6 0 1 = (F : Int) := by rw [hfr 6 0 1 (by omega)]; exact h61
    rw [qsX5_flight_run0]
    unfold sX5_flight_h103
    refine zT_ltT (by omega) (zT_ix (by omega) (zT_st (zT_let ?_)))
    rw [e, show (6 * (F : Int) + (j : Int)).toNat = 6 * F + j from by omega]
    refine ih (j + 1) f _ (by omega) (by omega) (fun a b c q => ?_) (fun i hi => ?_)
    · rw [zup_rd, if_neg (by omega)]
      exact hfr a b c q
    · by_cases c : i = j
      · simp [zup_rd, c]
      · simp [zup_rd, c]
        exact hz i (by omega)
/-- a flight more, on both sides -/
theorem REL.nf {F R : Nat} {g g2 : zG} {c p : Int} (hI : INV g F R) (hRf : REF g g F R) (hF : F < 24) (hc : 0 ≤ c ∧ c < 4) (hp : 0 ≤ p ∧ p ≤ 1439)
    (hold : ∀ a j q, (a = 1 ∧ j = 1 ∨ (a = 4 ∧ q < 10 ∧ j ≠ F) ∨ (a = 5 ∧ j < R) ∨ ((a = 14 ∨ a = 15) ∧ j ≠ F)) → g2 a j q = g a j q)
    (hrow : ∀ a q, 20 ≤ a → a ≤ 39 → ¬ ((a = 20 ∨ a = 21 ∨ a = 24 ∨ a = 25 ∨ a = 27) ∧ q = F) → ¬ ((a = 30 ∧ 6 * F ≤ q ∧ q < 6 * F + 6) ∨ ((32 ≤ a ∧ a ≤ 35) ∧ R ≤ q)) → g2 a 0 q = g a 0 q)
    (e102 : g2 1 0 2 = ((F + 1 : Nat) : Int)) (e61 : g2 6 0 1 = (F : Int) + 1) (e14 : g2 6 0 14 = g 6 0 14) (m0 : g2 4 F 0 = c) (m1 : g2 4 F 1 = p) (m2 : g2 4 F 2 = 0) (m3 : g2 4 F 3 = 0) (m4 : g2 4 F 4 = -1) (m5 : g2 4 F 5 = -1) (m6 : g2 4 F 6 = -1) (m7 : g2 4 F 7 = 0) (m8 : g2 4 F 8 = 0) (m9 : g2 4 F 9 = -1) (n14 : ∀ q, q < 6 → g2 14 F q = -1) (n15 : ∀ q, g2 15 F q = 0)
    (v20 : g2 20 0 F = c) (v21 : g2 21 0 F = p) (v24 : g2 24 0 F = -1) (v25 : g2 25 0 F = -1) (v27 : g2 27 0 F = -1) (v30 : ∀ i, i < 6 → g2 30 0 (6 * F + i) = -1) : INV g2 (F + 1) R ∧ REF g2 g2 (F + 1) R := by
  obtain ⟨i1, i2, i3⟩ := hI
  obtain ⟨r1, r2, r3, r4, r5, r6⟩ := hRf
  have hne : ∀ k, k < F → k ≠ F := fun k h => by omega
  have h4 : ∀ k q, k < F → q < 10 → g2 4 k q = g 4 k q := fun k q h1 h2 => hold 4 k q (Or.inr (Or.inl ⟨rfl, h2, hne k h1⟩))
  have h14 : ∀ k q, k < F → g2 14 k q = g 14 k q := fun k q h1 => hold 14 k q (Or.inr (Or.inr (Or.inr ⟨Or.inl rfl, hne k h1⟩)))
  have h15 : ∀ k q, k < F → g2 15 k q = g 15 k q := fun k q h1 => hold 15 k q (Or.inr (Or.inr (Or.inr ⟨Or.inr rfl, hne k h1⟩)))
  have h5 : ∀ r q, r < R → g2 5 r q = g 5 r q := fun r q h1 => hold 5 r q (Or.inr (Or.inr (Or.inl ⟨rfl, h1⟩)))
  have ech : ∀ r k, k < F → uChr g2 r k = uChr g r k := by
    intro r k hk
    unfold uChr uChg uDly
    rw [h4 k 1 hk (by decide), h4 k 2 hk (by decide), h4 k 4 hk (by decide), h4 k 5 hk (by decide)]
  have eco : ∀ c w k, k < F → uCoi g2 c w k = uCoi g c w k := by
    intro c w k hk
    unfold uCoi uLed uChg uOut uDly
    rw [h4 k 0 hk (by decide), h4 k 1 hk (by decide), h4 k 2 hk (by decide), h4 k 4 hk (by decide), h4 k 6 hk (by decide)]
  have hq : ∀ a q, 20 ≤ a → a ≤ 29 → q ≠ F → g2 a 0 q = g a 0 q := fun a q q1 q2 q3 => hrow a q q1 (by omega) (fun z => q3 z.2) (by omega)
  refine ⟨⟨⟨e102, by omega, fun k hk => ?_⟩, ⟨by rw [hold 1 1 2 (Or.inl ⟨rfl, rfl⟩)]; exact i2.1, i2.2.1, fun r hr => ?_⟩, fun k hk => ?_⟩, ⟨⟨by rw [e61]; omega, fun k hk => ?_⟩, ⟨by rw [e14]; exact r2.1, fun r hr => ?_⟩, fun k q1 q2 => ?_, fun r q1 q2 => ?_, fun r hr => ?_, fun c hc => ?_⟩⟩
  · by_cases ck : k = F
    · rw [ck]
      refine ⟨?_, fun s q1 q2 => ?_⟩
      · unfold flok
        rw [m0, m1, m2, m3, m4, m5, m6, m7, m8, m9]
        omega
      · rw [n14 s.toNat (by omega), n15]
        omega
    · have hkF : k < F := by omega
      obtain ⟨q1, q2⟩ := i1.2.2 k hkF
      refine ⟨?_, fun s q3 q4 => ?_⟩
      · unfold flok at q1 ⊢
        rw [h4 k 0 hkF (by decide), h4 k 1 hkF (by decide), h4 k 2 hkF (by decide), h4 k 3 hkF (by decide), h4 k 4 hkF (by decide), h4 k 5 hkF (by decide), h4 k 6 hkF (by decide), h4 k 7 hkF (by decide), h4 k 8 hkF (by decide), h4 k 9 hkF (by decide)]
        exact q1
      · rw [h14 k s.toNat hkF, h15 k s.toNat hkF]
        exact q2 s q3 q4
  · have q := i2.2.2 r hr
    unfold rgok at q ⊢
    rw [h5 r 0 hr, h5 r 1 hr, h5 r 2 hr, h5 r 3 hr, h5 r 4 hr]
    exact q
  · by_cases ck : k = F
    · rw [ck]
      unfold sok
      rw [m4, m5]
      exact ⟨Or.inl ⟨rfl, rfl⟩, fun _ _ => rfl⟩
    · have hkF : k < F := by omega
      have q := i3 k hkF
      unfold sok at q ⊢
      rw [h4 k 1 hkF (by decide), h4 k 2 hkF (by decide), h4 k 3 hkF (by decide), h4 k 4 hkF (by decide), h4 k 5 hkF (by decide)]
      refine ⟨?_, q.2⟩
      rcases q.1 with z | ⟨z1, z2, z3, z4⟩
      · exact Or.inl z
      · refine Or.inr ⟨z1, z2, z3, ?_⟩
        unfold uB at z4 ⊢
        rw [h5 _ 0 (by omega), h14 k _ hkF]
        exact z4
  · by_cases ck : k = F
    · rw [ck, m0, m1, m2, m3, m4, m5, m6, m7, m8, m9]
      have z := r3 F (Nat.le_refl F) (by omega)
      have hz : ∀ a, (a = 22 ∨ a = 26 ∨ a = 28 ∨ a = 29) → g2 a 0 F = g a 0 F := fun a q => hrow a F (by omega) (by omega) (by omega) (by omega)
      refine ⟨⟨v20, v21, by rw [hz 22 (by omega)]; exact z.1.1, fun q => by omega, v24, v25, by rw [hz 26 (by omega)]; exact z.1.2.1, v27, by rw [hz 28 (by omega)]; exact z.1.2.2.1, by rw [hz 29 (by omega)]; exact z.1.2.2.2⟩, fun s q1 q2 => ?_⟩
      rw [n14 s.toNat (by omega), n15, hrow 31 _ (by omega) (by omega) (by omega) (by omega), z.2 s q1 q2, show (6 * (F : Int) + s).toNat = 6 * F + s.toNat from by omega, v30 s.toNat (by omega)]
      exact ⟨rfl, rfl⟩
    · have hkF : k < F := by omega
      have q := r1.2 k hkF
      rw [h4 k 0 hkF (by decide), h4 k 1 hkF (by decide), h4 k 2 hkF (by decide), h4 k 3 hkF (by decide), h4 k 4 hkF (by decide), h4 k 5 hkF (by decide), h4 k 6 hkF (by decide), h4 k 7 hkF (by decide), h4 k 8 hkF (by decide), h4 k 9 hkF (by decide)]
      rw [hq 20 k (by decide) (by decide) ck, hq 21 k (by decide) (by decide) ck, hq 22 k (by decide) (by decide) ck, hq 23 k (by decide) (by decide) ck, hq 24 k (by decide) (by decide) ck, hq 25 k (by decide) (by decide) ck, hq 26 k (by decide) (by decide) ck, hq 27 k (by decide) (by decide) ck, hq 28 k (by decide) (by decide) ck, hq 29 k (by decide) (by decide) ck]
      refine ⟨q.1, fun s q1 q2 => ?_⟩
      rw [h14 k s.toNat hkF, h15 k s.toNat hkF, hrow 30 _ (by omega) (by omega) (by omega) (by omega), hrow 31 _ (by omega) (by omega) (by omega) (by omega)]
      exact q.2 s q1 q2
  · have q := r2.2 r hr
    unfold RREF at q ⊢
    rw [h5 r 0 hr, h5 r 1 hr, h5 r 2 hr, h5 r 3 hr, h5 r 4 hr, hrow 32 r (by omega) (by omega) (by omega) (by omega), hrow 33 r (by omega) (by omega) (by omega) (by omega), hrow 34 r (by omega) (by omega) (by omega) (by omega), hrow 35 r (by omega) (by omega) (by omega) (by omega), hrow 37 r (by omega) (by omega) (by omega) (by omega)]
    exact q
  · have q := r3 k (by omega) q2
    rw [hq 22 k (by decide) (by decide) (by omega), hq 26 k (by decide) (by decide) (by omega), hq 28 k (by decide) (by decide) (by omega), hq 29 k (by decide) (by decide) (by omega)]
    refine ⟨q.1, fun s q3 q4 => ?_⟩
    rw [hrow 31 _ (by omega) (by omega) (by omega) (by omega)]
    exact q.2 s q3 q4
  · rw [hrow 37 r (by omega) (by omega) (by omega) (by omega)]
    exact r4 r q1 q2
  · rw [hrow 36 r (by omega) (by omega) (by omega) (by omega), r5 r hr]
    show uSum (uChr g (r : Int)) F = uSum (uChr g2 (r : Int)) F + uChr g2 (r : Int) F
    rw [uCh_wait (g := g2) (k := F) (by omega), Int.add_zero]
    exact uSum_congr (fun k hk => (ech _ k hk).symm)
  · obtain ⟨p1, p2⟩ := r6 c hc
    rw [hrow 38 c (by omega) (by omega) (by omega) (by omega), hrow 39 c (by omega) (by omega) (by omega) (by omega), p1, p2]
    refine ⟨?_, ?_⟩
    · show uSum (uCoi g (c : Int) 0) F = uSum (uCoi g2 (c : Int) 0) F + uCoi g2 (c : Int) 0 F
      rw [uCo_wait (g := g2) (k := F) (by omega) (Or.inl rfl), Int.add_zero]
      exact uSum_congr (fun k hk => (eco _ _ k hk).symm)
    · show uSum (uCoi g (c : Int) 1) F = uSum (uCoi g2 (c : Int) 1) F + uCoi g2 (c : Int) 1 F
      rw [uCo_wait (g := g2) (k := F) (by omega) (Or.inr rfl), Int.add_zero]
      exact uSum_congr (fun k hk => (eco _ _ k hk).symm)
theorem case0 (hr : REL g) (h1 : zIn a1) (h2 : zIn a2) : ∃ g', sLc0 4000 a1 a2 a3 a4 g = some g' ∧ REL g' := by
  obtain ⟨F, R, hI, hRf⟩ := hr
  have h24 := hI.1.2.1
  have hF1 := hI.1.1
  unfold sLc0 sL_flight
  have e1 := e_checkCompany (g := g) h1
  by_cases c1 : 0 ≤ a1 ∧ a1 < 4
  · rw [if_pos c1] at e1
    have e2 := e_checkRange (g := g) (x := a2) (a := 0) (b := 1439) h2 (by decide) (by decide)
    by_cases c2 : 0 ≤ a2 ∧ a2 ≤ 1439
    · rw [if_pos c2] at e2
      by_cases c3 : F < 24
      · refine z_cmp (O := (0, (F : Int))) (P1 := fun g1 => KS R (zaddG (zFl g F a1 a2) 0) g1) ?_ (Or.inl rfl) (fun _ => ⟨by show -2147483648 ≤ (F : Int); omega, by show (F : Int) ≤ 2147483647; omega⟩) (fun _ _ h => h.sk (Or.inl rfl)) (fun g1 h => ?_)
        · unfold sX4_flight zFlT
          refine zT_bxe e1 (zT_bxe e2 (zT_ltT (by omega) ?_))
          rw [if_pos (by omega), hF1, Int.toNat_natCast]
          exact zT_some ⟨by rw [show (F : Int) + 1 - 1 = (F : Int) from by omega], KS.rf⟩
        · have zFl_o : ∀ a j p, ¬ ((a = 4 ∨ a = 14 ∨ a = 15) ∧ j = F) → zFl g F a1 a2 a j p = g a j p := by
            intro a j p q
            unfold zFl
            by_cases cj : j = F
            · rw [if_pos cj, if_neg (by omega), if_neg (by omega), if_neg (by omega)]
            · rw [if_neg cj]
          have hcl : ∀ a j p, ¬ (((a = 4 ∨ a = 14 ∨ a = 15) ∧ j = F) ∨ (a = 1 ∧ j = 0)) → zaddG (zFl g F a1 a2) 0 a j p = g a j p := by
            intro a j p q
            unfold zaddG
            rw [zup_rd, if_neg (by omega), zup_rd, if_neg (by omega), zFl_o a j p (by omega)]
          have hf : REF g1 g F R := (hRf.rows (g' := zaddG (zFl g F a1 a2) 0) (fun k j p q => hcl k j p (by omega))).l h
          obtain ⟨i1, i2, i3⟩ := hI
          obtain ⟨r1, r2, r3, r4, r5, r6⟩ := hRf
          obtain ⟨f1, f2, f3, f4, f5, f6⟩ := hf
          unfold sX5_flight sX5_flight_j43
          refine zT_bde (f_isIn h1 (by decide) (by decide)) ?_
          rw [if_pos (show 0 ≤ a1 ∧ a1 ≤ 3 from by omega)]
          refine zT_eqF (by omega) (zT_bde (f_isIn h2 (by decide) (by decide)) ?_)
          rw [if_pos c2]
          have b61 := f1.1
          refine zT_eqF (by omega) (zT_eqF (by omega) (zT_holds (by decide) ?_))
          rw [if_pos rfl]
          have e61 : zup g1 6 0 0 0 6 0 1 = (F : Int) := by simp [zup_rd]; exact b61
          refine zT_eqF (by omega) (zT_ix (by omega) (zT_st ?_))
          rw [e61, Int.toNat_natCast]
          have s1 : ∀ a b x, zup (zup g1 6 0 0 0) a 0 b x 6 0 1 = (F : Int) ∨ a = 6 := by
            intro a b x
            by_cases ca : a = 6
            · exact Or.inr ca
            · refine Or.inl ?_
              rw [zup_rd, if_neg (by omega)]
              exact e61
          have e62 : zup (zup g1 6 0 0 0) 20 0 F a1 6 0 1 = (F : Int) := by rw [zup_rd, if_neg (by omega)]; exact e61
          refine zT_ix (by omega) (zT_st ?_)
          rw [e62, Int.toNat_natCast]
          have e63 : zup (zup (zup g1 6 0 0 0) 20 0 F a1) 21 0 F a2 6 0 1 = (F : Int) := by rw [zup_rd, if_neg (by omega)]; exact e62
          refine zT_ix (by omega) (zT_st ?_)
          rw [e63, Int.toNat_natCast]
          have e64 : zup (zup (zup (zup g1 6 0 0 0) 20 0 F a1) 21 0 F a2) 24 0 F (-1) 6 0 1 = (F : Int) := by rw [zup_rd, if_neg (by omega)]; exact e63
          refine zT_ix (by omega) (zT_st ?_)
          rw [e64, Int.toNat_natCast]
          have e65 : zup (zup (zup (zup (zup g1 6 0 0 0) 20 0 F a1) 21 0 F a2) 24 0 F (-1)) 25 0 F (-1) 6 0 1 = (F : Int) := by rw [zup_rd, if_neg (by omega)]; exact e64
          refine zT_ix (by omega) (zT_st ?_)
          rw [e65, Int.toNat_natCast]
          have e66 : zup (zup (zup (zup (zup (zup g1 6 0 0 0) 20 0 F a1) 21 0 F a2) 24 0 F (-1)) 25 0 F (-1)) 27 0 F (-1) 6 0 1 = (F : Int) := by rw [zup_rd, if_neg (by omega)]; exact e65
          refine zT_mono (g_flight_run (n := 4000) c3 e66 6 0 4000 _ rfl (by decide) (fun _ _ _ _ => rfl) (fun i hi => by omega)) ?_
          rintro z g2 ⟨w1, w2, w3, w4⟩
          generalize hg3 : zup (zup (zup (zup (zup (zup g1 6 0 0 0) 20 0 F a1) 21 0 F a2) 24 0 F (-1)) 25 0 F (-1)) 27 0 F (-1) = g3 at w2
          have o3 : ∀ a b c, ¬ ((a = 6 ∧ b = 0 ∧ c = 0) ∨ ((a = 20 ∨ a = 21 ∨ a = 24 ∨ a = 25 ∨ a = 27) ∧ b = 0 ∧ c = F)) → g3 a b c = g1 a b c := by
            intro a b c q
            rw [← hg3, zup_rd, if_neg (by omega), zup_rd, if_neg (by omega), zup_rd, if_neg (by omega), zup_rd, if_neg (by omega), zup_rd, if_neg (by omega), zup_rd, if_neg (by omega)]
          have v20 : g3 20 0 F = a1 := by rw [← hg3]; simp [zup_rd]
          have v21 : g3 21 0 F = a2 := by rw [← hg3]; simp [zup_rd]
          have v24 : g3 24 0 F = -1 := by rw [← hg3]; simp [zup_rd]
          have v25 : g3 25 0 F = -1 := by rw [← hg3]; simp [zup_rd]
          have v27 : g3 27 0 F = -1 := by rw [← hg3]; simp [zup_rd]
          have v60 : g3 6 0 0 = 0 := by rw [← hg3]; simp [zup_rd]
          refine ⟨?_, fun _ => w1, ?_, F + 1, R, ?_⟩
          · rw [w2 6 0 0 (by omega), v60]
            rfl
          · rw [w2 17 0 0 (by omega), o3 17 0 0 (by omega)]
          · have og : ∀ a b c, ¬ ((a = 6 ∧ b = 0 ∧ (c = 0 ∨ c = 1)) ∨ ((a = 20 ∨ a = 21 ∨ a = 24 ∨ a = 25 ∨ a = 27) ∧ b = 0 ∧ c = F) ∨ (a = 30 ∧ b = 0 ∧ 6 * F ≤ c ∧ c < 6 * F + 6)) → g2 a b c = g1 a b c := fun a b c q => (w2 a b c (by omega)).trans (o3 a b c (by omega))
            clear hg3 s1 e61 e62 e63 e64 e65 e66
            have hk2 : ∀ a j p, (a = 1 ∨ (a = 4 ∧ p < 10) ∨ (a = 5 ∧ j < R) ∨ a = 14 ∨ a = 15) → g2 a j p = zaddG (zFl g F a1 a2) 0 a j p := fun a j p q => (og a j p (by omega)).trans (h a j p (by omega))
            have n4 : ∀ p, p < 10 → g2 4 F p = zFl g F a1 a2 4 F p := fun p hp => by
              rw [hk2 4 F p (by omega)]
              unfold zaddG
              rw [zup_rd, if_neg (by omega), zup_rd, if_neg (by omega)]
            refine REL.nf (c := a1) (p := a2) ⟨i1, i2, i3⟩ ⟨r1, r2, r3, r4, r5, r6⟩ c3 c1 c2 (fun a j p q => (hk2 a j p (by omega)).trans (hcl a j p (by omega))) (fun a q q1 q2 q3 q4 => (og a 0 q (by omega)).trans ((h a 0 q (by omega)).trans (hcl a 0 q (by omega)))) ?_ w4 ?_ ?_ ?_ ?_ ?_ ?_ ?_ ?_ ?_ ?_ ?_ (fun p hp => ?_) (fun p => ?_) (by rw [w2 20 0 F (by omega), v20]) (by rw [w2 21 0 F (by omega), v21]) (by rw [w2 24 0 F (by omega), v24]) (by rw [w2 25 0 F (by omega), v25]) (by rw [w2 27 0 F (by omega), v27]) w3
            · rw [hk2 1 0 2 (by omega)]
              simp [zaddG, zup_rd]
              rw [zFl_o 1 0 2 (by omega), hF1]
            · rw [og 6 0 14 (by omega), f2.1, r2.1]
            · rw [n4 0 (by decide)]; simp [zFl]
            · rw [n4 1 (by decide)]; simp [zFl]
            · rw [n4 2 (by decide)]; simp [zFl]
            · rw [n4 3 (by decide)]; simp [zFl]
            · rw [n4 4 (by decide)]; simp [zFl]
            · rw [n4 5 (by decide)]; simp [zFl]
            · rw [n4 6 (by decide)]; simp [zFl]
            · rw [n4 7 (by decide)]; simp [zFl]
            · rw [n4 8 (by decide)]; simp [zFl]
            · rw [n4 9 (by decide)]; simp [zFl]
            · rw [hk2 14 F p (by omega)]
              unfold zaddG
              rw [zup_rd, if_neg (by omega), zup_rd, if_neg (by omega)]
              unfold zFl
              rw [if_pos rfl, if_neg (by decide), if_pos rfl, if_pos hp]
            · rw [hk2 15 F p (by omega)]
              unfold zaddG
              rw [zup_rd, if_neg (by omega), zup_rd, if_neg (by omega)]
              unfold zFl
              rw [if_pos rfl, if_neg (by decide), if_neg (by decide), if_pos rfl]
      · refine u_bad (c := 2) hI hRf (zT_eqn ?_) (Or.inr (Or.inr rfl)) (fun g1 h hf => ?_)
        · unfold sX4_flight
          exact zT_bxe e1 (zT_bxe e2 (zT_ltF (by omega) (zT_some ⟨rfl, rfl⟩)))
        · unfold sX5_flight sX5_flight_j43
          refine zT_bde (f_isIn h1 (by decide) (by decide)) ?_
          rw [if_pos (show 0 ≤ a1 ∧ a1 ≤ 3 from by omega)]
          refine zT_eqF (by omega) (zT_bde (f_isIn h2 (by decide) (by decide)) ?_)
          rw [if_pos c2]
          have b61 := hf.1.1
          exact zT_eqF (by omega) (zT_eqT (by omega) (zT_holds (by decide) (zT_eqT (by decide) (zT_some rfl))))
    · rw [if_neg c2] at e2
      refine u_bad (c := 1) hI hRf (zT_eqn ?_) (Or.inr (Or.inl rfl)) (fun g1 h hf => ?_)
      · unfold sX4_flight
        exact zT_bxe e1 (zT_bxt e2 ⟨rfl, rfl⟩)
      · unfold sX5_flight sX5_flight_j43
        refine zT_bde (f_isIn h1 (by decide) (by decide)) ?_
        rw [if_pos (show 0 ≤ a1 ∧ a1 ≤ 3 from by omega)]
        refine zT_eqF (by omega) (zT_bde (f_isIn h2 (by decide) (by decide)) ?_)
        rw [if_neg c2]
        exact zT_eqT (by omega) (zT_holds (by decide) (zT_eqT (by decide) (zT_some rfl)))
  · rw [if_neg c1] at e1
    refine u_bad (c := 0) hI hRf (zT_eqn ?_) (Or.inl rfl) (fun g1 h hf => ?_)
    · unfold sX4_flight
      exact zT_bxt e1 ⟨rfl, rfl⟩
    · unfold sX5_flight sX5_flight_j43
      refine zT_bde (f_isIn h1 (by decide) (by decide)) ?_
      rw [if_neg (show ¬ (0 ≤ a1 ∧ a1 ≤ 3) from by omega)]
      exact zT_eqT (by omega) (zT_holds (by decide) (zT_eqT (by decide) (zT_some rfl)))
end TELL3

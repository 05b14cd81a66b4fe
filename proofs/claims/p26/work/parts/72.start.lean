/-! the loop's body, the law's start -/
def RELK (k : Nat) (g : zG) : Prop := ∃ F R : Nat, INV g F R ∧ g 17 0 0 = (F : Int) ∧ g 17 0 1 = (R : Int) ∧ 0 ≤ g 17 0 2 ∧ g 17 0 2 ≤ (k : Int)
theorem u_lb : ∀ (k : Nat) (w a b : Int) (g : zG), k < 80 → (0 ≤ w ∧ w < 2147483648) → (0 ≤ a ∧ a < 2147483648) → (0 ≤ b ∧ b < 2147483648) → RELK k g → ∃ (n : Nat) (g' : zG), sLb n w a b g = some (1, g') ∧ RELK (k + 1) g' := by
  intro k w a b g hk hw ha hb hr
  obtain ⟨F, R, hI, d0, d1, d2, d3⟩ := hr
  have h : zT (sLb 4000 w a b g) (fun z g' => z = 1 ∧ RELK (k + 1) g') := by
    unfold sLb
    refine zT_bdm (s_step (n := 4000) (m := (k : Int)) (by decide) hI ⟨d0, d1, ⟨d2, d3⟩, by omega⟩ hw ha hb) ?_
    rintro z g1 ⟨rfl, F1, R1, hF1, hI1, x0, x1, x2, x3⟩
    have h24 := hI1.1.2.1
    have e0 : g1 17 0 (0 : Int).toNat = (F1 : Int) := x0
    refine zT_eqF (by omega) (zT_dv (by omega) (zT_ix (by omega) ?_))
    rw [e0, u_td ha.1, u_tm (show 0 ≤ a / 7 from by omega)]
    obtain ⟨j, hj⟩ : ∃ j : Nat, a / 7 % (F1 : Int) = (j : Int) := ⟨(a / 7 % (F1 : Int)).toNat, by have := Int.emod_nonneg (a / 7) (b := (F1 : Int)) (by omega); omega⟩
    have hjF : j < F1 := by have := Int.emod_lt_of_pos (a / 7) (b := (F1 : Int)) (by omega); omega
    rw [hj]
    refine zT_dv (by omega) (zT_bdm (u_isDay (n := 4000) (by decide) hI1 hjF x1) ?_)
    rintro z g2 ⟨rfl, h2⟩
    refine zT_eqF (by omega) (zT_some ⟨rfl, F1, R1, hI1.ks h2, by rw [h2.d]; exact x0, by rw [h2.d]; exact x1, by rw [h2.d]; exact x2, ?_⟩)
    rw [h2.d]
    omega
  obtain ⟨z, g', e, rfl, q⟩ := h
  exact ⟨4000, g', e, q⟩
theorem u_inv0 : INV zg0 0 0 := ⟨⟨rfl, Nat.zero_le _, fun k hk => by omega⟩, ⟨rfl, Nat.zero_le _, fun r hr => by omega⟩, fun k hk => by omega⟩
theorem u_la : ∃ g' : zG, sLa 4000 zg0 = some (1, g') ∧ RELK 0 g' := by
  have h : zT (sLa 4000 zg0) (fun z g' => z = 1 ∧ RELK 0 g') := by
    unfold sLa
    refine b_allDue (n := 4000) (by decide) u_inv0 KS.rf (fun g1 h1 => ?_)
    have hI1 := u_inv0.ks h1
    refine zT_eqT ⟨rfl, (show zIn (0 : Int) from by decide), by decide⟩ (zT_bdm (t_dealI (n := 4000) (w := 1) (by decide) hI1 (Or.inr rfl)) ?_)
    rintro z g2 ⟨rfl, hI2, hD2, -⟩
    refine zT_eqT ⟨rfl, (show zIn (0 : Int) from by decide), by decide⟩ (b_peakAnew (n := 4000) (by decide) hI2 KS.rf (by omega) (by omega) ?_)
    refine zT_eqT ⟨rfl, (show zIn (0 : Int) from by decide), by decide⟩ (b_load (n := 4000) (by decide) hI2 KS.rf (by omega) (by omega) ?_)
    refine zT_eqT ⟨rfl, (show zIn (0 : Int) from by decide), by decide⟩ (b_companyIs (n := 4000) (by decide) hI2 KS.rf (by omega) (by omega) ?_)
    refine zT_eqT ⟨rfl, (show zIn (0 : Int) from by decide), by decide⟩ (zT_some ⟨rfl, 0, 0, hI2, ?_, ?_, ?_, ?_⟩)
    · rw [hD2, h1.d]; rfl
    · rw [hD2, h1.d]; rfl
    · rw [hD2, h1.d]; exact Int.le_refl 0
    · rw [hD2, h1.d]; exact Int.le_refl 0
  obtain ⟨z, g', e, rfl, q⟩ := h
  exact ⟨g', e, q⟩
/-- the JDK's empty row at the entry -/
theorem z_emAt {s : State} {b : Nat} (hgv : (Jvm.Cond.and given_1 narrow_1).before #[Value.ref b] s = true) : ∃ em : Nat, (Term.static "java/util/ArrayList" "DEFAULTCAPACITY_EMPTY_ELEMENTDATA" "[Ljava/lang/Object;").eval #[Value.ref b] s none [] s = some (.ref em) ∧ em < s.heap.size ∧ ∀ (D : va_G) (cy : Nat → ClassId) (b0 : Nat), va_K D vwCl (z_tys (D, cy, b0, em)) s → zEm (D, cy, b0, em) s.heap := by
  have hs := flat_of_before _ hgv
  have h1 : (Cond.exactly (Term.static "java/util/ArrayList" "DEFAULTCAPACITY_EMPTY_ELEMENTDATA" "[Ljava/lang/Object;") "[Ljava/lang/Object;").before #[Value.ref b] s = true := hs _ (by decide +kernel)
  have h2 : (Cond.eq (Term.length (Term.static "java/util/ArrayList" "DEFAULTCAPACITY_EMPTY_ELEMENTDATA" "[Ljava/lang/Object;")) (Term.int 0)).before #[Value.ref b] s = true := hs _ (by decide +kernel)
  obtain ⟨em, c, cell, k, e1, e2, e3, e4, e5, e6, -⟩ := Cond.exactly_spec (show Cond.holds _ _ _ _ _ _ = true from h1)
  have e7 := Cond.eq_int (n := 0) (show Cond.holds _ _ _ _ _ _ = true from h2) rfl
  refine ⟨em, e1, (Array.getElem?_eq_some_iff.mp e3).1, fun D cy b0 hK => ⟨cell, e3, ?_, ?_, fun q hq => by rw [hq] at e5; cases e5⟩⟩
  · simp only [Term.eval, Option.bind_eq_bind] at e7 e1
    rw [e1] at e7
    simp only [Option.bind_some] at e7
    cases ha : s.arrayAt? em with
    | none => rw [ha] at e7; cases e7
    | some cell2 =>
      obtain ⟨a1, -⟩ := State.arrayAt?_spec ha
      rw [e3] at a1
      cases a1
      rw [ha] at e7
      simp only [Option.bind_some] at e7
      by_cases hsz : cell.slots.size < 2 ^ 31
      · rw [if_pos hsz] at e7
        have e8 : cell.slots.size.toInt32 = (0 : Int32) := by
          injection e7 with e7
          injection e7
        have e9 := congrArg Int32.toInt e8
        rw [show cell.slots.size.toInt32 = Int32.ofInt (cell.slots.size : Int) from rfl, Int32.toInt_ofInt_of_le (by omega) (by omega)] at e9
        have : (0 : Int32).toInt = 0 := rfl
        omega
      · rw [if_neg hsz] at e7
        cases e7
  · obtain ⟨-, kA, comp, -, -, -, e8⟩ := hK.2 3 (cy 3, .object "java/lang/Object") rfl
    rw [e6]
    have : some c = some (cy 3) := e2.symm.trans e8
    exact Option.some.inj this

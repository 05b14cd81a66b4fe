/-! every step of the law; the relation at its start -/
theorem u_step : ∀ (cc : Nat) (a1 a2 a3 a4 : Int) (g : zG), cc < 32 → zIn a1 → zIn a2 → zIn a3 → zIn a4 → REL g → ∃ (n : Nat) (g' : zG), sLc cc n a1 a2 a3 a4 g = some g' ∧ REL g' := by
  intro cc a1 a2 a3 a4 g hc h1 h2 h3 h4 hr
  refine ⟨4000, ?_⟩
  unfold sLc
  by_cases c0 : cc = 0
  · rw [if_pos c0]; exact case0 hr h1 h2
  rw [if_neg c0]
  by_cases c1 : cc = 1
  · rw [if_pos c1]; exact case1 hr h1 h2 h3 h4
  rw [if_neg c1]
  by_cases c2 : cc = 2
  · rw [if_pos c2]; exact case2 hr h1 h2
  rw [if_neg c2]
  by_cases c3 : cc = 3
  · rw [if_pos c3]; exact case3 hr h1 h2
  rw [if_neg c3]
  by_cases c4 : cc = 4
  · rw [if_pos c4]; exact case4 hr h1 h2
  rw [if_neg c4]
  by_cases c5 : cc = 5
  · rw [if_pos c5]; exact case5 hr h1 h2 h3
  rw [if_neg c5]
  by_cases c6 : cc = 6
  · rw [if_pos c6]; exact case6 hr h1 h2
  rw [if_neg c6]
  by_cases c7 : cc = 7
  · rw [if_pos c7]; exact case7 hr h1 h2
  rw [if_neg c7]
  by_cases c8 : cc = 8
  · rw [if_pos c8]; exact case8 hr h1 h2
  rw [if_neg c8]
  by_cases c9 : cc = 9
  · rw [if_pos c9]; exact case9 hr h1 h2 h3 h4
  rw [if_neg c9]
  by_cases c10 : cc = 10
  · rw [if_pos c10]; exact case10 hr h1 h2
  rw [if_neg c10]
  by_cases c11 : cc = 11
  · rw [if_pos c11]; exact case11 hr h1
  rw [if_neg c11]
  by_cases c12 : cc = 12
  · rw [if_pos c12]; exact case12 hr h1 h2
  rw [if_neg c12]
  by_cases c13 : cc = 13
  · rw [if_pos c13]; exact case13 hr h1 h2
  rw [if_neg c13]
  by_cases c14 : cc = 14
  · rw [if_pos c14]; exact case14 hr h1 h2
  rw [if_neg c14]
  by_cases c15 : cc = 15
  · rw [if_pos c15]; exact case15 hr h1
  rw [if_neg c15]
  by_cases c16 : cc = 16
  · rw [if_pos c16]; exact case16 hr h1
  rw [if_neg c16]
  by_cases c17 : cc = 17
  · rw [if_pos c17]; exact case17 hr
  rw [if_neg c17]
  by_cases c18 : cc = 18
  · rw [if_pos c18]; exact case18 hr h1 h2 h3 h4
  rw [if_neg c18]
  by_cases c19 : cc = 19
  · rw [if_pos c19]; exact case19 hr h1
  rw [if_neg c19]
  by_cases c20 : cc = 20
  · rw [if_pos c20]; exact case20 hr h1 h2
  rw [if_neg c20]
  by_cases c21 : cc = 21
  · rw [if_pos c21]; exact case21 hr h1 h2 h3 h4
  rw [if_neg c21]
  by_cases c22 : cc = 22
  · rw [if_pos c22]; exact case22 hr h1 h2
  rw [if_neg c22]
  exact ⟨g, rfl, hr⟩
theorem u_rel0 : REL zg0 := by
  refine ⟨0, 0, ⟨⟨rfl, Nat.zero_le _, fun k hk => by omega⟩, ⟨rfl, Nat.zero_le _, fun r hr => by omega⟩, fun k hk => by omega⟩, ⟨rfl, fun k hk => by omega⟩, ⟨rfl, fun r hr => by omega⟩, fun k _ _ => ⟨⟨rfl, rfl, rfl, rfl⟩, fun s _ _ => rfl⟩, fun r _ _ => rfl, fun r _ => rfl, fun c _ => ⟨rfl, rfl⟩⟩
/-- the JDK's empty row at the entry -/
theorem z_emAt {s : State} {b : Nat} (hgv : (Jvm.Cond.and given_1 narrow_1).before #[Value.ref b] s = true) : ∃ em : Nat, (Term.static "java/util/ArrayList" "DEFAULTCAPACITY_EMPTY_ELEMENTDATA" "[Ljava/lang/Object;").eval #[Value.ref b] s none [] s = some (.ref em) ∧ em < s.heap.size ∧ ∀ (D : va_G) (cy : Nat → ClassId) (b0 : Nat), va_K D vwCl (z_tys (D, cy, b0, em)) s → zEm (D, cy, b0, em) s.heap := by
  have hs := flat_of_before _ hgv
  have h1 : (Cond.exactly (Term.static "java/util/ArrayList" "DEFAULTCAPACITY_EMPTY_ELEMENTDATA" "[Ljava/lang/Object;") "[Ljava/lang/Object;").before #[Value.ref b] s = true := hs _ (by decide +kernel)
  have h2 : (Cond.eq (Term.length (Term.static "java/util/ArrayList" "DEFAULTCAPACITY_EMPTY_ELEMENTDATA" "[Ljava/lang/Object;")) (Term.int 0)).before #[Value.ref b] s = true := hs _ (by decide +kernel)
  obtain ⟨em, c, cell, k, e1, e2, e3, e4, e5, e6, -⟩ := Cond.exactly_spec (show Cond.holds _ _ _ _ _ _ = true from h1)
  have e7 := Cond.eq_int (n := 0) (show Cond.holds _ _ _ _ _ _ = true from h2) rfl
  refine ⟨em, e1, (Array.getElem?_eq_some_iff.mp e3).1, fun D cy b0 hK => ⟨cell, e3, ?_, ?_, fun q hq => by rw [hq] at e5; cases e5⟩⟩
  · simp only [Term.eval, Option.bind_eq_bind] at e7 e1
    rw [e1] at e7
    simp only [Option.bind_some] at e7
    cases ha : s.arrayAt? em with
    | none => rw [ha] at e7; cases e7
    | some cell2 =>
      obtain ⟨a1, -⟩ := State.arrayAt?_spec ha
      rw [e3] at a1
      cases a1
      rw [ha] at e7
      simp only [Option.bind_some] at e7
      by_cases hsz : cell.slots.size < 2 ^ 31
      · rw [if_pos hsz] at e7
        have e8 : cell.slots.size.toInt32 = (0 : Int32) := by
          injection e7 with e7
          injection e7
        have e9 := congrArg Int32.toInt e8
        rw [show cell.slots.size.toInt32 = Int32.ofInt (cell.slots.size : Int) from rfl, Int32.toInt_ofInt_of_le (by omega) (by omega)] at e9
        have : (0 : Int32).toInt = 0 := rfl
        omega
      · rw [if_neg hsz] at e7
        cases e7
  · obtain ⟨-, kA, comp, -, -, -, e8⟩ := hK.2 3 (cy 3, .object "java/lang/Object") rfl
    rw [e6]
    have : some c = some (cy 3) := e2.symm.trans e8
    exact Option.some.inj this

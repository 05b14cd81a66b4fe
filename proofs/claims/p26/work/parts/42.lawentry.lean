/-! what holds at the law's entry -/
theorem z_baseD {s : State} {args : Array Value} (hts : ∀ w ∈ lw_G, w.before args s = true) : ∃ D : va_G, ∀ (c : Nat) (q : vw_C), vwCl[c]? = some q → u_Kn s q.1 q.2.1 q.2.2 (D.1 c) (D.2 c) := by
  obtain ⟨c0, i0, h0⟩ := u_known hts zC_1.2.1 (hts _ qw_44)
  obtain ⟨c1, i1, h1⟩ := u_known hts zC_2.2.1 (hts _ qw_70)
  obtain ⟨c2, i2, h2⟩ := u_known hts zC_4.2.1 (hts _ qw_456)
  obtain ⟨c3, i3, h3⟩ := u_known hts zC_3.2.1 (hts _ qw_76)
  obtain ⟨c4, i4, h4⟩ := u_known hts zC_5.2.1 (hts _ qw_591)
  obtain ⟨c5, i5, h5⟩ := u_known hts zC_0.2.1 (hts _ qw_36)
  refine ⟨(fun c => match c with | 0 => c0 | 1 => c1 | 2 => c2 | 3 => c3 | 4 => c4 | _ => c5, fun c => match c with | 0 => i0 | 1 => i1 | 2 => i2 | 3 => i3 | 4 => i4 | _ => i5), fun c q hq => ?_⟩
  match c, hq with
  | 0, hq => cases hq; exact h0
  | 1, hq => cases hq; exact h1
  | 2, hq => cases hq; exact h2
  | 3, hq => cases hq; exact h3
  | 4, hq => cases hq; exact h4
  | 5, hq => cases hq; exact h5
  | n + 6, hq => simp at hq
theorem z_baseN {s : State} {args : Array Value} (hts : ∀ w ∈ lw_tbl, w.before args s = true) : zNs s := ⟨va_Nw.of rfl (hts _ qr_71), va_Nw.of rfl (hts _ qr_77), va_Nw.of rfl (hts _ qr_122)⟩
theorem z_baseA {s : State} {args : Array Value} {ty : FieldType} (hne : ∀ C, ty ≠ .object C) (h : (Cond.arrayClass ty).before args s = true) : ∃ cA : ClassId, ArrOfT s cA ty ∧ va_RA s cA ty := by
  obtain ⟨c, k, comp, h1, h2, h3⟩ := Cond.arrayClass_spec h
  refine ⟨c, fun n z => ⟨fun k h => (by cases h), k, h2, comp, h3⟩, ?_⟩
  cases ty with
  | object C => exact absurd rfl (hne C)
  | _ => exact h1
theorem z_baseO {s : State} (h : va_AO "java/lang/Object" s) : ∃ cA : ClassId, ArrOfT s cA (.object "java/lang/Object") ∧ va_RA s cA (.object "java/lang/Object") := by
  obtain ⟨comp, c, k, h1, h2, h3, h4, h5⟩ := Cond.arrayOver_spec h
  exact ⟨c, fun n z => ⟨fun k h => (by cases h), k, h3, comp, h4⟩, k, comp, h3, h4, h1, h5⟩
theorem z_baseK {s : State} {args : Array Value} (hts : ∀ w ∈ lw_G, w.before args s = true) (hO : va_AO "java/lang/Object" s) : ∃ (D : va_G) (cy : Nat → ClassId), ∀ b0 em : Nat, va_K D vwCl (z_tys (D, cy, b0, em)) s := by
  obtain ⟨D, hD⟩ := z_baseD hts
  obtain ⟨cI, aI⟩ := z_baseA (ty := .int) (fun _ h => by cases h) (hts _ qw_99)
  obtain ⟨cO, aO⟩ := z_baseO hO
  refine ⟨D, (fun k => match k with | 0 => cI | 1 => cI | 2 => cI | _ => cO), fun b0 em => ⟨hD, fun k q hq => ?_⟩⟩
  match k, hq with
  | 0, hq => cases hq; exact aI
  | 1, hq => cases hq; exact aI
  | 2, hq => cases hq; exact aI
  | 3, hq => cases hq; exact aO
  | n + 4, hq => simp at hq

/-! MAKING: objects that come, lists that grow -/
theorem zW_at {X : zC} {N : zN} {g : zG} {H : Heap} (h : zW X N g H) {k i : Nat} (hE : zE N k i) : va_at X.1 vwCl (N.1 k i, z_cell X N g k i) H := by
  obtain ⟨q0, -, hq⟩ := z_place (X := X) (g := g) hE
  exact h.1 q0 _ hq
theorem zW_A {X : zC} {N : zN} {g : zG} {H : Heap} (h : zW X N g H) {k i : Nat} (hE : zE N k i) : zA X (N.1 k i) := by
  obtain ⟨q0, -, hq⟩ := z_place (X := X) (g := g) hE
  exact h.2.1.2 q0 _ hq
theorem zW_inj {X : zC} {N : zN} {g : zG} {H : Heap} (h : zW X N g H) {k i k' i' : Nat} (hE : zE N k i) (hE' : zE N k' i') (e : N.1 k i = N.1 k' i') : k = k' ∧ i = i' := by
  obtain ⟨q0, hr, hq⟩ := z_place (X := X) (g := g) hE
  obtain ⟨q1, hr', hq'⟩ := z_place (X := X) (g := g) hE'
  have e2 := h.2.1.1 q0 q1 _ _ hq hq' e
  subst e2
  cases hr.symm.trans hr'
  exact ⟨rfl, rfl⟩
theorem z_roles_nodup (n : Nat → Nat) : (z_roles n).Nodup := by
  unfold z_roles
  refine List.Pairwise.filter _ ?_
  rw [List.pairwise_flatMap]
  refine ⟨fun k _ => ?_, ?_⟩
  · rw [List.pairwise_map]
    exact List.Pairwise.imp (fun h e => h (Prod.mk.inj e).2) (List.nodup_range (n := 32))
  · refine List.Pairwise.imp (fun {a b} h x hx y hy e => ?_) (List.nodup_range (n := 42))
    obtain ⟨i, -, rfl⟩ := List.mem_map.mp hx
    obtain ⟨j, -, rfl⟩ := List.mem_map.mp hy
    exact h (Prod.mk.inj e).1
theorem z_mk {X : zC} {N : zN} {g : zG} {H : Heap} (hat : ∀ k i, zE N k i → va_at X.1 vwCl (N.1 k i, z_cell X N g k i) H) (hinj : ∀ k i k' i', zE N k i → zE N k' i' → N.1 k i = N.1 k' i' → k = k' ∧ i = i') (hA : ∀ k i, zE N k i → zA X (N.1 k i)) : va_P X.1 vwCl (z_pool X N g) H ∧ va_D (zA X) (z_pool X N g) := by
  have key : ∀ (j : Nat) (q : Nat × va_E), (z_pool X N g)[j]? = some q → ∃ r : Nat × Nat, (z_roles N.2)[j]? = some r ∧ q = (N.1 r.1 r.2, z_cell X N g r.1 r.2) := by
    intro j q hq
    unfold z_pool at hq
    rw [List.getElem?_map] at hq
    cases hr : (z_roles N.2)[j]? with
    | none => rw [hr] at hq; cases hq
    | some r => rw [hr] at hq; exact ⟨r, rfl, (Option.some.inj hq).symm⟩
  refine ⟨fun j q hq => ?_, fun a b x y hx hy hxy => ?_, fun j q hq => ?_⟩
  · obtain ⟨r, hr, rfl⟩ := key j q hq
    exact hat r.1 r.2 (List.mem_of_getElem? hr)
  · obtain ⟨r, hr, rfl⟩ := key a x hx
    obtain ⟨r', hr', rfl⟩ := key b y hy
    obtain ⟨e1, e2⟩ := hinj r.1 r.2 r'.1 r'.2 (List.mem_of_getElem? hr) (List.mem_of_getElem? hr') hxy
    have e3 : r = r' := Prod.ext e1 e2
    subst e3
    exact ((List.getElem?_inj (List.getElem?_eq_some_iff.mp hr).1 (z_roles_nodup N.2)).mp (hr.trans hr'.symm))
  · obtain ⟨r, hr, rfl⟩ := key j q hq
    exact hA r.1 r.2 (List.mem_of_getElem? hr)
/-- the old cells of a heap that another one holds too -/
theorem zW_cellN {X : zC} {N N' : zN} {g : zG} {k i : Nat} (hz : zSz N g) (hE : zE N k i) (h1 : ∀ k i, zE N k i → N'.1 k i = N.1 k i) (h2 : ∀ q : Nat, q < 4 → N'.2 q = N.2 q) : z_cell X N' g k i = z_cell X N g k i := by
  obtain ⟨hk, hi, hx⟩ := zE_iff.mp hE
  obtain ⟨-, -, z3, z4, -, -, -, -, z9, z10⟩ := hz
  have hf : ∀ k i, zE N k i → z_r N' k i = z_r N k i := fun k i h => by show Value.ref _ = Value.ref _; rw [h1 k i h]
  unfold z_cell
  by_cases c1 : k < 10
  · rw [if_pos c1, if_pos c1]
    congr 2
    match k, hk, hE, hx, c1 with
    | 0, _, _, _, _ => simp only [z_obj, hf 1 0 zEf_1_0, hf 1 1 zEf_1_1, hf 2 0 zEf_2_0, hf 3 2 zEf_3_2]
    | 1, _, _, hx, _ =>
      have hi2 : i < 2 := by simpa [z_ex] using hx
      have e2 : N'.2 (2 + i) = N.2 (2 + i) := h2 _ (by omega)
      simp only [z_obj, e2]
      by_cases c2 : N.2 (2 + i) = 0
      · rw [if_pos c2, if_pos c2]
      · rw [if_neg c2, if_neg c2, hf 16 i (zE_iff.mpr ⟨by decide, by omega, by simp [z_ex, hi2, c2]⟩)]
    | 2, _, _, _, _ => simp only [z_obj, hf 3 0 zEf_3_0, hf 3 1 zEf_3_1]
    | 3, _, hE, _, _ => simp only [z_obj, hf 10 i (zE_ln hE).1, hf 11 i (zE_ln hE).2.1, hf 12 i (zE_ln hE).2.2.1, hf 13 i (zE_ln hE).2.2.2]
    | 4, _, hE, _, _ => simp only [z_obj, hf 14 i (zE_fl2 hE).1, hf 15 i (zE_fl2 hE).2]
    | 5, _, _, _, _ => simp only [z_obj]
    | 6, _, _, hx, _ => simp [z_ex] at hx
    | 7, _, _, hx, _ => simp [z_ex] at hx
    | 8, _, _, hx, _ => simp [z_ex] at hx
    | 9, _, _, hx, _ => simp [z_ex] at hx
  · rw [if_neg c1, if_neg c1]
    by_cases c2 : k = 16
    · rw [if_pos c2, if_pos c2]
      subst c2
      have hi2 : i < 2 ∧ N.2 (2 + i) ≠ 0 := by simpa [z_ex] using hx
      have e2 : N'.2 (2 + i) = N.2 (2 + i) := h2 _ (by omega)
      have e3 : N'.2 i = N.2 i := h2 _ (by omega)
      have e4 : (fun j => if j < N'.2 i then some (N'.1 (4 + i) j) else none) = (fun j => if j < N.2 i then some (N.1 (4 + i) j) else none) := by
        funext j
        rw [e3]
        by_cases c3 : j < N.2 i
        · rw [if_pos c3, if_pos c3]
          have hE4 : zE N (4 + i) j := by
            have h01 : i = 0 ∨ i = 1 := by omega
            rcases h01 with rfl | rfl
            · exact zE_iff.mpr ⟨by decide, by omega, by simp [z_ex]; omega⟩
            · exact zE_iff.mpr ⟨by decide, by omega, by simp [z_ex]; omega⟩
          rw [h1 _ _ hE4]
        · rw [if_neg c3, if_neg c3]
      rw [e2, e4]
    · rw [if_neg c2, if_neg c2]
/-- the world with another numbering of the same roles, or fewer -/
theorem zW_sub {X : zC} {N N' : zN} {g : zG} {H : Heap} (h : zW X N' g H) (hz : zSz N g) (hr : ∀ k i, zE N k i → zE N' k i) (h1 : ∀ k i, zE N k i → N'.1 k i = N.1 k i) (h2 : ∀ q : Nat, q < 4 → N'.2 q = N.2 q) : zW X N g H := by
  have hP := z_mk (X := X) (N := N) (g := g) (H := H) (fun k i hE => by
    have := zW_at h (hr k i hE)
    rw [h1 k i hE, zW_cellN hz hE h1 h2] at this
    exact this) (fun k i k' i' hE hE' e => zW_inj h (hr k i hE) (hr k' i' hE') (by rw [h1 k i hE, h1 k' i' hE']; exact e)) (fun k i hE => by rw [← h1 k i hE]; exact zW_A h (hr k i hE))
  exact ⟨hP.1, hP.2, hz, h.2.2.2⟩

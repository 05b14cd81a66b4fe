/-! the world at the law's start -/
theorem z_roles0 : z_roles (fun _ => 0) = [(0, 0), (1, 0), (1, 1), (2, 0), (3, 0), (3, 1), (3, 2), (10, 0), (10, 1), (10, 2), (11, 0), (11, 1), (11, 2), (12, 0), (12, 1), (12, 2), (13, 0), (13, 1), (13, 2), (17, 0)] := by decide +kernel
def zN0 (b q : Nat) (u : Nat → Nat) : zN := (fun k i => if k = 0 then b else if k = 1 then u i else if k = 2 then u 2 else if k = 3 then u (3 + 5 * i) else if k = 17 then q else u (4 + 5 * i + (k - 10)), fun _ => 0)
def zg0 : zG := fun _ _ _ => 0
def z_ix (r : Nat × Nat) : Nat := if r.1 = 0 then 0 else if r.1 = 1 then 1 + r.2 else if r.1 = 2 then 3 else if r.1 = 3 then 4 + 5 * r.2 else if r.1 = 17 then 19 else 5 + 5 * r.2 + (r.1 - 10)
theorem z_ix_inj : ∀ a ∈ [(0, 0), (1, 0), (1, 1), (2, 0), (3, 0), (3, 1), (3, 2), (10, 0), (10, 1), (10, 2), (11, 0), (11, 1), (11, 2), (12, 0), (12, 1), (12, 2), (13, 0), (13, 1), (13, 2), (17, 0)], ∀ b ∈ [(0, 0), (1, 0), (1, 1), (2, 0), (3, 0), (3, 1), (3, 2), (10, 0), (10, 1), (10, 2), (11, 0), (11, 1), (11, 2), (12, 0), (12, 1), (12, 2), (13, 0), (13, 1), (13, 2), (17, 0)], z_ix a = z_ix b → a = b := by decide +kernel
def z_L0 (X : zC) (b q : Nat) (u : Nat → Nat) : va_W := pc_In_SkyloadBureau X b u ++ [(q, .inl (X.2.1 0, 3, .inl (fun _ => Int32.ofInt 0)))]
set_option maxHeartbeats 4000000 in
set_option maxRecDepth 100000 in
theorem z_key0 {X : zC} {b q : Nat} {u : Nat → Nat} : ∀ r ∈ [(0, 0), (1, 0), (1, 1), (2, 0), (3, 0), (3, 1), (3, 2), (10, 0), (10, 1), (10, 2), (11, 0), (11, 1), (11, 2), (12, 0), (12, 1), (12, 2), (13, 0), (13, 1), (13, 2), (17, 0)], (z_L0 X b q u)[z_ix r]? = some ((zN0 b q u).1 r.1 r.2, z_cell X (zN0 b q u) zg0 r.1 r.2) := by
  intro r hr
  simp only [List.mem_cons, List.not_mem_nil, or_false] at hr
  rcases hr with rfl | rfl | rfl | rfl | rfl | rfl | rfl | rfl | rfl | rfl | rfl | rfl | rfl | rfl | rfl | rfl | rfl | rfl | rfl | rfl
  all_goals exact rfl
set_option maxHeartbeats 4000000 in
theorem z_start {X : zC} {H : Heap} {b q : Nat} {u : Nat → Nat} (hP : va_P X.1 vwCl (z_L0 X b q u) H) (hD : va_D (zA X) (z_L0 X b q u)) (h1 : X.2.2.2 < X.2.2.1) (h2 : X.2.2.1 ≤ H.size) (h3 : zEm X H) : zW X (zN0 b q u) zg0 H ∧ zNp (zN0 b q u) := by
  have hmem : ∀ k i, zE (zN0 b q u) k i → (k, i) ∈ [(0, 0), (1, 0), (1, 1), (2, 0), (3, 0), (3, 1), (3, 2), (10, 0), (10, 1), (10, 2), (11, 0), (11, 1), (11, 2), (12, 0), (12, 1), (12, 2), (13, 0), (13, 1), (13, 2), (17, 0)] := by
    intro k i h
    rw [← z_roles0]
    exact h
  have hm := z_mk (X := X) (N := zN0 b q u) (g := zg0) (H := H) (fun k i h => hP _ _ (z_key0 _ (hmem k i h))) (fun k i k' i' h h' e => by
    have e1 := hD.1 _ _ _ _ (z_key0 _ (hmem k i h)) (z_key0 _ (hmem k' i' h')) e
    exact Prod.mk.inj (z_ix_inj _ (hmem k i h) _ (hmem k' i' h') e1)) (fun k i h => hD.2 _ _ (z_key0 _ (hmem k i h)))
  exact ⟨⟨hm.1, hm.2, ⟨rfl, rfl, Nat.le_refl 0, Nat.le_refl 0, Nat.le_refl 0, Nat.le_refl 0, Nat.zero_le 40, Nat.zero_le 40, Nat.zero_le 30, Nat.zero_le 30⟩, h1, h2, h3⟩, rfl, rfl, Or.inl rfl⟩

/-! THE WORLD: all objects of the class, and the law's row, by role (kind, index); what they hold by kind, index, place, as whole numbers -/
abbrev zG : Type := Nat → Nat → Nat → Int
abbrev zC : Type := va_G × (Nat → ClassId) × Nat × Nat
abbrev zN : Type := (Nat → Nat → Nat) × (Nat → Nat)
abbrev zIn (x : Int) : Prop := -2147483648 ≤ x ∧ x ≤ 2147483647
abbrev z_v (x : Int) : Value := .int (Int32.ofInt x)
abbrev z_r (N : zN) (k i : Nat) : Value := .ref (N.1 k i)
def zup (g : zG) (k i p : Nat) (v : Int) : zG := fun a b c => if a = k ∧ b = i ∧ c = p then v else g a b c
def z_len (k : Nat) : Nat := if k < 14 then 24 else if k < 16 then 6 else 3
def z_ci (k : Nat) : Nat := match k with
  | 0 => 5
  | 1 => 0
  | 2 => 1
  | 3 => 3
  | 4 => 2
  | 5 => 4
  | _ => 6
def z_obj (X : zC) (N : zN) (g : zG) (k i : Nat) : List Value := match k with
  | 0 => [z_r N 1 0, z_r N 1 1, z_r N 2 0, z_r N 3 2]
  | 1 => [z_v (g k i 0), (if N.2 (2 + i) = 0 then .ref X.2.2.2 else z_r N 16 i), z_v (g k i 2)]
  | 2 => [z_r N 3 0, z_r N 3 1, z_v (g k i 2), z_v (g k i 3), z_v (g k i 4)]
  | 3 => [z_r N 10 i, z_r N 11 i, z_r N 12 i, z_r N 13 i, z_v (g k i 4)]
  | 4 => [z_v (g k i 0), z_v (g k i 1), z_v (g k i 2), z_v (g k i 3), z_v (g k i 4), z_v (g k i 5), z_v (g k i 6), z_v (g k i 7), z_v (g k i 8), z_v (g k i 9), z_r N 14 i, z_r N 15 i, z_v (g k i 12), z_v (g k i 13)]
  | 5 => [z_v (g k i 0), z_v (g k i 1), z_v (g k i 2), z_v (g k i 3), z_v (g k i 4)]
  | _ => []
def z_cell (X : zC) (N : zN) (g : zG) (k i : Nat) : va_E :=
  if k < 10 then .inr (z_ci k, z_obj X N g k i)
  else if k = 16 then .inl (X.2.1 3, N.2 (2 + i), .inr (.inr (.inr (.inr (fun j => if j < N.2 i then some (N.1 (4 + i) j) else none)))))
  else .inl (X.2.1 0, z_len k, .inl (fun j => Int32.ofInt (g k i j)))
def z_ex (n : Nat → Nat) (k i : Nat) : Bool :=
  if k = 1 then decide (i < 2)
  else if k = 3 ∨ (10 ≤ k ∧ k ≤ 13) then decide (i < 3)
  else if k = 4 ∨ k = 14 ∨ k = 15 then decide (i < n 7)
  else if k = 5 then decide (i < n 8)
  else if k = 16 then decide (i < 2 ∧ n (2 + i) ≠ 0)
  else decide ((k = 0 ∨ k = 2 ∨ k = 17) ∧ i = 0)
def z_roles (n : Nat → Nat) : List (Nat × Nat) := ((List.range 42).flatMap fun k => (List.range 32).map fun i => (k, i)).filter fun r => z_ex n r.1 r.2
abbrev zE (N : zN) (k i : Nat) : Prop := (k, i) ∈ z_roles N.2
def z_pool (X : zC) (N : zN) (g : zG) : va_W := (z_roles N.2).map fun r => (N.1 r.1 r.2, z_cell X N g r.1 r.2)
abbrev zA (X : zC) : Nat → Prop := fun q => X.2.2.1 ≤ q
abbrev z_tys (X : zC) : List (ClassId × FieldType) := [(X.2.1 0, .int), (X.2.1 0, .int), (X.2.1 0, .int), (X.2.1 3, .object "java/lang/Object")]
/-- the numbers that the lists keep are those of the objects -/
def zSz (N : zN) (g : zG) : Prop := g 1 0 2 = (N.2 0 : Int) ∧ g 1 1 2 = (N.2 1 : Int) ∧ N.2 0 ≤ N.2 7 ∧ N.2 1 ≤ N.2 8 ∧ N.2 0 ≤ N.2 2 ∧ N.2 1 ≤ N.2 3 ∧ N.2 2 ≤ 40 ∧ N.2 3 ≤ 40 ∧ N.2 7 ≤ 30 ∧ N.2 8 ≤ 30
/-- the JDK's empty row of a list's elements -/
def zEm (X : zC) (H : Heap) : Prop := ∃ cell : Cell, H[X.2.2.2]? = some cell ∧ cell.slots.size = 0 ∧ cell.cls = X.2.1 3 ∧ ∀ k, cell.vm ≠ .statics k
theorem zEm.kept {X : zC} {H H1 : Heap} (h : zEm X H) (hq : H1[X.2.2.2]? = H[X.2.2.2]?) : zEm X H1 := by
  obtain ⟨cell, h1, h2⟩ := h
  exact ⟨cell, hq.trans h1, h2⟩
def zW (X : zC) (N : zN) (g : zG) (H : Heap) : Prop :=
  va_P X.1 vwCl (z_pool X N g) H ∧ va_D (zA X) (z_pool X N g) ∧ zSz N g ∧ X.2.2.2 < X.2.2.1 ∧ X.2.2.1 ≤ H.size ∧ zEm X H
theorem zE_iff {N : zN} {k i : Nat} : zE N k i ↔ k < 42 ∧ i < 32 ∧ z_ex N.2 k i = true := by
  unfold zE z_roles
  rw [List.mem_filter, List.mem_flatMap]
  constructor
  · rintro ⟨⟨a, ha, h⟩, hx⟩
    obtain ⟨b, hb, he⟩ := List.mem_map.mp h
    cases he
    exact ⟨List.mem_range.mp ha, List.mem_range.mp hb, hx⟩
  · rintro ⟨h1, h2, h3⟩
    exact ⟨⟨k, List.mem_range.mpr h1, List.mem_map.mpr ⟨i, List.mem_range.mpr h2, rfl⟩⟩, h3⟩
theorem z_place {X : zC} {N : zN} {g : zG} {k i : Nat} (h : zE N k i) : ∃ q0 : Nat, (z_roles N.2)[q0]? = some (k, i) ∧ (z_pool X N g)[q0]? = some (N.1 k i, z_cell X N g k i) := by
  obtain ⟨q0, hq⟩ := List.getElem?_of_mem h
  refine ⟨q0, hq, ?_⟩
  unfold z_pool
  rw [List.getElem?_map, hq]
  rfl
theorem z_pool_set {X : zC} {N : zN} {g g' : zG} {k i q0 : Nat} {e : va_E} {A : Nat → Prop} (hD : va_D A (z_pool X N g)) (hq : (z_roles N.2)[q0]? = some (k, i)) (he : z_cell X N g' k i = e)
    (ho : ∀ k' i' : Nat, ¬ (k' = k ∧ i' = i) → z_cell X N g' k' i' = z_cell X N g k' i') : (z_pool X N g).set q0 (N.1 k i, e) = z_pool X N g' := by
  have hpl : ∀ (gg : zG) (j : Nat) (r : Nat × Nat), (z_roles N.2)[j]? = some r → (z_pool X N gg)[j]? = some (N.1 r.1 r.2, z_cell X N gg r.1 r.2) := by
    intro gg j r hr
    unfold z_pool
    rw [List.getElem?_map, hr]
    rfl
  apply List.ext_getElem?
  intro j
  by_cases hj : j = q0
  · subst hj
    have hlt : j < (z_pool X N g).length := (List.getElem?_eq_some_iff.mp (hpl g j _ hq)).1
    rw [List.getElem?_set_self hlt, hpl g' j _ hq, he]
  · rw [List.getElem?_set_ne (Ne.symm hj)]
    cases hr : (z_roles N.2)[j]? with
    | none =>
      unfold z_pool
      rw [List.getElem?_map, List.getElem?_map, hr]
      rfl
    | some r =>
      have hne : ¬ (r.1 = k ∧ r.2 = i) := by
        intro h
        refine hj (hD.1 j q0 _ _ (hpl g j r hr) (hpl g q0 _ hq) ?_)
        rw [h.1, h.2]
      rw [hpl g j r hr, hpl g' j r hr, ho _ _ hne]
theorem z_obj_congr {X : zC} {N : zN} {g g' : zG} {k i : Nat} (h : ∀ p, g' k i p = g k i p) : z_obj X N g' k i = z_obj X N g k i := by
  unfold z_obj
  split <;> simp only [h]
theorem z_cell_congr {X : zC} {N : zN} {g g' : zG} {k i : Nat} (h : ∀ p, g' k i p = g k i p) : z_cell X N g' k i = z_cell X N g k i := by
  unfold z_cell
  rw [z_obj_congr h]
  simp only [h]
theorem zup_other {g : zG} {k i p k' i' p' : Nat} {v : Int} (h : ¬ (k' = k ∧ i' = i)) : zup g k i p v k' i' p' = g k' i' p' := by
  unfold zup
  rw [if_neg (fun q => h ⟨q.1, q.2.1⟩)]
theorem zup_self {g : zG} {k i p : Nat} {v : Int} : zup g k i p v k i p = v := by simp [zup]
theorem zup_place {g : zG} {k i p p' : Nat} {v : Int} (h : p' ≠ p) : zup g k i p v k i p' = g k i p' := by simp [zup, h]
theorem zSz_up {N : zN} {g : zG} {k i p : Nat} {v : Int} (h : zSz N g) (hk : ¬ (k = 1 ∧ p = 2)) : zSz N (zup g k i p v) := by
  obtain ⟨h1, h2, h3⟩ := h
  refine ⟨?_, ?_, h3⟩
  · unfold zup
    rw [if_neg (fun q => hk ⟨q.1.symm, q.2.2.symm⟩)]
    exact h1
  · unfold zup
    rw [if_neg (fun q => hk ⟨q.1.symm, q.2.2.symm⟩)]
    exact h2
theorem zE_fl {N : zN} {g : zG} {i : Nat} (h : zSz N g) (hi : i < N.2 0) : zE N 4 i := by
  obtain ⟨-, -, h3, -, -, -, -, -, h9, -⟩ := h
  have h1 : i < N.2 7 := by omega
  exact zE_iff.mpr ⟨by decide, by omega, by simp [z_ex, h1]⟩
theorem zE_fl2 {N : zN} {i : Nat} (h : zE N 4 i) : zE N 14 i ∧ zE N 15 i := by
  obtain ⟨h1, h2, h3⟩ := zE_iff.mp h
  have h3 : i < N.2 7 := by simpa [z_ex] using h3
  exact ⟨zE_iff.mpr ⟨by decide, h2, by simp [z_ex, h3]⟩, zE_iff.mpr ⟨by decide, h2, by simp [z_ex, h3]⟩⟩
theorem zE_rg {N : zN} {g : zG} {i : Nat} (h : zSz N g) (hi : i < N.2 1) : zE N 5 i := by
  obtain ⟨-, -, -, h4, -, -, -, -, -, h10⟩ := h
  have h1 : i < N.2 8 := by omega
  exact zE_iff.mpr ⟨by decide, by omega, by simp [z_ex, h1]⟩
theorem zE_ln {N : zN} {i : Nat} (h : zE N 3 i) : zE N 10 i ∧ zE N 11 i ∧ zE N 12 i ∧ zE N 13 i := by
  obtain ⟨h1, h2, h3⟩ := zE_iff.mp h
  have h3 : i < 3 := by simpa [z_ex] using h3
  exact ⟨zE_iff.mpr ⟨by decide, h2, by simp [z_ex, h3]⟩, zE_iff.mpr ⟨by decide, h2, by simp [z_ex, h3]⟩, zE_iff.mpr ⟨by decide, h2, by simp [z_ex, h3]⟩, zE_iff.mpr ⟨by decide, h2, by simp [z_ex, h3]⟩⟩
theorem zE_fix {N : zN} {k i : Nat} (h : (decide (k < 42) && decide (i < 32) && (z_ex (fun _ => 0) k i && (k != 4 && k != 14 && k != 15 && k != 5 && k != 16))) = true) : zE N k i := by
  simp only [Bool.and_eq_true, decide_eq_true_eq, bne_iff_ne] at h
  obtain ⟨⟨h1, h2⟩, h3, ⟨⟨⟨h4, h5⟩, h6⟩, h7⟩, h8⟩ := h
  refine zE_iff.mpr ⟨h1, h2, ?_⟩
  rw [← h3]
  unfold z_ex
  simp [h4, h5, h6, h7, h8]
/-! choices, as the law of a program over whole numbers tells them: none, where a number is out of the machine's range, or the machine would throw -/
def zlt {α : Type} (x y : Int) (a b : Option α) : Option α := if zIn x ∧ zIn y then (if x < y then a else b) else none
def zle {α : Type} (x y : Int) (a b : Option α) : Option α := if zIn x ∧ zIn y then (if x ≤ y then a else b) else none
def zeq {α : Type} (x y : Int) (a b : Option α) : Option α := if zIn x ∧ zIn y then (if x = y then a else b) else none
def zix {α : Type} (j : Int) (n : Nat) (k : Option α) : Option α := if 0 ≤ j ∧ j < (n : Int) then k else none
def zli {α : Type} (j n : Int) (k : Option α) : Option α := if 0 ≤ j ∧ j < n then k else none
def zdv {α : Type} (x y : Int) (k : Option α) : Option α := if zIn x ∧ zIn y ∧ y ≠ 0 then k else none
def zbo {α : Type} (x : Int) (k : Option α) : Option α := if x = 0 ∨ x = 1 then k else none
def zri {α : Type} (x : Int) (k : Option α) : Option α := if zIn x then k else none
def zbd {α β : Type} (a : Option (α × zG)) (f : α → zG → Option β) : Option β := match a with
  | none => none
  | some o => f o.1 o.2
theorem zbd_some {α β : Type} {a : Option (α × zG)} {f : α → zG → Option β} {o : β} (h : zbd a f = some o) : ∃ (r : α) (g : zG), a = some (r, g) ∧ f r g = some o := by
  unfold zbd at h
  split at h
  · cases h
  · rename_i q
    exact ⟨q.1, q.2, rfl, h⟩
theorem z_inj {x y : Int} (hx : zIn x) (hy : zIn y) : Int32.ofInt x = Int32.ofInt y ↔ x = y := by
  constructor
  · intro h
    have h1 := congrArg Int32.toInt h
    rw [Int32.toInt_ofInt_of_le (by omega) (by omega), Int32.toInt_ofInt_of_le (by omega) (by omega)] at h1
    exact h1
  · intro h
    rw [h]
theorem z_lt {x y : Int} (hx : zIn x) (hy : zIn y) : Int32.ofInt x < Int32.ofInt y ↔ x < y := by
  rw [Int32.lt_iff_toInt_lt, Int32.toInt_ofInt_of_le (by omega) (by omega), Int32.toInt_ofInt_of_le (by omega) (by omega)]
theorem z_le {x y : Int} (hx : zIn x) (hy : zIn y) : Int32.ofInt x ≤ Int32.ofInt y ↔ x ≤ y := by
  rw [Int32.le_iff_toInt_le, Int32.toInt_ofInt_of_le (by omega) (by omega), Int32.toInt_ofInt_of_le (by omega) (by omega)]
theorem z_vin {j : Int} {n : Nat} (hn : n < 2147483648) (h : 0 ≤ j ∧ j < (n : Int)) : vp_in (Int32.ofInt j) n ∧ (Int32.ofInt j).toNatClampNeg = j.toNat := by
  have h1 : (Int32.ofInt j).toInt = j := Int32.toInt_ofInt_of_le (by omega) (by omega)
  refine ⟨vp_in_iff.mpr (by rw [h1]; omega), ?_⟩
  rw [← Int32.toNat_toInt, h1]

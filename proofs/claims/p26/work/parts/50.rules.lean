/-! programs over whole numbers: that they answer, and what -/
def zT {α : Type} (o : Option (α × zG)) (P : α → zG → Prop) : Prop := ∃ (r : α) (g : zG), o = some (r, g) ∧ P r g
section ZT
variable {α β : Type} {P : α → zG → Prop}
theorem zT_some {r : α} {g : zG} (h : P r g) : zT (some (r, g)) P := ⟨r, g, rfl, h⟩
theorem zT_mono {o : Option (α × zG)} {Q : α → zG → Prop} (h : zT o Q) (k : ∀ r g, Q r g → P r g) : zT o P := by
  obtain ⟨r, g, e, q⟩ := h
  exact ⟨r, g, e, k r g q⟩
theorem zT_bd {a : Option (β × zG)} {f : β → zG → Option (α × zG)} (h : zT a (fun r g => zT (f r g) P)) : zT (zbd a f) P := by
  obtain ⟨r, g, e, q⟩ := h
  rw [e]
  exact q
theorem zT_bdm {a : Option (β × zG)} {f : β → zG → Option (α × zG)} {Q : β → zG → Prop} (h : zT a Q) (k : ∀ r g, Q r g → zT (f r g) P) : zT (zbd a f) P := zT_bd (zT_mono h k)
theorem zT_bde {a : Option (β × zG)} {f : β → zG → Option (α × zG)} {r : β} {g : zG} (e : a = some (r, g)) (h : zT (f r g) P) : zT (zbd a f) P := by
  rw [e]
  exact h
theorem zT_lt {x y : Int} {a b : Option (α × zG)} (hi : (-2147483648 ≤ x ∧ x ≤ 2147483647) ∧ (-2147483648 ≤ y ∧ y ≤ 2147483647)) (h1 : x < y → zT a P) (h2 : y ≤ x → zT b P) : zT (zlt x y a b) P := by
  unfold zlt
  rw [if_pos hi]
  by_cases c : x < y
  · rw [if_pos c]; exact h1 c
  · rw [if_neg c]; exact h2 (by omega)
theorem zT_le {x y : Int} {a b : Option (α × zG)} (hi : (-2147483648 ≤ x ∧ x ≤ 2147483647) ∧ (-2147483648 ≤ y ∧ y ≤ 2147483647)) (h1 : x ≤ y → zT a P) (h2 : y < x → zT b P) : zT (zle x y a b) P := by
  unfold zle
  rw [if_pos hi]
  by_cases c : x ≤ y
  · rw [if_pos c]; exact h1 c
  · rw [if_neg c]; exact h2 (by omega)
theorem zT_eq {x y : Int} {a b : Option (α × zG)} (hi : (-2147483648 ≤ x ∧ x ≤ 2147483647) ∧ (-2147483648 ≤ y ∧ y ≤ 2147483647)) (h1 : x = y → zT a P) (h2 : x ≠ y → zT b P) : zT (zeq x y a b) P := by
  unfold zeq
  rw [if_pos hi]
  by_cases c : x = y
  · rw [if_pos c]; exact h1 c
  · rw [if_neg c]; exact h2 c
theorem zT_ltT {x y : Int} {a b : Option (α × zG)} (hi : x < y ∧ (-2147483648 ≤ x ∧ x ≤ 2147483647) ∧ (-2147483648 ≤ y ∧ y ≤ 2147483647)) (h1 : zT a P) : zT (zlt x y a b) P := zT_lt hi.2 (fun _ => h1) (fun z => by omega)
theorem zT_ltF {x y : Int} {a b : Option (α × zG)} (hi : y ≤ x ∧ (-2147483648 ≤ x ∧ x ≤ 2147483647) ∧ (-2147483648 ≤ y ∧ y ≤ 2147483647)) (h1 : zT b P) : zT (zlt x y a b) P := zT_lt hi.2 (fun z => by omega) (fun _ => h1)
theorem zT_leT {x y : Int} {a b : Option (α × zG)} (hi : x ≤ y ∧ (-2147483648 ≤ x ∧ x ≤ 2147483647) ∧ (-2147483648 ≤ y ∧ y ≤ 2147483647)) (h1 : zT a P) : zT (zle x y a b) P := zT_le hi.2 (fun _ => h1) (fun z => by omega)
theorem zT_leF {x y : Int} {a b : Option (α × zG)} (hi : y < x ∧ (-2147483648 ≤ x ∧ x ≤ 2147483647) ∧ (-2147483648 ≤ y ∧ y ≤ 2147483647)) (h1 : zT b P) : zT (zle x y a b) P := zT_le hi.2 (fun z => by omega) (fun _ => h1)
theorem zT_eqT {x y : Int} {a b : Option (α × zG)} (hi : x = y ∧ (-2147483648 ≤ x ∧ x ≤ 2147483647) ∧ (-2147483648 ≤ y ∧ y ≤ 2147483647)) (h1 : zT a P) : zT (zeq x y a b) P := zT_eq hi.2 (fun _ => h1) (fun z => by omega)
theorem zT_eqF {x y : Int} {a b : Option (α × zG)} (hi : x ≠ y ∧ (-2147483648 ≤ x ∧ x ≤ 2147483647) ∧ (-2147483648 ≤ y ∧ y ≤ 2147483647)) (h1 : zT b P) : zT (zeq x y a b) P := zT_eq hi.2 (fun z => absurd z hi.1) (fun _ => h1)
theorem zT_ix {j : Int} {n : Nat} {k : Option (α × zG)} (hj : 0 ≤ j ∧ j < (n : Int)) (h : zT k P) : zT (zix j n k) P := by
  unfold zix
  rw [if_pos hj]
  exact h
theorem zT_li {j n : Int} {k : Option (α × zG)} (hj : 0 ≤ j ∧ j < n) (h : zT k P) : zT (zli j n k) P := by
  unfold zli
  rw [if_pos hj]
  exact h
theorem zT_dv {x y : Int} {k : Option (α × zG)} (hi : y ≠ 0 ∧ (-2147483648 ≤ x ∧ x ≤ 2147483647) ∧ (-2147483648 ≤ y ∧ y ≤ 2147483647)) (h : zT k P) : zT (zdv x y k) P := by
  unfold zdv
  rw [if_pos ⟨hi.2.1, hi.2.2, hi.1⟩]
  exact h
theorem zT_bo {x : Int} {k : Option (α × zG)} (hi : x = 0 ∨ x = 1) (h : zT k P) : zT (zbo x k) P := by
  unfold zbo
  rw [if_pos hi]
  exact h
theorem zT_ri {x : Int} {k : Option (α × zG)} (hi : -2147483648 ≤ x ∧ x ≤ 2147483647) (h : zT k P) : zT (zri x k) P := by
  unfold zri
  rw [if_pos hi]
  exact h
theorem zT_st {g : zG} {k i q : Nat} {v : Int} {f : zG → Option (α × zG)} (h : zT (f (zup g k i q v)) P) : zT (zst g k i q v f) P := h
theorem zT_let {x : Int} {f : Int → Option (α × zG)} (h : zT (f x) P) : zT (zlet x f) P := h
theorem zT_eqn {o : Option (α × zG)} {v : α} {g : zG} (h : zT o (fun r g' => r = v ∧ g' = g)) : o = some (v, g) := by
  obtain ⟨r, g', e, rfl, rfl⟩ := h
  exact e
theorem zT_of {o : Option (α × zG)} {v : α} {g : zG} (h : o = some (v, g)) : zT o (fun r g' => r = v ∧ g' = g) := ⟨v, g, h, rfl, rfl⟩
theorem zT_bx {a : Option ((Nat × Int) × zG)} {f : Int → zG → Option ((Nat × Int) × zG)} {P : Nat × Int → zG → Prop} (h : zT a (fun r g => (r.1 = 0 → zT (f r.2 g) P) ∧ (r.1 ≠ 0 → P (r.1, 0) g))) : zT (zbx a f) P := by
  obtain ⟨r, g, e, q1, q2⟩ := h
  rw [e]
  unfold zbx
  by_cases c : r.1 = 0
  · show zT (if r.1 = 0 then f r.2 g else some ((r.1, 0), g)) P
    rw [if_pos c]
    exact q1 c
  · show zT (if r.1 = 0 then f r.2 g else some ((r.1, 0), g)) P
    rw [if_neg c]
    exact zT_some (q2 c)
theorem zT_bxe {a : Option ((Nat × Int) × zG)} {f : Int → zG → Option ((Nat × Int) × zG)} {P : Nat × Int → zG → Prop} {x : Int} {g : zG} (e : a = some ((0, x), g)) (h : zT (f x g) P) : zT (zbx a f) P := by
  rw [e]
  exact h
theorem zT_bxt {a : Option ((Nat × Int) × zG)} {f : Int → zG → Option ((Nat × Int) × zG)} {P : Nat × Int → zG → Prop} {c : Nat} {x : Int} {g : zG} (e : a = some ((c + 1, x), g)) (h : P (c + 1, 0) g) : zT (zbx a f) P := by
  rw [e]
  exact zT_some h
theorem zT_bc {L : List Nat} {a : Option ((Nat × Int) × zG)} {f : Int → zG → Option (Int × zG)} {P : Int → zG → Prop} (h : zT a (fun r g => (r.1 = 0 → zT (f r.2 g) P) ∧ (r.1 ≠ 0 → (L[0]? = some r.1 ∧ P 1 g) ∨ (L[0]? ≠ some r.1 ∧ L[1]? = some r.1 ∧ P 2 g) ∨ (L[0]? ≠ some r.1 ∧ L[1]? ≠ some r.1 ∧ L[2]? = some r.1 ∧ P 3 g)))) : zT (zbc L a f) P := by
  obtain ⟨r, g, e, q1, q2⟩ := h
  rw [e]
  show zT (if r.1 = 0 then f r.2 g else if L[0]? = some r.1 then some (1, g) else if L[1]? = some r.1 then some (2, g) else if L[2]? = some r.1 then some (3, g) else none) P
  by_cases c : r.1 = 0
  · rw [if_pos c]
    exact q1 c
  · rw [if_neg c]
    rcases q2 c with ⟨h1, h2⟩ | ⟨h0, h1, h2⟩ | ⟨h0, h9, h1, h2⟩
    · rw [if_pos h1]
      exact zT_some h2
    · rw [if_neg h0, if_pos h1]
      exact zT_some h2
    · rw [if_neg h0, if_neg h9, if_pos h1]
      exact zT_some h2
end ZT
/-! sums, tables -/
def uSum (f : Nat → Int) : Nat → Int
  | 0 => 0
  | n + 1 => uSum f n + f n
theorem uSum_congr {f h : Nat → Int} : ∀ {n : Nat}, (∀ k, k < n → f k = h k) → uSum f n = uSum h n := by
  intro n
  induction n with
  | zero => intro _; rfl
  | succ n ih =>
    intro hk
    show uSum f n + f n = uSum h n + h n
    rw [ih (fun k h1 => hk k (by omega)), hk n (by omega)]
theorem uSum_bound {f : Nat → Int} {m : Int} : ∀ {n : Nat}, (∀ k, k < n → 0 ≤ f k ∧ f k ≤ m) → 0 ≤ uSum f n ∧ uSum f n ≤ (n : Int) * m := by
  intro n
  induction n with
  | zero => intro _; exact ⟨Int.le_refl 0, by simp [uSum]⟩
  | succ n ih =>
    intro hk
    obtain ⟨a1, a2⟩ := ih (fun k h1 => hk k (by omega))
    obtain ⟨b1, b2⟩ := hk n (by omega)
    have e : ((n + 1 : Nat) : Int) * m = (n : Int) * m + m := by
      rw [Int.natCast_add, Int.add_mul]
      simp
    rw [e]
    show 0 ≤ uSum f n + f n ∧ uSum f n + f n ≤ _
    omega
theorem uSum_upd {f h : Nat → Int} {n j : Nat} (hj : j < n) (hk : ∀ k, k < n → k ≠ j → f k = h k) : uSum f n = uSum h n + (f j - h j) := by
  induction n with
  | zero => omega
  | succ n ih =>
    show uSum f n + f n = uSum h n + h n + (f j - h j)
    by_cases c : j = n
    · subst c
      rw [uSum_congr (f := f) (h := h) (fun k h1 => hk k (by omega) (by omega))]
      omega
    · rw [ih (by omega) (fun k h1 h2 => hk k (by omega) h2), hk n (by omega) (fun z => c z.symm)]
      omega

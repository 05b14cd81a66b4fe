/-! keys: a time and a number in one, 24 * time + number; sorted rows of them -/
def uIns (x : Int) : List Int → List Int
  | [] => [x]
  | a :: l => if a < x then a :: uIns x l else x :: a :: l
def uKeys (f : Nat → Option Int) : Nat → List Int
  | 0 => []
  | n + 1 => match f n with
    | none => uKeys f n
    | some x => uIns x (uKeys f n)
abbrev uSrt (l : List Int) : Prop := l.Pairwise (fun a b => a < b)
theorem uIns_mem {x y : Int} {l : List Int} : y ∈ uIns x l ↔ y = x ∨ y ∈ l := by
  induction l with
  | nil => simp [uIns]
  | cons a l ih =>
    unfold uIns
    split
    · rw [List.mem_cons, ih, List.mem_cons]
      constructor
      · rintro (h | h | h)
        · exact Or.inr (Or.inl h)
        · exact Or.inl h
        · exact Or.inr (Or.inr h)
      · rintro (h | h | h)
        · exact Or.inr (Or.inl h)
        · exact Or.inl h
        · exact Or.inr (Or.inr h)
    · simp [List.mem_cons]
theorem uIns_srt {x : Int} {l : List Int} (h : uSrt l) (hx : x ∉ l) : uSrt (uIns x l) := by
  induction l with
  | nil => simp [uIns, uSrt]
  | cons a l ih =>
    obtain ⟨h1, h2⟩ := List.pairwise_cons.mp h
    have hxa : x ≠ a := fun z => hx (by rw [z]; exact List.mem_cons_self)
    have hxl : x ∉ l := fun z => hx (List.mem_cons_of_mem _ z)
    unfold uIns
    split
    · rename_i c
      refine List.pairwise_cons.mpr ⟨fun y hy => ?_, ih h2 hxl⟩
      rcases uIns_mem.mp hy with rfl | hy
      · exact c
      · exact h1 y hy
    · rename_i c
      refine List.pairwise_cons.mpr ⟨fun y hy => ?_, h⟩
      rcases List.mem_cons.mp hy with rfl | hy
      · omega
      · have := h1 y hy
        omega
theorem uIns_split {x : Int} {a b : List Int} (h1 : ∀ y ∈ a, y < x) (h2 : ∀ y ∈ b, x < y) : uIns x (a ++ b) = a ++ x :: b := by
  induction a with
  | nil =>
    cases b with
    | nil => rfl
    | cons c b =>
      have := h2 c List.mem_cons_self
      show (if c < x then c :: uIns x b else x :: c :: b) = x :: c :: b
      rw [if_neg (by omega)]
  | cons c a ih =>
    have := h1 c List.mem_cons_self
    show (if c < x then c :: uIns x (a ++ b) else x :: c :: (a ++ b)) = c :: (a ++ x :: b)
    rw [if_pos this, ih (fun y hy => h1 y (List.mem_cons_of_mem _ hy))]
theorem uIns_len {x : Int} {l : List Int} : (uIns x l).length = l.length + 1 := by
  induction l with
  | nil => rfl
  | cons a l ih =>
    unfold uIns
    split
    · simp [ih]
    · rfl
theorem uKeys_mem {f : Nat → Option Int} {n : Nat} {y : Int} : y ∈ uKeys f n ↔ ∃ k, k < n ∧ f k = some y := by
  induction n with
  | zero => simp [uKeys]
  | succ n ih =>
    unfold uKeys
    cases h : f n with
    | none =>
      rw [ih]
      constructor
      · rintro ⟨k, h1, h2⟩
        exact ⟨k, by omega, h2⟩
      · rintro ⟨k, h1, h2⟩
        refine ⟨k, ?_, h2⟩
        rcases Nat.lt_or_ge k n with c | c
        · exact c
        · have : k = n := by omega
          subst this
          rw [h] at h2
          cases h2
    | some x =>
      show y ∈ uIns x (uKeys f n) ↔ _
      rw [uIns_mem, ih]
      constructor
      · rintro (rfl | ⟨k, h1, h2⟩)
        · exact ⟨n, by omega, h⟩
        · exact ⟨k, by omega, h2⟩
      · rintro ⟨k, h1, h2⟩
        rcases Nat.lt_or_ge k n with c | c
        · exact Or.inr ⟨k, c, h2⟩
        · have : k = n := by omega
          subst this
          rw [h] at h2
          exact Or.inl (Option.some.inj h2).symm
theorem uKeys_len {f : Nat → Option Int} {n : Nat} : (uKeys f n).length ≤ n := by
  induction n with
  | zero => simp [uKeys]
  | succ n ih =>
    unfold uKeys
    cases h : f n with
    | none => exact Nat.le_succ_of_le ih
    | some x =>
      show (uIns x (uKeys f n)).length ≤ n + 1
      rw [uIns_len]
      omega
theorem uKeys_congr {f h : Nat → Option Int} {n : Nat} (e : ∀ k, k < n → f k = h k) : uKeys f n = uKeys h n := by
  induction n with
  | zero => rfl
  | succ n ih =>
    unfold uKeys
    rw [e n (by omega), ih (fun k hk => e k (by omega))]
/-- the key of a number by its time; none below 0 -/
def uKf (t : Nat → Int) (k : Nat) : Option Int := if t k < 0 then none else some (24 * t k + k)
abbrev uKs (t : Nat → Int) (n : Nat) : List Int := uKeys (uKf t) n
theorem uKf_some {t : Nat → Int} {k : Nat} {y : Int} : uKf t k = some y ↔ 0 ≤ t k ∧ y = 24 * t k + k := by
  unfold uKf
  split
  · rename_i c
    constructor
    · intro h; cases h
    · rintro ⟨h, -⟩; omega
  · rename_i c
    constructor
    · intro h
      cases h
      exact ⟨by omega, rfl⟩
    · rintro ⟨-, h⟩
      rw [h]
theorem uKs_mem {t : Nat → Int} {n : Nat} (hn : n ≤ 24) {y : Int} : y ∈ uKs t n ↔ ∃ k : Nat, k < n ∧ 0 ≤ t k ∧ y = 24 * t k + k ∧ y % 24 = k ∧ y / 24 = t k := by
  unfold uKs
  rw [uKeys_mem]
  constructor
  · rintro ⟨k, h1, h2⟩
    obtain ⟨h3, h4⟩ := uKf_some.mp h2
    exact ⟨k, h1, h3, h4, by omega, by omega⟩
  · rintro ⟨k, h1, h2, h3, -, -⟩
    exact ⟨k, h1, uKf_some.mpr ⟨h2, h3⟩⟩
theorem uKs_srt {t : Nat → Int} {n : Nat} (hn : n ≤ 24) : uSrt (uKs t n) := by
  induction n with
  | zero => exact List.Pairwise.nil
  | succ n ih =>
    have e : uKs t (n + 1) = match uKf t n with
      | none => uKs t n
      | some x => uIns x (uKs t n) := rfl
    rw [e]
    cases h : uKf t n with
    | none => exact ih (by omega)
    | some x =>
      refine uIns_srt (ih (by omega)) (fun hx => ?_)
      obtain ⟨k, h1, h2, h3, h4, h5⟩ := (uKs_mem (t := t) (n := n) (by omega)).mp hx
      obtain ⟨h6, h7⟩ := uKf_some.mp h
      omega
theorem uSrt_num {l : List Int} {t : Nat → Int} {n : Nat} (hn : n ≤ 24) {a b : Int} (ha : a ∈ uKs t n) (hb : b ∈ uKs t n) (h : a % 24 = b % 24) : a = b := by
  obtain ⟨k, h1, h2, h3, h4, h5⟩ := (uKs_mem hn).mp ha
  obtain ⟨j, i1, i2, i3, i4, i5⟩ := (uKs_mem hn).mp hb
  have : k = j := by omega
  subst this
  omega
/-! the first free slot that ends behind a time -/
def uTk (en : Nat → Int) (T : Nat → Bool) (t : Int) : Nat → Nat → Option Nat
  | 0, _ => none
  | m + 1, j => if T j = false ∧ t < en j then some j else uTk en T t m (j + 1)
theorem uTk_at {en : Nat → Int} {T : Nat → Bool} {t : Int} : ∀ {m j i : Nat}, j ≤ i → i < j + m → T i = false → t < en i → (∀ i', j ≤ i' → i' < i → T i' = true ∨ en i' ≤ t) → uTk en T t m j = some i := by
  intro m
  induction m with
  | zero => intro j i h1 h2; omega
  | succ m ih =>
    intro j i h1 h2 h3 h4 h5
    show (if T j = false ∧ t < en j then some j else uTk en T t m (j + 1)) = some i
    by_cases c : j = i
    · subst c
      rw [if_pos ⟨h3, h4⟩]
    · rw [if_neg (fun z => by
        rcases h5 j (Nat.le_refl j) (by omega) with h | h
        · rw [z.1] at h; cases h
        · have := z.2; omega)]
      exact ih (by omega) (by omega) h3 h4 (fun i' a b => h5 i' (by omega) b)
theorem uTk_no {en : Nat → Int} {T : Nat → Bool} {t : Int} : ∀ {m j : Nat}, (∀ i', j ≤ i' → i' < j + m → T i' = true ∨ en i' ≤ t) → uTk en T t m j = none := by
  intro m
  induction m with
  | zero => intro j _; rfl
  | succ m ih =>
    intro j h5
    show (if T j = false ∧ t < en j then some j else uTk en T t m (j + 1)) = none
    rw [if_neg (fun z => by
      rcases h5 j (Nat.le_refl j) (by omega) with h | h
      · rw [z.1] at h; cases h
      · have := z.2; omega)]
    exact ih (fun i' a b => h5 i' (by omega) (by omega))
theorem uTk_some {en : Nat → Int} {T : Nat → Bool} {t : Int} : ∀ {m j i : Nat}, uTk en T t m j = some i → j ≤ i ∧ i < j + m ∧ T i = false ∧ t < en i := by
  intro m
  induction m with
  | zero => intro j i h; cases h
  | succ m ih =>
    intro j i h
    have h : (if T j = false ∧ t < en j then some j else uTk en T t m (j + 1)) = some i := h
    split at h
    · rename_i c
      cases h
      exact ⟨Nat.le_refl _, by omega, c.1, c.2⟩
    · obtain ⟨a, b, c⟩ := ih h
      exact ⟨by omega, by omega, c⟩
theorem uTk_congr {en en' : Nat → Int} {T T' : Nat → Bool} {t : Int} : ∀ {m j : Nat}, (∀ i, j ≤ i → i < j + m → T i = T' i ∧ en i = en' i) → uTk en T t m j = uTk en' T' t m j := by
  intro m
  induction m with
  | zero => intro j _; rfl
  | succ m ih =>
    intro j h
    show (if T j = false ∧ t < en j then some j else uTk en T t m (j + 1)) = (if T' j = false ∧ t < en' j then some j else uTk en' T' t m (j + 1))
    obtain ⟨e1, e2⟩ := h j (Nat.le_refl j) (by omega)
    rw [e1, e2, ih (fun i a b => h i (by omega) (by omega))]
def uPut (T : Nat → Bool) (o : Option Nat) : Nat → Bool := match o with
  | none => T
  | some j => fun i => i == j || T i
/-- what those of a row get, one after the other -/
def uDl (en : Nat → Int) (S : Nat) : (Nat → Bool) → List Int → List (Option Nat)
  | _, [] => []
  | T, y :: l => uTk en T (y / 24) S 0 :: uDl en S (uPut T (uTk en T (y / 24) S 0)) l
/-- what is taken behind it -/
def uDT (en : Nat → Int) (S : Nat) : (Nat → Bool) → List Int → (Nat → Bool)
  | T, [] => T
  | T, y :: l => uDT en S (uPut T (uTk en T (y / 24) S 0)) l
def uTg (bg : Nat → Int) (to t : Int) (o : Option Nat) : Int := match o with
  | none => to
  | some j => max t (bg j)
/-- the penalty of a number; d if it isn't in the row -/
def uPn (en bg : Nat → Int) (S : Nat) (to : Int) : (Nat → Bool) → List Int → Int → Int → Int
  | _, [], _, d => d
  | T, y :: l, k, d => if y % 24 = k then uTg bg to (y / 24) (uTk en T (y / 24) S 0) - y / 24 else uPn en bg S to (uPut T (uTk en T (y / 24) S 0)) l k d
def uNo : List (Option Nat) → Int
  | [] => 0
  | none :: l => uNo l + 1
  | some _ :: l => uNo l
theorem uDl_len {en : Nat → Int} {S : Nat} : ∀ {l : List Int} {T : Nat → Bool}, (uDl en S T l).length = l.length := by
  intro l
  induction l with
  | nil => intro T; rfl
  | cons y l ih => intro T; show (uDl en S _ l).length + 1 = l.length + 1; rw [ih]
theorem uDl_snoc {en : Nat → Int} {S : Nat} {y : Int} : ∀ {l : List Int} {T : Nat → Bool}, uDl en S T (l ++ [y]) = uDl en S T l ++ [uTk en (uDT en S T l) (y / 24) S 0] := by
  intro l
  induction l with
  | nil => intro T; rfl
  | cons a l ih =>
    intro T
    show _ :: uDl en S _ (l ++ [y]) = _ :: (uDl en S _ l ++ [_])
    rw [ih]
    rfl
theorem uDT_snoc {en : Nat → Int} {S : Nat} {y : Int} : ∀ {l : List Int} {T : Nat → Bool}, uDT en S T (l ++ [y]) = uPut (uDT en S T l) (uTk en (uDT en S T l) (y / 24) S 0) := by
  intro l
  induction l with
  | nil => intro T; rfl
  | cons a l ih =>
    intro T
    show uDT en S _ (l ++ [y]) = _
    rw [ih]
    rfl
theorem uNo_snoc {o : Option Nat} : ∀ {l : List (Option Nat)}, uNo (l ++ [o]) = uNo l + (match o with | none => 1 | some _ => 0) := by
  intro l
  induction l with
  | nil => cases o <;> rfl
  | cons a l ih =>
    cases a with
    | none =>
      show uNo (l ++ [o]) + 1 = uNo l + 1 + _
      rw [ih]
      omega
    | some j =>
      show uNo (l ++ [o]) = uNo l + _
      rw [ih]
theorem uNo_bound : ∀ {l : List (Option Nat)}, 0 ≤ uNo l ∧ uNo l ≤ l.length := by
  intro l
  induction l with
  | nil => exact ⟨Int.le_refl 0, Int.le_refl 0⟩
  | cons a l ih =>
    cases a with
    | none =>
      show 0 ≤ uNo l + 1 ∧ uNo l + 1 ≤ ((l.length + 1 : Nat) : Int)
      omega
    | some j =>
      show 0 ≤ uNo l ∧ uNo l ≤ ((l.length + 1 : Nat) : Int)
      omega
theorem uDT_mono {en : Nat → Int} {S : Nat} {i : Nat} : ∀ {l : List Int} {T : Nat → Bool}, T i = true → uDT en S T l i = true := by
  intro l
  induction l with
  | nil => intro T h; exact h
  | cons a l ih =>
    intro T h
    refine ih ?_
    cases uTk en T (a / 24) S 0 with
    | none => exact h
    | some j => simp [uPut, h]
theorem uDT_not {en : Nat → Int} {S : Nat} {i : Nat} : ∀ {l : List Int} {T : Nat → Bool}, (∀ y ∈ l, en i ≤ y / 24) → uDT en S T l i = T i := by
  intro l
  induction l with
  | nil => intro T h; rfl
  | cons a l ih =>
    intro T h
    show uDT en S (uPut T (uTk en T (a / 24) S 0)) l i = T i
    rw [ih (fun y hy => h y (List.mem_cons_of_mem _ hy))]
    cases hc : uTk en T (a / 24) S 0 with
    | none => rfl
    | some j =>
      have h1 := (uTk_some hc).2.2.2
      have h2 := h a List.mem_cons_self
      have h3 : i ≠ j := by
        rintro rfl
        omega
      show (i == j || T i) = T i
      simp [h3]
theorem uPn_in {en bg : Nat → Int} {S : Nat} {to k d d' : Int} : ∀ {l : List Int} {T : Nat → Bool}, (∃ y ∈ l, y % 24 = k) → uPn en bg S to T l k d = uPn en bg S to T l k d' := by
  intro l
  induction l with
  | nil => rintro T ⟨y, h, -⟩; cases h
  | cons a l ih =>
    rintro T ⟨y, h, hk⟩
    unfold uPn
    split
    · rfl
    · rename_i c
      rcases List.mem_cons.mp h with rfl | h
      · exact absurd hk c
      · exact ih ⟨y, h, hk⟩
theorem uPn_out {en bg : Nat → Int} {S : Nat} {to k d : Int} : ∀ {l : List Int} {T : Nat → Bool}, (∀ y ∈ l, y % 24 ≠ k) → uPn en bg S to T l k d = d := by
  intro l
  induction l with
  | nil => intro T _; rfl
  | cons a l ih =>
    intro T h
    unfold uPn
    rw [if_neg (h a List.mem_cons_self)]
    exact ih (fun y hy => h y (List.mem_cons_of_mem _ hy))
theorem uPn_bound {en bg : Nat → Int} {S : Nat} {to k : Int} : ∀ {l : List Int} {T : Nat → Bool}, (∀ y ∈ l, 0 ≤ y / 24 ∧ y / 24 < to) → (∀ j, j < S → bg j < to) → -1 ≤ uPn en bg S to T l k (-1) ∧ uPn en bg S to T l k (-1) ≤ to ∨ uPn en bg S to T l k (-1) = -1 := by
  intro l
  induction l with
  | nil => intro T _ _; exact Or.inr rfl
  | cons a l ih =>
    intro T h hb
    unfold uPn
    split
    · obtain ⟨h1, h2⟩ := h a List.mem_cons_self
      cases hc : uTk en T (a / 24) S 0 with
      | none =>
        show -1 ≤ to - a / 24 ∧ to - a / 24 ≤ to ∨ _
        omega
      | some j =>
        have h3 := (uTk_some hc).2.1
        have h4 := hb j (by omega)
        show -1 ≤ max (a / 24) (bg j) - a / 24 ∧ max (a / 24) (bg j) - a / 24 ≤ to ∨ _
        omega
    · exact ih (fun y hy => h y (List.mem_cons_of_mem _ hy)) hb
/-! slots: where they begin and end -/
def uBg (fr rt : Int) (j : Nat) : Int := fr + (60 * (j : Int)) / rt
def uS (fr to rt : Int) : Nat := (((to - fr) * rt + 59) / 60).toNat
def uEn (fr to rt : Int) (j : Nat) : Int := min (uBg fr rt (j + 1)) to
theorem uS_iff {fr to rt : Int} (hr : 0 < rt) {j : Nat} : uBg fr rt j < to ↔ j < uS fr to rt := by
  unfold uBg uS
  have h1 : (60 * (j : Int)) / rt < to - fr ↔ 60 * (j : Int) < (to - fr) * rt := Int.ediv_lt_iff_lt_mul hr
  generalize (to - fr) * rt = x at h1 ⊢
  generalize (60 * (j : Int)) / rt = q at h1 ⊢
  omega
theorem uS_zero {fr to : Int} : uS fr to 0 = 0 := by
  unfold uS
  rw [Int.mul_zero]
  rfl
theorem uS_le {fr to rt : Int} (h1 : 0 ≤ fr ∧ fr < to ∧ to ≤ 1440) (h2 : 0 ≤ rt ∧ rt ≤ 60) : uS fr to rt ≤ 1440 := by
  unfold uS
  have : (to - fr) * rt ≤ 1440 * 60 := Int.le_trans (Int.mul_le_mul_of_nonneg_right (by omega) h2.1) (Int.mul_le_mul_of_nonneg_left h2.2 (by omega))
  omega
theorem uBg_ge {fr rt : Int} (hr : 0 < rt) {j : Nat} : fr ≤ uBg fr rt j ∧ uBg fr rt j ≤ fr + 60 * (j : Int) := by
  unfold uBg
  have h1 : 0 ≤ (60 * (j : Int)) / rt := Int.ediv_nonneg (by omega) (by omega)
  have h2 : (60 * (j : Int)) / rt ≤ 60 * (j : Int) := Int.ediv_le_self _ (by omega)
  omega
theorem uBg_tdiv {fr rt : Int} {j : Int} (hj : 0 ≤ j) : fr + (60 * j).tdiv rt = uBg fr rt j.toNat := by
  unfold uBg
  rw [Int.tdiv_eq_ediv_of_nonneg (by omega)]
  congr 3
  omega
theorem uEn_ref {fr to rt : Int} (hr : 0 < rt) {j : Nat} : (if j + 1 < uS fr to rt then uBg fr rt (j + 1) else to) = uEn fr to rt j := by
  unfold uEn
  have h := uS_iff (fr := fr) (to := to) hr (j := j + 1)
  split
  · rename_i c
    have := h.mpr c
    omega
  · rename_i c
    have : ¬ uBg fr rt (j + 1) < to := fun z => c (h.mp z)
    omega

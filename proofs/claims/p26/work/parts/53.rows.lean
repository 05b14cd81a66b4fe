/-! lines: what they hold -/
abbrev uCl (g : zG) (i p : Nat) (y : Int) : Prop := g 10 i p = y % 24 ∧ g 11 i p = y / 24
def LN (g : zG) (i : Nat) (l : List Int) : Prop := g 3 i 4 = (l.length : Int) ∧ ∀ (p : Nat) (y : Int), l[p]? = some y → uCl g i p y
def uKb (l : List Int) : Prop := ∀ y ∈ l, 0 ≤ y ∧ y ≤ 48983
/-- but line i nothing has changed -/
def FL (i : Nat) (g g' : zG) : Prop := ∀ k j p, ¬ ((k = 3 ∨ (10 ≤ k ∧ k ≤ 13)) ∧ j = i) → g' k j p = g k j p
theorem FL.rf {i : Nat} {g : zG} : FL i g g := fun _ _ _ _ => rfl
theorem FL.tr {i : Nat} {g g1 g2 : zG} (h1 : FL i g g1) (h2 : FL i g1 g2) : FL i g g2 := fun k j p h => (h2 k j p h).trans (h1 k j p h)
theorem FL.up {i : Nat} {g : zG} {a b : Nat} {v : Int} (h : a = 3 ∨ (10 ≤ a ∧ a ≤ 13)) : FL i g (zup g a i b v) := by
  intro k j p hn
  rw [zup_rd, if_neg (fun z => hn ⟨by rw [z.1]; exact h, z.2.1⟩)]
theorem uKb_ks {t : Nat → Int} {n : Nat} (hn : n ≤ 24) (h : ∀ k, k < n → t k ≤ 2040) : uKb (uKs t n) := by
  intro y hy
  obtain ⟨k, h1, h2, h3, h4, h5⟩ := (uKs_mem hn).mp hy
  have := h k h1
  omega
theorem t_add65 {n : Nat} {K : Nat → Nat → Int → Int → Int → zG → Option (Int × zG)} {i : Nat} {num t : Int} {a b : List Int} {g : zG} (hnum : 0 ≤ num ∧ num < 24) (ht : 0 ≤ t ∧ t ≤ 2040) (hc : a.length + b.length < 24) (h3 : g 3 i 4 = ((a.length + b.length : Nat) : Int)) (ha : ∀ p y, a[p]? = some y → uCl g i p y) (hb : ∀ p y, b[p]? = some y → uCl g i (a.length + 1 + p) y) (h1 : ∀ y ∈ a, y < 24 * t + num) (h2 : ∀ y ∈ b, 24 * t + num < y) :
    zT (sX2_add_j65 n K i num t (a.length : Int) g) (fun _ g' => LN g' i (uIns (24 * t + num) (a ++ b)) ∧ FL i g g' ∧ g' 12 i (a.length + b.length) = -1 ∧ ∀ p, p ≠ a.length + b.length → g' 12 i p = g 12 i p) := by
  unfold sX2_add_j65
  have e1 : ((a.length : Nat) : Int).toNat = a.length := by omega
  simp only [e1]
  refine zT_ix (by omega) (zT_st ?_)
  refine zT_ix (by omega) (zT_st ?_)
  simp only [zup_rd, h3]
  have e2 : ((a.length + b.length : Nat) : Int).toNat = a.length + b.length := by omega
  simp [e2]
  refine zT_ix (by omega) (zT_st ?_)
  simp only [zup_rd, h3]
  simp [e2]
  refine zT_ix (by omega) (zT_st ?_)
  simp only [zup_rd, h3]
  simp
  refine zT_st (zT_some ?_)
  refine ⟨⟨?_, ?_⟩, ?_, ?_, ?_⟩
  · rw [uIns_split h1 h2]
    simp [zup_rd]
    omega
  · intro p y hy
    rw [uIns_split h1 h2] at hy
    unfold uCl
    simp only [zup_rd]
    by_cases c : p = a.length
    · subst c
      rw [List.getElem?_append_right (Nat.le_refl _), Nat.sub_self] at hy
      cases hy
      simp
      omega
    · rcases Nat.lt_or_ge p a.length with c1 | c1
      · rw [List.getElem?_append_left c1] at hy
        simp [c]
        exact ha p y hy
      · rw [List.getElem?_append_right c1] at hy
        obtain ⟨d, hd⟩ : ∃ d, p - a.length = d + 1 := ⟨p - a.length - 1, by omega⟩
        rw [hd, List.getElem?_cons_succ] at hy
        have := hb d y hy
        rw [show a.length + 1 + d = p from by omega] at this
        simp [c]
        exact this
  · exact ((((FL.up (Or.inr (by decide))).tr (FL.up (Or.inr (by decide)))).tr (FL.up (Or.inr (by decide)))).tr (FL.up (Or.inr (by decide)))).tr (FL.up (Or.inl rfl))
  · simp [zup_rd]
    intro h
    omega
  · intro p hp
    simp [zup_rd]
    intro h
    omega
theorem t_add_run {n i : Nat} {num t : Int} (hnum : 0 ≤ num ∧ num < 24) (ht : 0 ≤ t ∧ t ≤ 2040) : ∀ (m : Nat) (a b : List Int) (f : Nat) (g : zG), a.length = m → m < f → m + b.length < 24 → g 3 i 4 = ((m + b.length : Nat) : Int) → (∀ p y, a[p]? = some y → uCl g i p y) → (∀ p y, b[p]? = some y → uCl g i (m + 1 + p) y) → (∀ y ∈ a, 0 ≤ y ∧ y ≤ 48983 ∧ y % 24 < num) → (∀ y ∈ b, 24 * t + num < y) → uSrt a →
    zT (sX2_add_run n f 0 i num t (m : Int) g) (fun _ g' => LN g' i (uIns (24 * t + num) (a ++ b)) ∧ FL i g g' ∧ g' 12 i (m + b.length) = -1 ∧ ∀ p, p ≠ m + b.length → g' 12 i p = g 12 i p) := by
  intro m
  induction m with
  | zero =>
    intro a b f g hm hf hc h3 ha hb hk hb2 hs
    obtain ⟨f, rfl⟩ : ∃ f', f = f' + 1 := ⟨f - 1, by omega⟩
    have ea : a = [] := List.length_eq_zero_iff.mp hm
    subst ea
    rw [qsX2_add_run0]
    unfold sX2_add_h15
    refine zT_leT (by omega) ?_
    exact t_add65 (a := []) hnum ht hc h3 ha hb (fun y hy => by cases hy) hb2
  | succ m ih =>
    intro a b f g hm hf hc h3 ha hb hk hb2 hs
    obtain ⟨f, rfl⟩ : ∃ f', f = f' + 1 := ⟨f - 1, by omega⟩
    rcases List.eq_nil_or_concat a with rfl | ⟨a', z, rfl⟩
    · simp at hm
    rw [List.concat_eq_append] at *
    have hm' : a'.length = m := by simp at hm; exact hm
    obtain ⟨s1, -, s3⟩ := List.pairwise_append.mp hs
    have hz := ha m z (by rw [← hm']; exact List.getElem?_concat_length)
    have hzk := hk z (by simp)
    rw [qsX2_add_run0]
    unfold sX2_add_h15
    have e1 : (((m + 1 : Nat) : Int) - 1).toNat = m := by omega
    have e2 : ((m + 1 : Nat) : Int).toNat = m + 1 := by omega
    have e3 : ((m + 1 : Nat) : Int) + (-1) = (m : Int) := by omega
    simp only [e1, e2, e3]
    refine zT_leF (by omega) ?_
    refine zT_ix (by omega) ?_
    unfold uCl at hz
    refine zT_le (by omega) (fun c => ?_) (fun c => ?_)
    · have := t_add65 (n := n) (K := sX2_add_run n f) (a := a' ++ [z]) (b := b) (i := i) (g := g) hnum ht (by omega) (by rw [hm]; exact h3) ha (by rw [hm]; exact hb) (fun y hy => by
        have hyz : y ≤ z := by
          rcases List.mem_append.mp hy with h | h
          · exact Int.le_of_lt (s3 y h z (by simp))
          · simp at h; omega
        have := hk y hy
        omega) hb2
      rw [hm] at this
      exact this
    · refine zT_ix (by omega) (zT_ix (by omega) (zT_st ?_))
      refine zT_ix (by omega) (zT_ix (by omega) (zT_st ?_))
      refine zT_let ?_
      have h4 := ih a' (z :: b) f (zup (zup g 10 i (m + 1) (g 10 i m)) 11 i (m + 1) (zup g 10 i (m + 1) (g 10 i m) 11 i m)) hm' (by omega) (by simp; omega) (by simp [zup_rd, h3]; omega) (fun p y hy => by
          have h5 := ha p y (by rw [List.getElem?_append_left (List.getElem?_eq_some_iff.mp hy).1]; exact hy)
          have h6 : p < a'.length := (List.getElem?_eq_some_iff.mp hy).1
          unfold uCl at h5 ⊢
          simp only [zup_rd]
          rw [if_neg (by omega), if_neg (by omega), if_neg (by omega), if_neg (by omega)]
          exact h5) (fun p y hy => by
          unfold uCl
          simp only [zup_rd]
          cases p with
          | zero =>
            cases hy
            simp
            exact hz
          | succ p =>
            rw [List.getElem?_cons_succ] at hy
            have h5 := hb p y hy
            rw [show m + 1 + 1 + p = m + 1 + (p + 1) from by omega] at h5
            unfold uCl at h5
            rw [if_neg (by omega), if_neg (by omega), if_neg (by omega)]
            exact h5) (fun y hy => hk y (by simp [hy])) (fun y hy => by
          rcases List.mem_cons.mp hy with rfl | hy
          · omega
          · exact hb2 y hy) s1
      refine zT_mono h4 ?_
      rintro r g' ⟨h5, h6, h7, h8⟩
      have e4 : m + (z :: b).length = m + 1 + b.length := by simp; omega
      rw [e4] at h7 h8
      refine ⟨by simpa using h5, ((FL.up (Or.inr (by decide))).tr (FL.up (Or.inr (by decide)))).tr h6, h7, fun p hp => ?_⟩
      rw [h8 p hp]
      simp [zup_rd]
theorem t_add {n i : Nat} {num t : Int} {l : List Int} {g : zG} (hn : 24 < n) (hnum : 0 ≤ num ∧ num < 24) (ht : 0 ≤ t ∧ t ≤ 2040) (hc : l.length < 24) (hl : LN g i l) (hk : ∀ y ∈ l, 0 ≤ y ∧ y ≤ 48983 ∧ y % 24 < num) (hs : uSrt l) :
    zT (sX2_add n i num t g) (fun _ g' => LN g' i (uIns (24 * t + num) l) ∧ FL i g g' ∧ g' 12 i l.length = -1 ∧ ∀ p, p ≠ l.length → g' 12 i p = g 12 i p) := by
  obtain ⟨h1, h2⟩ := hl
  unfold sX2_add
  refine zT_ltT (by omega) (zT_let ?_)
  rw [h1]
  have := t_add_run (n := n) (i := i) hnum ht l.length l [] n g rfl (by omega) hc (by simpa using h1) h2 (fun p y hy => by simp at hy) hk (fun y hy => by cases hy) hs
  simpa using this
section LNS
variable {g : zG} {i : Nat} {l : List Int}
theorem e_has {x : Int} (hl : LN g i l) (hc : l.length ≤ 24) (hx : -1 ≤ x ∧ x ≤ 2000) : sX2_has i x g = some (if 0 ≤ x ∧ x < (l.length : Int) then 1 else 0, g) := by
  obtain ⟨h1, h2⟩ := hl
  refine zT_eqn ?_
  unfold sX2_has
  repeat' first
    | (with_reducible refine zT_ltT ?_ ?_; · omega)
    | (with_reducible refine zT_ltF ?_ ?_; · omega)
    | (with_reducible refine zT_lt ?_ (fun _ => ?_) (fun _ => ?_); · omega)
    | (with_reducible refine zT_leT ?_ ?_; · omega)
    | (with_reducible refine zT_leF ?_ ?_; · omega)
    | (with_reducible refine zT_le ?_ (fun _ => ?_) (fun _ => ?_); · omega)
    | (with_reducible refine zT_eqT ?_ ?_; · omega)
    | (with_reducible refine zT_eqF ?_ ?_; · omega)
    | (with_reducible refine zT_eq ?_ (fun _ => ?_) (fun _ => ?_); · omega)
    | (with_reducible refine zT_ix ?_ ?_; · omega)
    | (with_reducible refine zT_li ?_ ?_; · omega)
    | (with_reducible refine zT_bo ?_ ?_; · omega)
    | (with_reducible refine zT_ri ?_ ?_; · omega)
    | (with_reducible refine zT_dv ?_ ?_; · omega)
    | (with_reducible refine zT_let ?_)
  · exact zT_some ⟨by rw [if_neg (by omega)], rfl⟩
  · exact zT_some ⟨by rw [if_pos (by omega)], rfl⟩
  · exact zT_some ⟨by rw [if_neg (by omega)], rfl⟩
theorem e_timeAt {p : Nat} {y : Int} (hl : LN g i l) (hc : l.length ≤ 24) (hy : l[p]? = some y) : sX2_timeAt i (p : Int) g = some (y / 24, g) := by
  have hp : p < l.length := (List.getElem?_eq_some_iff.mp hy).1
  refine zT_eqn ?_
  unfold sX2_timeAt
  have e := e_has hl hc (x := (p : Int)) (by omega)
  rw [if_pos (by omega)] at e
  refine zT_bde e ?_
  refine zT_eqF (by omega) (zT_ix (by omega) (zT_some ⟨?_, rfl⟩))
  rw [Int.toNat_natCast]
  exact (hl.2 p y hy).2
theorem e_timeAtNo {x : Int} (hl : LN g i l) (hc : l.length ≤ 24) (hx : (l.length : Int) ≤ x ∧ x ≤ 2000) : sX2_timeAt i x g = some (-1, g) := by
  refine zT_eqn ?_
  unfold sX2_timeAt
  have e := e_has hl hc (x := x) (by omega)
  rw [if_neg (by omega)] at e
  refine zT_bde e ?_
  exact zT_eqT (by omega) (zT_some ⟨rfl, rfl⟩)
theorem e_give {p : Nat} {v w : Int} (hl : LN g i l) (hc : l.length ≤ 24) (hp : p < l.length) : sX2_give i (p : Int) v w g = some (0, zup (zup g 12 i p v) 13 i p w) := by
  refine zT_eqn ?_
  unfold sX2_give
  have e := e_has hl hc (x := (p : Int)) (by omega)
  rw [if_pos (by omega)] at e
  refine zT_bde e ?_
  simp only [Int.toNat_natCast]
  exact zT_eqF (by omega) (zT_ix (by omega) (zT_st (zT_ix (by omega) (zT_st (zT_some ⟨rfl, rfl⟩)))))
theorem e_canTake {p : Nat} {y en : Int} (hl : LN g i l) (hk : uKb l) (hc : l.length ≤ 24) (hy : l[p]? = some y) (he : -100000 ≤ en ∧ en ≤ 100000) : sX2_canTake i (p : Int) en g = some (if y / 24 < en then 1 else 0, g) := by
  have hp : p < l.length := (List.getElem?_eq_some_iff.mp hy).1
  have h2 := (hl.2 p y hy).2
  have h3 := hk y (List.mem_of_getElem? hy)
  refine zT_eqn ?_
  unfold sX2_canTake
  have e := e_has hl hc (x := (p : Int)) (by omega)
  rw [if_pos (by omega)] at e
  refine zT_bde e ?_
  simp only [Int.toNat_natCast]
  repeat' first
    | (with_reducible refine zT_ltT ?_ ?_; · omega)
    | (with_reducible refine zT_ltF ?_ ?_; · omega)
    | (with_reducible refine zT_lt ?_ (fun _ => ?_) (fun _ => ?_); · omega)
    | (with_reducible refine zT_leT ?_ ?_; · omega)
    | (with_reducible refine zT_leF ?_ ?_; · omega)
    | (with_reducible refine zT_le ?_ (fun _ => ?_) (fun _ => ?_); · omega)
    | (with_reducible refine zT_eqT ?_ ?_; · omega)
    | (with_reducible refine zT_eqF ?_ ?_; · omega)
    | (with_reducible refine zT_eq ?_ (fun _ => ?_) (fun _ => ?_); · omega)
    | (with_reducible refine zT_ix ?_ ?_; · omega)
    | (with_reducible refine zT_li ?_ ?_; · omega)
    | (with_reducible refine zT_bo ?_ ?_; · omega)
    | (with_reducible refine zT_ri ?_ ?_; · omega)
    | (with_reducible refine zT_dv ?_ ?_; · omega)
    | (with_reducible refine zT_let ?_)
  · exact zT_some ⟨by rw [if_pos (by omega)], rfl⟩
  · exact zT_some ⟨by rw [if_neg (by omega)], rfl⟩
theorem e_canTakeNo {x en : Int} (hl : LN g i l) (hc : l.length ≤ 24) (hx : (l.length : Int) ≤ x ∧ x ≤ 2000) : sX2_canTake i x en g = some (0, g) := by
  refine zT_eqn ?_
  unfold sX2_canTake
  have e := e_has hl hc (x := x) (by omega)
  rw [if_neg (by omega)] at e
  refine zT_bde e ?_
  repeat' first
    | (with_reducible refine zT_ltT ?_ ?_; · omega)
    | (with_reducible refine zT_ltF ?_ ?_; · omega)
    | (with_reducible refine zT_lt ?_ (fun _ => ?_) (fun _ => ?_); · omega)
    | (with_reducible refine zT_leT ?_ ?_; · omega)
    | (with_reducible refine zT_leF ?_ ?_; · omega)
    | (with_reducible refine zT_le ?_ (fun _ => ?_) (fun _ => ?_); · omega)
    | (with_reducible refine zT_eqT ?_ ?_; · omega)
    | (with_reducible refine zT_eqF ?_ ?_; · omega)
    | (with_reducible refine zT_eq ?_ (fun _ => ?_) (fun _ => ?_); · omega)
    | (with_reducible refine zT_ix ?_ ?_; · omega)
    | (with_reducible refine zT_li ?_ ?_; · omega)
    | (with_reducible refine zT_bo ?_ ?_; · omega)
    | (with_reducible refine zT_ri ?_ ?_; · omega)
    | (with_reducible refine zT_dv ?_ ?_; · omega)
    | (with_reducible refine zT_let ?_)
  exact zT_some ⟨rfl, rfl⟩
/-- a slot is given in the row i -/
def uGv (g : zG) (i m : Nat) (j : Int) : Prop := ∃ p, p < m ∧ g 12 i p = j
theorem t_hasGiven_run {n m : Nat} {j : Int} (hm : m ≤ 24) (h3 : g 3 i 4 = (m : Int)) (hj : 0 ≤ j ∧ j ≤ 2000) (hb : ∀ p, p < m → -1 ≤ g 12 i p ∧ g 12 i p ≤ 2000) : ∀ (d p f : Nat), p + d = m → d < f → (∀ q, q < p → g 12 i q ≠ j) →
    zT (sX2_hasGiven_run n f 0 i j (p : Int) g) (fun r g' => g' = g ∧ ((r = 1 ∧ uGv g i m j) ∨ (r = 0 ∧ ¬ uGv g i m j))) := by
  intro d
  induction d with
  | zero =>
    intro p f hp hf hq
    obtain ⟨f, rfl⟩ : ∃ f', f = f' + 1 := ⟨f - 1, by omega⟩
    rw [qsX2_hasGiven_run0]
    unfold sX2_hasGiven_h2
    repeat' first
      | (with_reducible refine zT_ltT ?_ ?_; · omega)
      | (with_reducible refine zT_ltF ?_ ?_; · omega)
      | (with_reducible refine zT_lt ?_ (fun _ => ?_) (fun _ => ?_); · omega)
      | (with_reducible refine zT_leT ?_ ?_; · omega)
      | (with_reducible refine zT_leF ?_ ?_; · omega)
      | (with_reducible refine zT_le ?_ (fun _ => ?_) (fun _ => ?_); · omega)
      | (with_reducible refine zT_eqT ?_ ?_; · omega)
      | (with_reducible refine zT_eqF ?_ ?_; · omega)
      | (with_reducible refine zT_eq ?_ (fun _ => ?_) (fun _ => ?_); · omega)
      | (with_reducible refine zT_ix ?_ ?_; · omega)
      | (with_reducible refine zT_li ?_ ?_; · omega)
      | (with_reducible refine zT_bo ?_ ?_; · omega)
      | (with_reducible refine zT_ri ?_ ?_; · omega)
      | (with_reducible refine zT_dv ?_ ?_; · omega)
      | (with_reducible refine zT_let ?_)
    refine zT_some ⟨rfl, Or.inr ⟨rfl, ?_⟩⟩
    rintro ⟨q, h1, h2⟩
    exact hq q (by omega) h2
  | succ d ih =>
    intro p f hp hf hq
    obtain ⟨f, rfl⟩ : ∃ f', f = f' + 1 := ⟨f - 1, by omega⟩
    have hbp := hb p (by omega)
    rw [qsX2_hasGiven_run0]
    unfold sX2_hasGiven_h2
    simp only [Int.toNat_natCast]
    refine zT_ltT (by omega) (zT_ltT (by omega) (zT_ix (by omega) (zT_eq (by omega) (fun c => ?_) (fun c => ?_))))
    · exact zT_bo (by omega) (zT_some ⟨rfl, Or.inl ⟨rfl, p, by omega, c⟩⟩)
    · refine zT_let ?_
      have := ih (p + 1) f (by omega) (by omega) (fun q h => by
        rcases Nat.lt_or_ge q p with c1 | c1
        · exact hq q c1
        · have : q = p := by omega
          rw [this]
          exact c)
      exact this
theorem t_hasGiven {n m : Nat} {j : Int} (hn : 24 < n) (hm : m ≤ 24) (h3 : g 3 i 4 = (m : Int)) (hj : 0 ≤ j ∧ j ≤ 2000) (hb : ∀ p, p < m → -1 ≤ g 12 i p ∧ g 12 i p ≤ 2000) : zT (sX2_hasGiven n i j g) (fun r g' => g' = g ∧ ((r = 1 ∧ uGv g i m j) ∨ (r = 0 ∧ ¬ uGv g i m j))) :=
  t_hasGiven_run hm h3 hj hb m 0 n (by omega) (by omega) (fun q h => by omega)
theorem t_placeOf_run {n : Nat} {k : Int} (hl : LN g i l) (hc : l.length ≤ 24) (hk : 0 ≤ k ∧ k < 24) : ∀ (d p f : Nat), p + d = l.length → d < f → (∀ q y, q < p → l[q]? = some y → y % 24 ≠ k) →
    zT (sX2_placeOf_run n f 0 i k (p : Int) g) (fun r g' => g' = g ∧ ((r = -1 ∧ ∀ y ∈ l, y % 24 ≠ k) ∨ ∃ (q : Nat) (y : Int), r = (q : Int) ∧ l[q]? = some y ∧ y % 24 = k ∧ ∀ q' y', q' < q → l[q']? = some y' → y' % 24 ≠ k)) := by
  intro d
  induction d with
  | zero =>
    intro p f hp hf hq
    obtain ⟨f, rfl⟩ : ∃ f', f = f' + 1 := ⟨f - 1, by omega⟩
    have h1 := hl.1
    rw [qsX2_placeOf_run0]
    unfold sX2_placeOf_h2
    repeat' first
      | (with_reducible refine zT_ltT ?_ ?_; · omega)
      | (with_reducible refine zT_ltF ?_ ?_; · omega)
      | (with_reducible refine zT_lt ?_ (fun _ => ?_) (fun _ => ?_); · omega)
      | (with_reducible refine zT_leT ?_ ?_; · omega)
      | (with_reducible refine zT_leF ?_ ?_; · omega)
      | (with_reducible refine zT_le ?_ (fun _ => ?_) (fun _ => ?_); · omega)
      | (with_reducible refine zT_eqT ?_ ?_; · omega)
      | (with_reducible refine zT_eqF ?_ ?_; · omega)
      | (with_reducible refine zT_eq ?_ (fun _ => ?_) (fun _ => ?_); · omega)
      | (with_reducible refine zT_ix ?_ ?_; · omega)
      | (with_reducible refine zT_li ?_ ?_; · omega)
      | (with_reducible refine zT_bo ?_ ?_; · omega)
      | (with_reducible refine zT_ri ?_ ?_; · omega)
      | (with_reducible refine zT_dv ?_ ?_; · omega)
      | (with_reducible refine zT_let ?_)
    refine zT_some ⟨rfl, Or.inl ⟨rfl, fun y hy => ?_⟩⟩
    obtain ⟨q, h2⟩ := List.getElem?_of_mem hy
    exact hq q y (by have := (List.getElem?_eq_some_iff.mp h2).1; omega) h2
  | succ d ih =>
    intro p f hp hf hq
    obtain ⟨f, rfl⟩ : ∃ f', f = f' + 1 := ⟨f - 1, by omega⟩
    have h1 := hl.1
    obtain ⟨y, hy⟩ : ∃ y, l[p]? = some y := ⟨_, List.getElem?_eq_getElem (by omega)⟩
    have h2 := (hl.2 p y hy).1
    rw [qsX2_placeOf_run0]
    unfold sX2_placeOf_h2
    simp only [Int.toNat_natCast]
    refine zT_ltT (by omega) (zT_ltT (by omega) (zT_ix (by omega) (zT_eq (by omega) (fun c => ?_) (fun c => ?_))))
    · exact zT_some ⟨rfl, Or.inr ⟨p, y, rfl, hy, by omega, hq⟩⟩
    · refine zT_let ?_
      exact ih (p + 1) f (by omega) (by omega) (fun q y' h h' => by
        rcases Nat.lt_or_ge q p with c1 | c1
        · exact hq q y' c1 h'
        · have : q = p := by omega
          subst this
          rw [hy] at h'
          cases h'
          omega)
theorem t_placeOf {n : Nat} {k : Int} (hn : 24 < n) (hl : LN g i l) (hc : l.length ≤ 24) (hk : 0 ≤ k ∧ k < 24) : zT (sX2_placeOf n i k g) (fun r g' => g' = g ∧ ((r = -1 ∧ ∀ y ∈ l, y % 24 ≠ k) ∨ ∃ (q : Nat) (y : Int), r = (q : Int) ∧ l[q]? = some y ∧ y % 24 = k ∧ ∀ q' y', q' < q → l[q']? = some y' → y' % 24 ≠ k)) :=
  t_placeOf_run hl hc hk l.length 0 n (by omega) (by omega) (fun q y h => by omega)
theorem t_countAheadOf_run {n : Nat} {m : Int} (hl : LN g i l) (hk : uKb l) (hc : l.length ≤ 24) (hm : -10000 ≤ m ∧ m ≤ 10000) : ∀ (d p f : Nat), p + d = l.length → d < f → (∀ q y, q < p → l[q]? = some y → y / 24 < m) →
    zT (sX2_countAheadOf_run n f 0 i m (p : Int) g) (fun r g' => g' = g ∧ ∃ q : Nat, r = (q : Int) ∧ q ≤ l.length ∧ (∀ q' y, q' < q → l[q']? = some y → y / 24 < m) ∧ ∀ y, l[q]? = some y → m ≤ y / 24) := by
  intro d
  induction d with
  | zero =>
    intro p f hp hf hq
    obtain ⟨f, rfl⟩ : ∃ f', f = f' + 1 := ⟨f - 1, by omega⟩
    have h1 := hl.1
    rw [qsX2_countAheadOf_run0]
    unfold sX2_countAheadOf_h2
    repeat' first
      | (with_reducible refine zT_ltT ?_ ?_; · omega)
      | (with_reducible refine zT_ltF ?_ ?_; · omega)
      | (with_reducible refine zT_lt ?_ (fun _ => ?_) (fun _ => ?_); · omega)
      | (with_reducible refine zT_leT ?_ ?_; · omega)
      | (with_reducible refine zT_leF ?_ ?_; · omega)
      | (with_reducible refine zT_le ?_ (fun _ => ?_) (fun _ => ?_); · omega)
      | (with_reducible refine zT_eqT ?_ ?_; · omega)
      | (with_reducible refine zT_eqF ?_ ?_; · omega)
      | (with_reducible refine zT_eq ?_ (fun _ => ?_) (fun _ => ?_); · omega)
      | (with_reducible refine zT_ix ?_ ?_; · omega)
      | (with_reducible refine zT_li ?_ ?_; · omega)
      | (with_reducible refine zT_bo ?_ ?_; · omega)
      | (with_reducible refine zT_ri ?_ ?_; · omega)
      | (with_reducible refine zT_dv ?_ ?_; · omega)
      | (with_reducible refine zT_let ?_)
    refine zT_some ⟨rfl, p, rfl, by omega, hq, fun y hy => ?_⟩
    have := (List.getElem?_eq_some_iff.mp hy).1
    omega
  | succ d ih =>
    intro p f hp hf hq
    obtain ⟨f, rfl⟩ : ∃ f', f = f' + 1 := ⟨f - 1, by omega⟩
    have h1 := hl.1
    obtain ⟨y, hy⟩ : ∃ y, l[p]? = some y := ⟨_, List.getElem?_eq_getElem (by omega)⟩
    have h2 := hk y (List.mem_of_getElem? hy)
    rw [qsX2_countAheadOf_run0]
    unfold sX2_countAheadOf_h2
    refine zT_ltT (by omega) (zT_bde (e_timeAt hl hc hy) (zT_lt (by omega) (fun c => ?_) (fun c => ?_)))
    · refine zT_let ?_
      exact ih (p + 1) f (by omega) (by omega) (fun q y' h h' => by
        rcases Nat.lt_or_ge q p with c1 | c1
        · exact hq q y' c1 h'
        · have : q = p := by omega
          subst this
          rw [hy] at h'
          cases h'
          omega)
    · refine zT_some ⟨rfl, p, rfl, by omega, hq, fun y' hy' => ?_⟩
      rw [hy] at hy'
      cases hy'
      exact c
theorem t_countAheadOf {n p : Nat} {m : Int} (hn : 24 < n) (hl : LN g i l) (hk : uKb l) (hc : l.length ≤ 24) (hm : -10000 ≤ m ∧ m ≤ 10000) (hp : p ≤ l.length) (hq : ∀ q y, q < p → l[q]? = some y → y / 24 < m) :
    zT (sX2_countAheadOf n i m (p : Int) g) (fun r g' => g' = g ∧ ∃ q : Nat, r = (q : Int) ∧ q ≤ l.length ∧ (∀ q' y, q' < q → l[q']? = some y → y / 24 < m) ∧ ∀ y, l[q]? = some y → m ≤ y / 24) :=
  t_countAheadOf_run hl hk hc hm (l.length - p) p n (by omega) (by omega) hq
end LNS

/-! deals -/
/-- the flights are the same, but for slot times and rulings -/
def DF (g g' : zG) : Prop := ∀ k j p, ((k = 1 ∧ j = 0) ∨ (k = 4 ∧ p < 10 ∧ p ≠ 4 ∧ p ≠ 5) ∨ k = 14 ∨ k = 15) → g' k j p = g k j p
section DFS
variable {g g' : zG} {k r : Nat} {s : Int}
theorem DF.f (h : DF g g') {p : Nat} (hp : p < 10 ∧ p ≠ 4 ∧ p ≠ 5) : g' 4 k p = g 4 k p := h 4 k p (by omega)
theorem DF.b (h : DF g g') : uB g' k s = uB g k s := h 14 k s.toNat (by omega)
theorem DF.fix (h : DF g g') : uFix g' k = uFix g k := by
  unfold uFix
  rw [h.f (k := k) (p := 2) (by decide), h.f (k := k) (p := 3) (by decide)]
theorem DF.lst (h : DF g g') : uLst g' k = uLst g k := by
  unfold uLst
  rw [h.f (k := k) (p := 2) (by decide), h.f (k := k) (p := 3) (by decide)]
theorem DF.ltm (h : DF g g') : uLtm g' k s = uLtm g k s := by
  unfold uLtm
  rw [h.b, h.f (k := k) (p := 1) (by decide), h.f (k := k) (p := 2) (by decide), h.f (k := k) (p := 6) (by decide)]
theorem uLF_df (h : DF g g') (hr : ∀ p, g' 5 r p = g 5 r p) : uLF g' r = uLF g r := by
  have e : uTf g' r = uTf g r := by
    funext k
    unfold uTf
    rw [hr 0, hr 1, hr 2, h.ltm, h.fix]
  unfold uLF uFr
  rw [e, hr 4, h 1 0 2 (by omega)]
theorem uLL_df (h : DF g g') (hr : ∀ p, g' 5 r p = g 5 r p) : uLL g' r = uLL g r := by
  have e : uTl g' r = uTl g r := by
    funext k
    unfold uTl
    rw [hr 0, hr 1, hr 2, h.ltm, h.lst]
  unfold uLL uFr
  rw [e, hr 4, h 1 0 2 (by omega)]
theorem uT1_df (h : DF g g') (hr : ∀ p, g' 5 r p = g 5 r p) : uT1 g' r = uT1 g r := by
  unfold uT1 uEnR
  rw [uLF_df h hr, uSc_congr hr, hr 1, hr 2, hr 3]
theorem uO1_df (h : DF g g') (hr : ∀ p, g' 5 r p = g 5 r p) : uO1 g' r = uO1 g r := by
  unfold uO1 uEnR
  rw [uLF_df h hr, uSc_congr hr, hr 1, hr 2, hr 3]
theorem uO2_df (h : DF g g') (hr : ∀ p, g' 5 r p = g 5 r p) : uO2 g' r = uO2 g r := by
  unfold uO2 uEnR
  rw [uLL_df h hr, uT1_df h hr, uSc_congr hr, hr 1, hr 2, hr 3]
theorem uPen_df {x : Int} (h : DF g g') (hr : ∀ p, g' 5 r p = g 5 r p) : uPen g' r x = uPen g r x := by
  unfold uPen uEnR uBgR
  rw [uLL_df h hr, uT1_df h hr, uSc_congr hr, hr 1, hr 2, hr 3]
theorem uDue_df {x : Int} (h : DF g g') : ∀ {m : Nat}, (∀ r, r < m → ∀ p, g' 5 r p = g 5 r p) → uDue g' x m = uDue g x m ∧ uRul g' x m = uRul g x m := by
  intro m
  induction m with
  | zero => intro _; exact ⟨rfl, rfl⟩
  | succ m ih =>
    intro hr
    obtain ⟨h1, h2⟩ := ih (fun r h => hr r (by omega))
    have h3 := uPen_df (x := x) h (hr m (by omega))
    unfold uDue uRul
    rw [h1, h2, h3]
    exact ⟨rfl, rfl⟩
end DFS
section DE
variable {g : zG} {F R n k : Nat}
theorem uPn_tg {en bg : Nat → Int} {S : Nat} {to x : Int} : ∀ {l : List Int} {T : Nat → Bool}, (∀ y ∈ l, y / 24 < to) → (∀ j, j < S → bg j < to) → uPn en bg S to T l x (-1) = -1 ∨ ∃ y ∈ l, y % 24 = x ∧ y / 24 + uPn en bg S to T l x (-1) ≤ to := by
  intro l
  induction l with
  | nil => intro T _ _; exact Or.inl rfl
  | cons a l ih =>
    intro T h hb
    unfold uPn
    split
    · rename_i c
      refine Or.inr ⟨a, List.mem_cons_self, c, ?_⟩
      have h1 := h a List.mem_cons_self
      cases hc : uTk en T (a / 24) S 0 with
      | none =>
        show a / 24 + (to - a / 24) ≤ to
        omega
      | some j =>
        have h4 := hb j (by have := (uTk_some hc).2.1; omega)
        show a / 24 + (max (a / 24) (bg j) - a / 24) ≤ to
        omega
    · rcases ih (fun y hy => h y (List.mem_cons_of_mem _ hy)) hb with z | ⟨y, z1, z2⟩
      · exact Or.inl z
      · exact Or.inr ⟨y, List.mem_cons_of_mem _ z1, z2⟩
/-- a penalty comes of a time over the sector -/
theorem uPen_time {r : Nat} (hF : FOK g F) (hr : rgok g r) (hk : k < F) (hp : 0 ≤ uPen g r (k : Int)) (hst : g 4 k 2 = 0) : uB g k (g 5 r 0) ≠ -1 ∧ g 4 k 1 + uB g k (g 5 r 0) + uPen g r (k : Int) ≤ 1440 := by
  have hfr := uFr_le (r := r) hF
  have hr2 := hr
  unfold rgok at hr2
  rcases uPn_tg (en := uEnR g r) (bg := uBgR g r) (S := uSc g r) (to := g 5 r 2) (x := (k : Int)) (l := uLL g r) (T := uT1 g r) (fun y hy => (uLL_time hF hr y hy).2) (fun j hj => uSc_bg hr hj) with z | ⟨y, y1, y2, y3⟩
  · have : uPen g r (k : Int) = -1 := z
    omega
  · obtain ⟨j, j1, j2, j3, j4, j5⟩ := (uKs_mem hfr.1).mp y1
    have hjk : j = k := by omega
    subst hjk
    have e : uTl g r j = if uLst g j = 1 ∧ g 5 r 1 ≤ uLtm g j (g 5 r 0) ∧ uLtm g j (g 5 r 0) < g 5 r 2 then uLtm g j (g 5 r 0) else -1 := rfl
    have hl : uTl g r j = uLtm g j (g 5 r 0) ∧ 0 ≤ uLtm g j (g 5 r 0) := by
      split at e
      · omega
      · omega
    have hb : uB g j (g 5 r 0) ≠ -1 := by
      intro hb
      have : uLtm g j (g 5 r 0) = -1 := by unfold uLtm; rw [if_pos hb]
      omega
    have hm : uLtm g j (g 5 r 0) = g 4 j 1 + uB g j (g 5 r 0) := by
      unfold uLtm
      rw [if_neg hb, if_neg (by omega)]
    have y3 : y / 24 + uPen g r (j : Int) ≤ g 5 r 2 := y3
    exact ⟨hb, by omega⟩
theorem t_dealI {w : Int} (hn : 3000 < n) (hI : INV g F R) (hw : w = 0 ∨ w = 1) : zT (sX4_deal n w g) (fun z g' => z = uSum (uNd g w R) F ∧ INV g' F R ∧ D3 g g' ∧ DF g g' ∧ (∀ r p, g' 5 r p = g 5 r p) ∧ (∀ k, k < F → g' 4 k 4 = uNs g w R k ∧ g' 4 k 5 = uNr g w R k)) := by
  obtain ⟨i1, i2, i3⟩ := id hI
  have h24 := i1.2.1
  have hR6 := i2.2.1
  refine zT_mono (t_deal (n := n) (w := w) hn i1 i2 hw) ?_
  rintro z g2 ⟨p0, p1, p2⟩
  have cl : ∀ a b c, (a = 1 ∨ (a = 4 ∧ c < 10 ∧ c ≠ 4 ∧ c ≠ 5) ∨ a = 5 ∨ a = 14 ∨ a = 15 ∨ a = 17) → g2 a b c = g a b c := fun a b c q => p1 a b c (by omega)
  refine ⟨p0, ?_, fun q => cl 17 0 q (by omega), fun a b c q => cl a b c (by omega), fun r p => cl 5 r p (by omega), p2⟩
  have n4 : ∀ k, k < F → g2 4 k 4 = uNs g w R k := fun k hk => (p2 k hk).1
  have n5 : ∀ k, k < F → g2 4 k 5 = uNr g w R k := fun k hk => (p2 k hk).2
  -- what the new slot times are
  have hnew : ∀ k, k < F → (-1 ≤ uNs g w R k ∧ uNs g w R k ≤ 1440) ∧ (-1 ≤ uNr g w R k ∧ uNr g w R k ≤ 5) ∧ (((uNs g w R k = -1 ∧ uNr g w R k = -1) ∨ (g 4 k 1 ≤ uNs g w R k ∧ 0 ≤ uNr g w R k ∧ uNr g w R k < (R : Int) ∧ uB g k (g 5 (uNr g w R k).toNat 0) ≠ -1 ∧ uNs g w R k + uB g k (g 5 (uNr g w R k).toNat 0) ≤ 1440)) ∧ (g 4 k 2 = 0 → g 4 k 3 ≠ 0 → uNs g w R k = -1)) := by
    intro k hk
    obtain ⟨hfk, hbk⟩ := i1.2.2 k hk
    have hsk := i3 k hk
    have hf2 := hfk
    unfold flok at hf2
    have hkeep : uNs g w R k = g 4 k 4 → uNr g w R k = g 4 k 5 → (-1 ≤ uNs g w R k ∧ uNs g w R k ≤ 1440) ∧ (-1 ≤ uNr g w R k ∧ uNr g w R k ≤ 5) ∧ (((uNs g w R k = -1 ∧ uNr g w R k = -1) ∨ (g 4 k 1 ≤ uNs g w R k ∧ 0 ≤ uNr g w R k ∧ uNr g w R k < (R : Int) ∧ uB g k (g 5 (uNr g w R k).toNat 0) ≠ -1 ∧ uNs g w R k + uB g k (g 5 (uNr g w R k).toNat 0) ≤ 1440)) ∧ (g 4 k 2 = 0 → g 4 k 3 ≠ 0 → uNs g w R k = -1)) := by
      intro z1 z2
      rw [z1, z2]
      exact ⟨by omega, by omega, hsk.1, hsk.2⟩
    by_cases hl : uLst g k = 1
    · have hwait : g 4 k 2 = 0 ∧ g 4 k 3 = 0 := by
        unfold uLst at hl
        split at hl
        · rename_i c; exact c
        · cases hl
      have es : uNs g w R k = if uDue g (k : Int) R = 0 then -1 else if w ≠ 0 ∨ g 4 k 4 = -1 ∨ g 4 k 1 + uDue g (k : Int) R ≤ g 4 k 4 then g 4 k 1 + uDue g (k : Int) R else g 4 k 4 := by
        unfold uNs
        rw [if_pos hl]
      have er : uNr g w R k = if uDue g (k : Int) R = 0 then -1 else if w ≠ 0 ∨ g 4 k 4 = -1 ∨ g 4 k 1 + uDue g (k : Int) R ≤ g 4 k 4 then uRul g (k : Int) R else g 4 k 5 := by
        unfold uNr
        rw [if_pos hl]
      by_cases c1 : uDue g (k : Int) R = 0
      · rw [if_pos c1] at es er
        rw [es, er]
        exact ⟨by omega, by omega, Or.inl ⟨rfl, rfl⟩, fun _ _ => rfl⟩
      · rw [if_neg c1] at es er
        by_cases c2 : w ≠ 0 ∨ g 4 k 4 = -1 ∨ g 4 k 1 + uDue g (k : Int) R ≤ g 4 k 4
        · rw [if_pos c2] at es er
          rcases uRul_due (g := g) (k := (k : Int)) (m := R) with ⟨z1, z2⟩ | ⟨r, z1, z2, z3, z4⟩
          · exact absurd z2 c1
          · obtain ⟨t1, t2⟩ := uPen_time i1 (i2.2.2 r z2) hk (by omega) hwait.1
            have hrs := i2.2.2 r z2
            unfold rgok at hrs
            have hB := uB_bd hbk (s := g 5 r 0) (by omega)
            rw [es, er, z1, Int.toNat_natCast, z3]
            exact ⟨by omega, by omega, Or.inr ⟨by omega, by omega, by omega, t1, by omega⟩, fun _ q => absurd hwait.2 q⟩
        · rw [if_neg c2] at es er
          exact hkeep es er
    · refine hkeep ?_ ?_
      · unfold uNs
        rw [if_neg hl]
      · unfold uNr
        rw [if_neg hl]
  have cf1 : ∀ k p, p < 10 → p ≠ 4 → p ≠ 5 → g2 4 k p = g 4 k p := fun k p z1 z2 z3 => cl 4 k p (by omega)
  refine ⟨⟨by rw [cl 1 0 2 (by omega)]; exact i1.1, h24, fun k hk => ?_⟩, ⟨by rw [cl 1 1 2 (by omega)]; exact i2.1, hR6, fun r hr => ?_⟩, fun k hk => ?_⟩
  · obtain ⟨z1, z2⟩ := i1.2.2 k hk
    obtain ⟨y1, y2, -⟩ := hnew k hk
    refine ⟨?_, fun s q3 q4 => ?_⟩
    · unfold flok at z1 ⊢
      rw [cf1 k 0 (by decide) (by decide) (by decide), cf1 k 1 (by decide) (by decide) (by decide), cf1 k 2 (by decide) (by decide) (by decide), cf1 k 3 (by decide) (by decide) (by decide), n4 k hk, n5 k hk, cf1 k 6 (by decide) (by decide) (by decide), cf1 k 7 (by decide) (by decide) (by decide), cf1 k 8 (by decide) (by decide) (by decide), cf1 k 9 (by decide) (by decide) (by decide)]
      exact ⟨z1.1, z1.2.1, z1.2.2.1, z1.2.2.2.1, y1, y2, z1.2.2.2.2.2.2⟩
    · rw [cl 14 k s.toNat (by omega), cl 15 k s.toNat (by omega)]
      exact z2 s q3 q4
  · have z := i2.2.2 r hr
    unfold rgok at z ⊢
    rw [cl 5 r 0 (by omega), cl 5 r 1 (by omega), cl 5 r 2 (by omega), cl 5 r 3 (by omega), cl 5 r 4 (by omega)]
    exact z
  · obtain ⟨-, -, y3⟩ := hnew k hk
    unfold sok uB at *
    rw [n4 k hk, n5 k hk, cf1 k 1 (by decide) (by decide) (by decide), cf1 k 2 (by decide) (by decide) (by decide), cf1 k 3 (by decide) (by decide) (by decide), cl 5 _ 0 (by omega), cl 14 k _ (by omega)]
    exact y3
end DE

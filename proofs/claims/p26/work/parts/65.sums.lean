/-! sums, slots, dues: what the day's checks rest on -/
theorem uSum_ge {f : Nat → Int} {n k : Nat} (h : ∀ j, j < n → 0 ≤ f j) (hk : k < n) : f k ≤ uSum f n := by
  have h1 := uSum_mono (f := fun j => if j = k then f k else 0) (h := f) (n := n) (fun j hj => by
    show (if j = k then f k else 0) ≤ f j
    split
    · rename_i c; rw [c]; exact Int.le_refl _
    · exact h j hj)
  have h2 := uSum_upd (f := fun j => if j = k then f k else 0) (h := fun _ => 0) hk (fun j _ hj => by
    show (if j = k then f k else 0) = 0
    rw [if_neg hj])
  have h3 : uSum (fun _ => (0 : Int)) n = 0 := uSum_zero (fun _ _ => rfl)
  rw [h3] at h2
  have h4 : (if k = k then f k else 0) = f k := if_pos rfl
  have h5 : uSum (fun j => if j = k then f k else 0) n = 0 + ((if k = k then f k else 0) - 0) := h2
  omega
theorem uSum_one {n k : Nat} {v : Int} (hk : k < n) : uSum (fun j => if j = k then v else 0) n = v := by
  have h2 := uSum_upd (f := fun j => if j = k then v else 0) (h := fun _ => 0) hk (fun j _ hj => by
    show (if j = k then v else 0) = 0
    rw [if_neg hj])
  have h3 : uSum (fun _ => (0 : Int)) n = 0 := uSum_zero (fun _ _ => rfl)
  have h5 : uSum (fun j => if j = k then v else 0) n = uSum (fun _ => (0 : Int)) n + ((if k = k then v else 0) - 0) := h2
  rw [h5, h3, if_pos rfl]
  omega
theorem uSum_add {f h : Nat → Int} {n : Nat} : uSum (fun k => f k + h k) n = uSum f n + uSum h n := by
  induction n with
  | zero => rfl
  | succ n ih =>
    show uSum (fun k => f k + h k) n + (f n + h n) = uSum f n + f n + (uSum h n + h n)
    rw [ih]
    omega
theorem uSum_swap {f : Nat → Nat → Int} {m : Nat} : ∀ {n : Nat}, uSum (fun q => uSum (f q) m) n = uSum (fun k => uSum (fun q => f q k) n) m := by
  intro n
  induction n with
  | zero => exact (uSum_zero (fun _ _ => rfl)).symm
  | succ n ih =>
    show uSum (fun q => uSum (f q) m) n + uSum (f n) m = _
    rw [ih, ← uSum_add]
    rfl
/-! slots that are free -/
def uCT (T : Nat → Bool) (S : Nat) : Int := uSum (fun j => if T j = true then 1 else 0) S
theorem uCT_bd {T : Nat → Bool} {S : Nat} : 0 ≤ uCT T S ∧ uCT T S ≤ (S : Int) := by
  have := uSum_bound (f := fun j => if T j = true then (1 : Int) else 0) (m := 1) (n := S) (fun k _ => by
    show 0 ≤ (if T k = true then (1 : Int) else 0) ∧ (if T k = true then (1 : Int) else 0) ≤ 1
    split <;> omega)
  unfold uCT
  omega
theorem uCT_put {T : Nat → Bool} {S : Nat} {o : Option Nat} (h : ∀ j, o = some j → j < S ∧ T j = false) : uCT (uPut T o) S = uCT T S + (1 - uN1 o) := by
  cases o with
  | none =>
    show uCT T S = uCT T S + (1 - 1)
    omega
  | some j =>
    obtain ⟨h1, h2⟩ := h j rfl
    have e := uSum_upd (f := fun i => if uPut T (some j) i = true then (1 : Int) else 0) (h := fun i => if T i = true then (1 : Int) else 0) h1 (fun i _ hi => by
      show (if (i == j || T i) = true then (1 : Int) else 0) = _
      have : (i == j) = false := by simp [hi]
      rw [this, Bool.false_or])
    have a1 : (if uPut T (some j) j = true then (1 : Int) else 0) = 1 := by
      show (if (j == j || T j) = true then (1 : Int) else 0) = 1
      simp
    have a2 : (if T j = true then (1 : Int) else 0) = 0 := by rw [h2]; rfl
    show uSum (fun i => if uPut T (some j) i = true then (1 : Int) else 0) S = uCT T S + (1 - 0)
    unfold uCT
    have e' : uSum (fun i => if uPut T (some j) i = true then (1 : Int) else 0) S = uSum (fun i => if T i = true then (1 : Int) else 0) S + ((if uPut T (some j) j = true then (1 : Int) else 0) - (if T j = true then (1 : Int) else 0)) := e
    rw [e', a1, a2]
theorem uNo_cons {o : Option Nat} {l : List (Option Nat)} : uNo (o :: l) = uNo l + uN1 o := by
  cases o with
  | none => rfl
  | some j =>
    show uNo l = uNo l + 0
    omega
theorem uCT_deal {en : Nat → Int} {S : Nat} : ∀ {l : List Int} {T : Nat → Bool}, uCT (uDT en S T l) S = uCT T S + ((l.length : Int) - uNo (uDl en S T l)) := by
  intro l
  induction l with
  | nil =>
    intro T
    show uCT T S = uCT T S + (((0 : Nat) : Int) - 0)
    omega
  | cons y l ih =>
    intro T
    show uCT (uDT en S (uPut T (uTk en T (y / 24) S 0)) l) S = uCT T S + (((l.length + 1 : Nat) : Int) - uNo (uTk en T (y / 24) S 0 :: uDl en S (uPut T (uTk en T (y / 24) S 0)) l))
    rw [ih, uNo_cons, uCT_put (fun j hj => by
      obtain ⟨-, z2, z3, -⟩ := uTk_some hj
      exact ⟨by omega, z3⟩)]
    omega
section RGS
variable {g : zG} {F R : Nat}
theorem uRis_free {r : Nat} : uRis g F r 0 = (uSc g r : Int) ∧ uRis g F r 2 = ((uLF g r).length : Int) ∧ uRis g F r 3 = ((uLL g r).length : Int) ∧ uRis g F r 4 = uNo (uO2 g r) ∧ uRis g F r 5 = g 5 r 3 ∧ uRis g F r 6 = uSum (uChr g (r : Int)) F ∧ uRis g F r 1 = (uSc g r : Int) - (((uLF g r).length : Int) - uNo (uO1 g r)) - (((uLL g r).length : Int) - uNo (uO2 g r)) := by
  unfold uRis
  refine ⟨rfl, rfl, rfl, rfl, rfl, rfl, rfl⟩
theorem uFree_nn {r : Nat} : 0 ≤ (uSc g r : Int) - (((uLF g r).length : Int) - uNo (uO1 g r)) - (((uLL g r).length : Int) - uNo (uO2 g r)) := by
  have h1 := uCT_deal (en := uEnR g r) (S := uSc g r) (l := uLF g r) (T := fun _ => false)
  have h2 := uCT_deal (en := uEnR g r) (S := uSc g r) (l := uLL g r) (T := uT1 g r)
  have h3 : uCT (fun _ => false) (uSc g r) = 0 := uSum_zero (fun _ _ => rfl)
  have h4 := (uCT_bd (T := uDT (uEnR g r) (uSc g r) (uT1 g r) (uLL g r)) (S := uSc g r)).2
  have e1 : uT1 g r = uDT (uEnR g r) (uSc g r) (fun _ => false) (uLF g r) := rfl
  have e2 : uO1 g r = uDl (uEnR g r) (uSc g r) (fun _ => false) (uLF g r) := rfl
  have e3 : uO2 g r = uDl (uEnR g r) (uSc g r) (uT1 g r) (uLL g r) := rfl
  rw [← e1, ← e2, h3] at h1
  rw [← e3] at h2
  omega
theorem uNo_bds {r : Nat} : (0 ≤ uNo (uO1 g r) ∧ uNo (uO1 g r) ≤ ((uLF g r).length : Int)) ∧ (0 ≤ uNo (uO2 g r) ∧ uNo (uO2 g r) ≤ ((uLL g r).length : Int)) := by
  have n1 : 0 ≤ uNo (uO1 g r) ∧ uNo (uO1 g r) ≤ ((uO1 g r).length : Int) := uNo_bound
  have n2 : 0 ≤ uNo (uO2 g r) ∧ uNo (uO2 g r) ≤ ((uO2 g r).length : Int) := uNo_bound
  have m1 : (uO1 g r).length = (uLF g r).length := uDl_len
  have m2 : (uO2 g r).length = (uLL g r).length := uDl_len
  omega
/-- charges by rulings and by companies are alike -/
theorem uCharged {g : zG} {F R : Nat} (hI : INV g F R) : uSum (fun q => uSum (uChr g (q : Int)) F) R = uSum (fun c => uSum (uCoi g (c : Int) 0) F) 4 := by
  rw [uSum_swap (f := fun q => uChr g (q : Int)), uSum_swap (f := fun c => uCoi g (c : Int) 0)]
  refine uSum_congr (fun k hk => ?_)
  obtain ⟨hf, -⟩ := hI.1.2.2 k hk
  have hs := hI.2.2 k hk
  have hf2 := hf
  unfold flok at hf2
  have e2 : uSum (fun c : Nat => uCoi g (c : Int) 0 k) 4 = uChg g k := by
    have h1 : ∀ c : Nat, uCoi g (c : Int) 0 k = if c = (g 4 k 0).toNat then uChg g k else 0 := by
      intro c
      have e : uLed g k 0 = uChg g k := rfl
      unfold uCoi
      rw [e]
      by_cases z : c = (g 4 k 0).toNat
      · rw [if_pos (by omega), if_pos z]
      · rw [if_neg (by omega), if_neg z]
    rw [uSum_congr (fun c _ => h1 c)]
    exact uSum_one (by omega)
  rw [e2]
  rcases hs.1 with ⟨z1, z2⟩ | ⟨z1, z2, z3, -⟩
  · have h0 : uChg g k = 0 := by
      unfold uChg uDly
      rw [if_pos z1]
      split <;> rfl
    rw [h0]
    refine uSum_zero (fun q _ => ?_)
    show uChr g (q : Int) k = 0
    unfold uChr
    rw [h0]
    split <;> rfl
  · have h1 : ∀ q : Nat, uChr g (q : Int) k = if q = (g 4 k 5).toNat then uChg g k else 0 := by
      intro q
      unfold uChr
      by_cases z : q = (g 4 k 5).toNat
      · rw [if_pos (by omega), if_pos z]
      · rw [if_neg (by omega), if_neg z]
    rw [uSum_congr (fun q _ => h1 q)]
    exact uSum_one (by omega)
theorem uGone {c : Int} : uSum (uCoi g c 1) F ≤ uSum (uCoi g c 2) F := uSum_mono (fun k _ => by
  unfold uCoi uLed uOut
  simp only [show (2 : Int) ≠ 0 from by decide, show (2 : Int) ≠ 1 from by decide, show (1 : Int) ≠ 0 from by decide, if_false, if_true]
  split
  · split
    · rename_i z
      rw [if_pos z.1]
      exact Int.le_refl _
    · split <;> omega
  · omega)
/-! dues -/
theorem uDue_of {k : Int} (h : ∀ r, r < R → uPen g r k ≤ 0) : uDue g k R = 0 := by
  have h1 : uDue g k R = uMx (fun r => uPen g r k) R := uDue_max
  have h2 : uMx (fun r => uPen g r k) R ≤ 0 := uMx_le (Int.le_refl 0) h
  have h3 : 0 ≤ uMx (fun r => uPen g r k) R := uMx_nn
  omega
theorem uPen_no {r k : Nat} (hF : FOK g F) (hk : k < F) (h : uTl g r k < 0) : uPen g r (k : Int) = -1 := by
  have hfr := uFr_le (r := r) hF
  refine uPn_out (fun y hy hyk => ?_)
  obtain ⟨j, j1, j2, j3, j4, j5⟩ := (uKs_mem hfr.1).mp hy
  have : j = k := by omega
  subst this
  omega
theorem uDue_not {k : Nat} (hI : INV g F R) (hk : k < F) (h : uLst g k = 0) : uDue g (k : Int) R = 0 := uDue_of (fun r hr => by
  rw [uPen_no hI.1 hk (by unfold uTl; rw [if_neg (by omega)]; decide)]
  decide)
theorem uDue_noentry {k : Nat} (hI : INV g F R) (hk : k < F) (h : ∀ s : Int, 0 ≤ s → s < 6 → uB g k s = -1) : uDue g (k : Int) R = 0 := uDue_of (fun r hr => by
  have hrg := hI.2.1.2.2 r hr
  unfold rgok at hrg
  have e : uLtm g k (g 5 r 0) = -1 := by
    unfold uLtm
    rw [if_pos (h _ hrg.1.1 hrg.1.2)]
  rw [uPen_no hI.1 hk (by unfold uTl; rw [if_neg (by omega)]; decide)]
  decide)
theorem uDue_le {k : Nat} (hI : INV g F R) (hk : k < F) : uDue g (k : Int) R ≤ uAll g F R := by
  unfold uAll
  exact uSum_ge (f := fun j : Nat => uDue g (j : Int) R) (fun j _ => (uDue_bd hI.1 hI.2.1.2.2).1) hk
theorem uDue_rng {k : Int} (hI : INV g F R) : 0 ≤ uDue g k R ∧ uDue g k R ≤ 1440 := uDue_bd hI.1 hI.2.1.2.2
theorem uPen_ended {r : Nat} {k : Int} (h4 : g 5 r 4 ≠ 0) : uPen g r k = -1 := by
  unfold uPen uLL uFr
  rw [if_neg h4]
  rfl
theorem uRul_due {k : Int} : ∀ {m : Nat}, (uRul g k m = -1 ∧ uDue g k m = 0) ∨ ∃ r : Nat, uRul g k m = (r : Int) ∧ r < m ∧ uDue g k m = uPen g r k ∧ 0 < uDue g k m := by
  intro m
  induction m with
  | zero => exact Or.inl ⟨rfl, rfl⟩
  | succ m ih =>
    have e1 : uRul g k (m + 1) = if uDue g k m < uPen g m k then (m : Int) else uRul g k m := rfl
    have e2 : uDue g k (m + 1) = if uDue g k m < uPen g m k then uPen g m k else uDue g k m := rfl
    rw [e1, e2]
    by_cases c : uDue g k m < uPen g m k
    · rw [if_pos c, if_pos c]
      refine Or.inr ⟨m, rfl, by omega, rfl, ?_⟩
      rcases ih with ⟨a, b⟩ | ⟨r, a, b, d, e⟩ <;> omega
    · rw [if_neg c, if_neg c]
      rcases ih with h | ⟨r, a, b, d⟩
      · exact Or.inl h
      · exact Or.inr ⟨r, a, by omega, d⟩
/-! slots -/
theorem uBg_up {fr rt : Int} {j : Nat} (hr : 0 < rt ∧ rt ≤ 60) : uBg fr rt j < uBg fr rt (j + 1) := by
  unfold uBg
  have h1 : (60 * (j : Int)) / rt + 1 ≤ (60 * ((j + 1 : Nat) : Int)) / rt := by
    rw [Int.le_ediv_iff_mul_le hr.1, Int.add_mul]
    have h2 : (60 * (j : Int)) / rt * rt ≤ 60 * (j : Int) := Int.ediv_mul_le _ (by omega)
    omega
  omega
theorem uSlo_end {r : Nat} : uSlo g r (uSc g r : Int) = -1 := by
  unfold uSlo
  rw [if_neg (by omega)]
theorem uSlo_up {r j : Nat} (hr : rgok g r) (h1 : 1 ≤ j) (h2 : j < uSc g r) : uSlo g r ((j : Int) - 1) < uSlo g r (j : Int) := by
  have hp := uSc_pos hr (by omega)
  unfold rgok at hr
  unfold uSlo
  rw [if_pos (by omega), if_pos (by omega), show ((j : Int) - 1).toNat = j - 1 from by omega, Int.toNat_natCast]
  have := uBg_up (fr := g 5 r 1) (rt := g 5 r 3) (j := j - 1) (by omega)
  rw [show j - 1 + 1 = j from by omega] at this
  exact this
theorem uSlo_bd {r : Nat} {j : Int} (hr : rgok g r) (hj : 0 ≤ j) : -1 ≤ uSlo g r j ∧ uSlo g r j ≤ 1440 := by
  unfold uSlo
  split
  · rename_i c
    have h1 := uSc_bg (j := j.toNat) hr (by omega)
    have hp := uSc_pos hr (by omega)
    have h2 : g 5 r 1 ≤ uBgR g r j.toNat := (uBg_ge hp.1).1
    unfold rgok at hr
    omega
  · omega
theorem uSlo_first {r : Nat} (hr : rgok g r) (h4 : g 5 r 4 = 0) : uSlo g r 0 = if g 5 r 3 = 0 then -1 else g 5 r 1 := by
  have hr2 := hr
  unfold rgok at hr2
  have e : uSc g r = uS (g 5 r 1) (g 5 r 2) (g 5 r 3) := by
    unfold uSc
    rw [if_pos h4]
  unfold uSlo
  by_cases c : g 5 r 3 = 0
  · rw [if_pos c, e, c, uS_zero]
    rfl
  · rw [if_neg c]
    have h0 : uBg (g 5 r 1) (g 5 r 3) 0 = g 5 r 1 := by
      unfold uBg
      show g 5 r 1 + (60 * ((0 : Nat) : Int)) / g 5 r 3 = g 5 r 1
      simp
    have h1 : 0 < uSc g r := by
      rw [e]
      exact (uS_iff (by omega)).mp (by rw [h0]; omega)
    rw [if_pos (by omega)]
    exact h0
theorem uSc_ended {r : Nat} (h4 : g 5 r 4 ≠ 0) : uSc g r = 0 := by
  unfold uSc
  rw [if_neg h4]
/-! loads -/
theorem uLoad_le {s b w : Int} (hI : INV g F R) (hs : 0 ≤ s ∧ s < 6) (hb : 0 ≤ b ∧ b ≤ 2999) (hw : 1 ≤ w) : uLoad g F s b w ≤ uPeak g F s w := by
  rw [← uPeak_win hI.1 hs (by omega)]
  have := uMx_ge (f := fun b : Nat => uLoad g F s (b : Int) w) (m := 3000) (k := b.toNat) (by omega)
  have e : ((b.toNat : Nat) : Int) = b := by omega
  have h2 : uLoad g F s ((b.toNat : Nat) : Int) w ≤ uMx (fun b : Nat => uLoad g F s (b : Int) w) 3000 := this
  rw [e] at h2
  exact h2
theorem uIsd_bd {k : Nat} {s m : Int} : 0 ≤ uIsd g k s m ∧ uIsd g k s m ≤ 1 := by
  unfold uIsd
  split
  · omega
  · split <;> omega
theorem uInside_pos {k : Nat} {s : Int} (hk : k < F) (hs : 0 ≤ s ∧ s < 6) (h2 : g 4 k 2 = 0) (hb : uB g k s ≠ -1) (ht : 1 ≤ g 15 k s.toNat) : 0 < uInside g F s (uTov g k s) := by
  have h1 : uIsd g k s (uTov g k s) = 1 := by
    unfold uIsd
    have : uLds g k s = 1 := uLds_one.mpr ⟨by omega, hb⟩
    rw [if_neg (by omega), if_pos (by omega)]
  have h3 := uSum_ge (f := fun k => uIsd g k s (uTov g k s)) (n := F) (k := k)
  have h4 : uIsd g k s (uTov g k s) ≤ uSum (fun j => uIsd g j s (uTov g k s)) F := uSum_ge (f := fun j => uIsd g j s (uTov g k s)) (fun j _ => uIsd_bd.1) hk
  unfold uInside
  omega
theorem uInside_bd {s m : Int} (hI : INV g F R) : 0 ≤ uInside g F s m ∧ uInside g F s m ≤ 24 := by
  have h24 := hI.1.2.1
  have := uSum_bound (f := fun k => uIsd g k s m) (m := 1) (n := F) (fun k _ => uIsd_bd)
  unfold uInside
  omega
end RGS

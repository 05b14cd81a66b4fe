/-! the dues of the flights -/
/-- the flights are the same -/
def CF (g g' : zG) : Prop := ∀ k j p, ((k = 1 ∧ j = 0) ∨ (k = 4 ∧ p < 10) ∨ k = 14 ∨ k = 15) → g' k j p = g k j p
theorem CS.cf {g g' : zG} (h : CS g g') : CF g g' := fun k j p hc => h k j p (by omega)
section CFS
variable {g g' : zG} {k r : Nat} {s : Int}
theorem CF.f (h : CF g g') {p : Nat} (hp : p < 10) : g' 4 k p = g 4 k p := h 4 k p (Or.inr (Or.inl ⟨rfl, hp⟩))
theorem CF.b (h : CF g g') : uB g' k s = uB g k s := h 14 k s.toNat (by omega)
theorem CF.fix (h : CF g g') : uFix g' k = uFix g k := by
  unfold uFix
  rw [h.f (k := k) (p := 2) (by decide), h.f (k := k) (p := 3) (by decide)]
theorem CF.lst (h : CF g g') : uLst g' k = uLst g k := by
  unfold uLst
  rw [h.f (k := k) (p := 2) (by decide), h.f (k := k) (p := 3) (by decide)]
theorem CF.ltm (h : CF g g') : uLtm g' k s = uLtm g k s := by
  unfold uLtm
  rw [h.b, h.f (k := k) (p := 1) (by decide), h.f (k := k) (p := 2) (by decide), h.f (k := k) (p := 6) (by decide)]
theorem uLF_congr (h : CF g g') (hr : ∀ p, g' 5 r p = g 5 r p) : uLF g' r = uLF g r := by
  have e : uTf g' r = uTf g r := by
    funext k
    unfold uTf
    rw [hr 0, hr 1, hr 2, h.ltm, h.fix]
  unfold uLF uFr
  rw [e, hr 4, h 1 0 2 (Or.inl ⟨rfl, rfl⟩)]
theorem uLL_congr (h : CF g g') (hr : ∀ p, g' 5 r p = g 5 r p) : uLL g' r = uLL g r := by
  have e : uTl g' r = uTl g r := by
    funext k
    unfold uTl
    rw [hr 0, hr 1, hr 2, h.ltm, h.lst]
  unfold uLL uFr
  rw [e, hr 4, h 1 0 2 (Or.inl ⟨rfl, rfl⟩)]
theorem uSc_congr (hr : ∀ p, g' 5 r p = g 5 r p) : uSc g' r = uSc g r := by
  unfold uSc
  rw [hr 1, hr 2, hr 3, hr 4]
theorem uT1_congr (h : CF g g') (hr : ∀ p, g' 5 r p = g 5 r p) : uT1 g' r = uT1 g r := by
  unfold uT1 uEnR
  rw [uLF_congr h hr, uSc_congr hr, hr 1, hr 2, hr 3]
theorem uO1_congr (h : CF g g') (hr : ∀ p, g' 5 r p = g 5 r p) : uO1 g' r = uO1 g r := by
  unfold uO1 uEnR
  rw [uLF_congr h hr, uSc_congr hr, hr 1, hr 2, hr 3]
theorem uO2_congr (h : CF g g') (hr : ∀ p, g' 5 r p = g 5 r p) : uO2 g' r = uO2 g r := by
  unfold uO2 uEnR
  rw [uLL_congr h hr, uT1_congr h hr, uSc_congr hr, hr 1, hr 2, hr 3]
theorem uPen_congr {x : Int} (h : CF g g') (hr : ∀ p, g' 5 r p = g 5 r p) : uPen g' r x = uPen g r x := by
  unfold uPen uEnR uBgR
  rw [uLL_congr h hr, uT1_congr h hr, uSc_congr hr, hr 1, hr 2, hr 3]
end CFS
theorem uSc_bg {g : zG} {r j : Nat} (hr : rgok g r) (hj : j < uSc g r) : uBgR g r j < g 5 r 2 := by
  have h1 := uSc_pos hr (by omega)
  unfold uSc at hj
  rw [if_pos h1.2] at hj
  exact (uS_iff h1.1).mpr hj
theorem uLL_time {g : zG} {r F : Nat} (hF : FOK g F) (hr : rgok g r) : ∀ y ∈ uLL g r, 0 ≤ y / 24 ∧ y / 24 < g 5 r 2 := by
  have hfr := uFr_le (r := r) hF
  intro y hy
  obtain ⟨k, h1, h2, h3, h4, h5⟩ := (uKs_mem hfr.1).mp hy
  have e : uTl g r k = if uLst g k = 1 ∧ g 5 r 1 ≤ uLtm g k (g 5 r 0) ∧ uLtm g k (g 5 r 0) < g 5 r 2 then uLtm g k (g 5 r 0) else -1 := rfl
  split at e <;> omega
theorem uPen_bd {g : zG} {r F : Nat} {x : Int} (hF : FOK g F) (hr : rgok g r) : -1 ≤ uPen g r x ∧ uPen g r x ≤ 1440 := by
  have h := uPn_bound (en := uEnR g r) (bg := uBgR g r) (S := uSc g r) (to := g 5 r 2) (k := x) (l := uLL g r) (T := uT1 g r) (uLL_time hF hr) (fun j hj => uSc_bg hr hj)
  have hr2 := hr
  unfold rgok at hr2
  unfold uPen
  omega
/-- what a reckoning writes -/
def FS (g g' : zG) : Prop := ∀ k j p, ¬ (k = 2 ∨ k = 3 ∨ (10 ≤ k ∧ k ≤ 13) ∨ (k = 4 ∧ 10 ≤ p)) → g' k j p = g k j p
theorem FS.rf {g : zG} : FS g g := fun _ _ _ _ => rfl
theorem FS.tr {g g1 g2 : zG} (h1 : FS g g1) (h2 : FS g1 g2) : FS g g2 := fun k j p h => (h2 k j p h).trans (h1 k j p h)
theorem FD.fs {g g' : zG} (h : FD g g') : FS g g' := fun k j p hn => h k j p (by omega)
theorem FS.cs {g g' : zG} (h : FS g g') : CS g g' := fun k j p hc => h k j p (by omega)
/-- but the reckoned numbers of the flights nothing has changed -/
def FK (g g' : zG) : Prop := ∀ k j p, ¬ (k = 4 ∧ 10 ≤ p) → g' k j p = g k j p
theorem FK.rf {g : zG} : FK g g := fun _ _ _ _ => rfl
theorem FK.tr {g g1 g2 : zG} (h1 : FK g g1) (h2 : FK g1 g2) : FK g g2 := fun k j p h => (h2 k j p h).trans (h1 k j p h)
theorem FK.fs {g g' : zG} (h : FK g g') : FS g g' := fun k j p hn => h k j p (by omega)
theorem FK.up {g : zG} {k p : Nat} {v : Int} (hp : 10 ≤ p) : FK g (zup g 4 k p v) := fun a b c h => by rw [zup_rd, if_neg (fun z => h ⟨z.1, by omega⟩)]
theorem t_reckonPen_run {n F r : Nat} {num : Int} {g0 g1 : zG} (hF : FOK g1 F) (hr : rgok g0 r) (hF0 : FOK g0 F) (hd : ∀ k, k < F → 0 ≤ g1 4 k 12 ∧ g1 4 k 12 ≤ 1440) (hp : ∀ g2 : zG, (∀ k j p, (k = 3 ∨ (10 ≤ k ∧ k ≤ 13)) → g2 k j p = g1 k j p) → ∀ k : Int, 0 ≤ k → k < 24 → sX2_penaltyOf n 1 k g2 = some (uPen g0 r k, g2)) : ∀ (d k f : Nat) (g : zG), k + d = F → d < f → FK g1 g → (∀ j, k ≤ j → j < F → g 4 j 12 = g1 4 j 12 ∧ g 4 j 13 = g1 4 j 13) → (∀ j, j < k → g 4 j 12 = (if g1 4 j 12 < uPen g0 r (j : Int) then uPen g0 r (j : Int) else g1 4 j 12) ∧ g 4 j 13 = (if g1 4 j 12 < uPen g0 r (j : Int) then num else g1 4 j 13)) →
    zT (sX4_reckonPenalties_run n f 0 num (k : Int) g) (fun _ g' => FK g1 g' ∧ ∀ j, j < F → g' 4 j 12 = (if g1 4 j 12 < uPen g0 r (j : Int) then uPen g0 r (j : Int) else g1 4 j 12) ∧ g' 4 j 13 = (if g1 4 j 12 < uPen g0 r (j : Int) then num else g1 4 j 13)) := by
  obtain ⟨h1, h2, h3⟩ := hF
  intro d
  induction d with
  | zero =>
    intro k f g hk hf hK hold hnew
    obtain ⟨f, rfl⟩ : ∃ f', f = f' + 1 := ⟨f - 1, by omega⟩
    have e : g 1 0 2 = (F : Int) := by rw [hK 1 0 2 (by omega)]; exact h1
    rw [qsX4_reckonPenalties_run0]
    unfold sX4_reckonPenalties_h14
    have hkF : k = F := by omega
    subst hkF
    exact zT_ltF (by omega) (zT_some ⟨hK, hnew⟩)
  | succ d ih =>
    intro k f g hk hf hK hold hnew
    obtain ⟨f, rfl⟩ : ∃ f', f = f' + 1 := ⟨f - 1, by omega⟩
    have e : g 1 0 2 = (F : Int) := by rw [hK 1 0 2 (by omega)]; exact h1
    obtain ⟨o1, o2⟩ := hold k (Nat.le_refl k) (by omega)
    have hdk := hd k (by omega)
    have hpb := uPen_bd (x := (k : Int)) hF0 hr
    rw [qsX4_reckonPenalties_run0]
    unfold sX4_reckonPenalties_h14
    simp only [Int.toNat_natCast]
    refine zT_ltT (by omega) (zT_li (by omega) ?_)
    refine zT_bde (hp g (fun k j p hc => hK k j p (by omega)) (k : Int) (by omega) (by omega)) ?_
    refine zT_bde (e_reckon (by omega) (by omega)) ?_
    refine zT_let ?_
    rw [o1]
    generalize hg : (if g1 4 k 12 < uPen g0 r (k : Int) then zup (zup g 4 k 12 (uPen g0 r (k : Int))) 4 k 13 num else g) = g2
    have e12 : ∀ j, g2 4 j 12 = if j = k then (if g1 4 k 12 < uPen g0 r (k : Int) then uPen g0 r (k : Int) else g1 4 k 12) else g 4 j 12 := by
      intro j
      rw [← hg]
      by_cases c : g1 4 k 12 < uPen g0 r (k : Int)
      · rw [if_pos c, if_pos c]
        simp [zup_rd]
      · rw [if_neg c, if_neg c]
        split
        · rename_i z
          rw [z, o1]
        · rfl
    have e13 : ∀ j, g2 4 j 13 = if j = k then (if g1 4 k 12 < uPen g0 r (k : Int) then num else g1 4 k 13) else g 4 j 13 := by
      intro j
      rw [← hg]
      by_cases c : g1 4 k 12 < uPen g0 r (k : Int)
      · rw [if_pos c, if_pos c]
        simp [zup_rd]
      · rw [if_neg c, if_neg c]
        split
        · rename_i z
          rw [z, o2]
        · rfl
    have hK2 : FK g g2 := by
      rw [← hg]
      split
      · exact (FK.up (by decide)).tr (FK.up (by decide))
      · exact FK.rf
    exact ih (k + 1) f g2 (by omega) (by omega) (hK.tr hK2) (fun j hj1 hj2 => by
      rw [e12, e13, if_neg (by omega), if_neg (by omega)]
      exact hold j (by omega) hj2) (fun j hj => by
      rw [e12, e13]
      by_cases c : j = k
      · rw [if_pos c, if_pos c, c]
        exact ⟨rfl, rfl⟩
      · rw [if_neg c, if_neg c]
        exact hnew j (by omega))
theorem FOK.fk {g g' : zG} {F : Nat} (h : FOK g F) (c : FK g g') : FOK g' F := h.cs c.fs.cs
/-- the penalties of one regulation reckoned -/
theorem t_reckonPen {n F r : Nat} {num : Int} {g0 : zG} (hn : 3000 < n) (hF : FOK g0 F) (hr : rgok g0 r) (hd : ∀ k, k < F → 0 ≤ g0 4 k 12 ∧ g0 4 k 12 ≤ 1440) :
    zT (sX4_reckonPenalties n r num g0) (fun _ g' => FS g0 g' ∧ ∀ j, j < F → g' 4 j 12 = (if g0 4 j 12 < uPen g0 r (j : Int) then uPen g0 r (j : Int) else g0 4 j 12) ∧ g' 4 j 13 = (if g0 4 j 12 < uPen g0 r (j : Int) then num else g0 4 j 13)) := by
  unfold sX4_reckonPenalties
  refine zT_bdm (t_dealOut hn hF hr) ?_
  rintro - g1 ⟨a1, -, -, -, -, -, a7⟩
  have hF1 := hF.cs a1.cs
  have e12 : ∀ j p, g1 4 j p = g0 4 j p := fun j p => a1 4 j p (by omega)
  have := t_reckonPen_run (n := n) (num := num) hF1 hr hF (fun k hk => by rw [e12]; exact hd k hk) a7 F 0 n g1 (by omega) (by have := hF.2.1; omega) FK.rf (fun j _ _ => ⟨rfl, rfl⟩) (fun j hj => by omega)
  refine zT_mono this ?_
  rintro - g' ⟨b1, b2⟩
  refine ⟨a1.fs.tr b1.fs, fun j hj => ?_⟩
  have := b2 j hj
  rw [e12, e12] at this
  exact this
/-- the due of a flight by the first m regulations, and the regulation that is due -/
def uDue (g : zG) (k : Int) : Nat → Int
  | 0 => 0
  | m + 1 => if uDue g k m < uPen g m k then uPen g m k else uDue g k m
def uRul (g : zG) (k : Int) : Nat → Int
  | 0 => -1
  | m + 1 => if uDue g k m < uPen g m k then (m : Int) else uRul g k m
def ROK (g : zG) (R : Nat) : Prop := g 1 1 2 = (R : Int) ∧ R ≤ 6 ∧ ∀ r, r < R → rgok g r
theorem ROK.cs {g g' : zG} {R : Nat} (h : ROK g R) (c : CS g g') : ROK g' R := ⟨by rw [c.n]; exact h.1, h.2.1, fun r hr => c.rok (h.2.2 r hr)⟩
theorem uDue_bd {g : zG} {k : Int} {F : Nat} (hF : FOK g F) : ∀ {m : Nat}, (∀ r, r < m → rgok g r) → 0 ≤ uDue g k m ∧ uDue g k m ≤ 1440 := by
  intro m
  induction m with
  | zero => intro _; exact ⟨Int.le_refl 0, by show (0 : Int) ≤ 1440; decide⟩
  | succ m ih =>
    intro h
    have h1 := ih (fun r hr => h r (by omega))
    have h2 := uPen_bd (x := k) hF (h m (by omega))
    show 0 ≤ (if uDue g k m < uPen g m k then uPen g m k else uDue g k m) ∧ (if uDue g k m < uPen g m k then uPen g m k else uDue g k m) ≤ 1440
    split <;> omega
theorem uRul_bd {g : zG} {k : Int} : ∀ {m : Nat}, -1 ≤ uRul g k m ∧ uRul g k m < (m : Int) := by
  intro m
  induction m with
  | zero => exact ⟨Int.le_refl _, by show (-1 : Int) < ((0 : Nat) : Int); decide⟩
  | succ m ih =>
    show -1 ≤ (if uDue g k m < uPen g m k then (m : Int) else uRul g k m) ∧ (if uDue g k m < uPen g m k then (m : Int) else uRul g k m) < ((m + 1 : Nat) : Int)
    split <;> omega
theorem uDue_congr {g g' : zG} {k : Int} (h : CF g g') : ∀ {m : Nat}, (∀ r, r < m → ∀ p, g' 5 r p = g 5 r p) → uDue g' k m = uDue g k m ∧ uRul g' k m = uRul g k m := by
  intro m
  induction m with
  | zero => intro _; exact ⟨rfl, rfl⟩
  | succ m ih =>
    intro hr
    obtain ⟨h1, h2⟩ := ih (fun r h => hr r (by omega))
    have h3 := uPen_congr (x := k) h (hr m (by omega))
    unfold uDue uRul
    rw [h1, h2, h3]
    exact ⟨rfl, rfl⟩
theorem t_reckonDues1 {n F R : Nat} {g0 : zG} (hn : 3000 < n) (hF : FOK g0 F) (hR : ROK g0 R) : ∀ (d m f : Nat) (g : zG), m + d = R → d < f → FS g0 g → (∀ j, j < F → g 4 j 12 = uDue g0 (j : Int) m ∧ g 4 j 13 = uRul g0 (j : Int) m) →
    zT (sX4_reckonDues_run n f 1 (m : Int) g) (fun _ g' => FS g0 g' ∧ ∀ j, j < F → g' 4 j 12 = uDue g0 (j : Int) R ∧ g' 4 j 13 = uRul g0 (j : Int) R) := by
  obtain ⟨h1, h2, h3⟩ := hR
  intro d
  induction d with
  | zero =>
    intro m f g hm hf hS hv
    obtain ⟨f, rfl⟩ : ∃ f', f = f' + 1 := ⟨f - 1, by omega⟩
    have e : g 1 1 2 = (R : Int) := by rw [hS 1 1 2 (by omega)]; exact h1
    rw [qsX4_reckonDues_run1]
    unfold sX4_reckonDues_h35
    have hmR : m = R := by omega
    subst hmR
    exact zT_ltF (by omega) (zT_some ⟨hS, hv⟩)
  | succ d ih =>
    intro m f g hm hf hS hv
    obtain ⟨f, rfl⟩ : ∃ f', f = f' + 1 := ⟨f - 1, by omega⟩
    have e : g 1 1 2 = (R : Int) := by rw [hS 1 1 2 (by omega)]; exact h1
    have hc := hS.cs
    rw [qsX4_reckonDues_run1]
    unfold sX4_reckonDues_h35
    simp only [Int.toNat_natCast]
    refine zT_ltT (by omega) (zT_li (by omega) ?_)
    refine zT_bdm (t_reckonPen (n := n) (num := (m : Int)) hn (hF.cs hc) (hc.rok (h3 m (by omega))) (fun k hk => by
      rw [(hv k hk).1]
      exact uDue_bd hF (fun r hr => h3 r (by omega)))) ?_
    rintro - g2 ⟨a1, a2⟩
    refine zT_let ?_
    refine ih (m + 1) f g2 (by omega) (by omega) (hS.tr a1) (fun j hj => ?_)
    obtain ⟨b1, b2⟩ := a2 j hj
    have ep : uPen g m (j : Int) = uPen g0 m (j : Int) := uPen_congr hc.cf (fun p => hc.g5)
    rw [b1, b2, (hv j hj).1, (hv j hj).2, ep]
    exact ⟨rfl, rfl⟩
theorem t_reckonDues0 {n F R : Nat} {g0 : zG} (hn : 3000 < n) (hF : FOK g0 F) (hR : ROK g0 R) : ∀ (d k f : Nat) (g : zG), k + d = F → d + 8 < f → FK g0 g → (∀ j, j < k → g 4 j 12 = 0 ∧ g 4 j 13 = -1) →
    zT (sX4_reckonDues_run n f 0 (k : Int) g) (fun _ g' => FS g0 g' ∧ ∀ j, j < F → g' 4 j 12 = uDue g0 (j : Int) R ∧ g' 4 j 13 = uRul g0 (j : Int) R) := by
  intro d
  induction d with
  | zero =>
    intro k f g hk hf hK hv
    obtain ⟨f, rfl⟩ : ∃ f', f = f' + 1 := ⟨f - 1, by omega⟩
    have e : g 1 0 2 = (F : Int) := by rw [hK 1 0 2 (by omega)]; exact hF.1
    have := hF.2.1
    have hR6 := hR.2.1
    rw [qsX4_reckonDues_run0]
    unfold sX4_reckonDues_h2
    refine zT_ltF (by omega) ?_
    exact t_reckonDues1 hn hF hR R 0 f g (by omega) (by omega) hK.fs (fun j hj => hv j (by omega))
  | succ d ih =>
    intro k f g hk hf hK hv
    obtain ⟨f, rfl⟩ : ∃ f', f = f' + 1 := ⟨f - 1, by omega⟩
    have e : g 1 0 2 = (F : Int) := by rw [hK 1 0 2 (by omega)]; exact hF.1
    have := hF.2.1
    rw [qsX4_reckonDues_run0]
    unfold sX4_reckonDues_h2
    simp only [Int.toNat_natCast]
    refine zT_ltT (by omega) (zT_li (by omega) ?_)
    refine zT_bde e_forgetReckoned (zT_let ?_)
    refine ih (k + 1) f _ (by omega) (by omega) (hK.tr ((FK.up (by decide)).tr (FK.up (by decide)))) (fun j hj => ?_)
    by_cases c : j = k
    · simp [zup_rd, c]
    · simp [zup_rd, c]
      exact hv j (by omega)
theorem t_reckonDues {n F R : Nat} {g0 : zG} (hn : 3000 < n) (hF : FOK g0 F) (hR : ROK g0 R) :
    zT (sX4_reckonDues n g0) (fun _ g' => FS g0 g' ∧ ∀ j, j < F → g' 4 j 12 = uDue g0 (j : Int) R ∧ g' 4 j 13 = uRul g0 (j : Int) R) :=
  t_reckonDues0 hn hF hR F 0 n g0 (by omega) (by have := hF.2.1; omega) FK.rf (fun j hj => by omega)
theorem t_sumOfDues_run {n F : Nat} {g : zG} (hF : FOK g F) : ∀ (d k f : Nat), k + d = F → d < f →
    zT (sX4_sumOfDues_run n f 0 (uSum (fun j => g 4 j 12) k) (k : Int) g) (fun r g' => r = uSum (fun j => g 4 j 12) F ∧ g' = g) := by
  obtain ⟨h1, h2, h3⟩ := hF
  intro d
  induction d with
  | zero =>
    intro k f hk hf
    obtain ⟨f, rfl⟩ : ∃ f', f = f' + 1 := ⟨f - 1, by omega⟩
    rw [qsX4_sumOfDues_run0]
    unfold sX4_sumOfDues_h4
    have hkF : k = F := by omega
    subst hkF
    exact zT_ltF (by omega) (zT_some ⟨rfl, rfl⟩)
  | succ d ih =>
    intro k f hk hf
    obtain ⟨f, rfl⟩ : ∃ f', f = f' + 1 := ⟨f - 1, by omega⟩
    have := ih (k + 1) f (by omega) (by omega)
    rw [qsX4_sumOfDues_run0]
    unfold sX4_sumOfDues_h4
    simp only [Int.toNat_natCast]
    exact zT_ltT (by omega) (zT_li (by omega) (zT_let (zT_let this)))
theorem e_sumOfDues {n F : Nat} {g : zG} (hn : 24 < n) (hF : FOK g F) : sX4_sumOfDues n g = some (uSum (fun j => g 4 j 12) F, g) :=
  zT_eqn (t_sumOfDues_run (n := n) hF F 0 n (by omega) (by have := hF.2.1; omega))
def uAll (g : zG) (F m : Nat) : Int := uSum (fun j => uDue g (j : Int) m) F
theorem uAll_bd {g : zG} {F m : Nat} (hF : FOK g F) (hr : ∀ r, r < m → rgok g r) : 0 ≤ uAll g F m ∧ uAll g F m ≤ (F : Int) * 1440 :=
  uSum_bound (f := fun j => uDue g (j : Int) m) (m := 1440) (n := F) (fun k _ => uDue_bd hF hr)
theorem t_allDue {n F R : Nat} {g : zG} (hn : 3000 < n) (hF : FOK g F) (hR : ROK g R) : zT (sX4_allDue n g) (fun r g' => r = uAll g F R ∧ FS g g') := by
  unfold sX4_allDue
  refine zT_bdm (t_reckonDues hn hF hR) ?_
  rintro - g1 ⟨a1, a2⟩
  refine zT_bde (e_sumOfDues (by omega) (hF.cs a1.cs)) (zT_some ⟨?_, a1⟩)
  exact uSum_congr (fun k hk => (a2 k hk).1)
theorem t_due {n F R : Nat} {g : zG} {x : Int} (hn : 3000 < n) (hF : FOK g F) (hR : ROK g R) (hx : zIn x) : zT (sX4_due n x g) (fun o g' => o = (if 0 ≤ x ∧ x < (F : Int) then (0, uDue g x R) else (1, 0)) ∧ FS g g') := by
  unfold sX4_due
  have e1 := e_flightAt hF hx
  by_cases c1 : 0 ≤ x ∧ x < (F : Int)
  · rw [if_pos c1] at e1 ⊢
    refine zT_bxe e1 ?_
    refine zT_bdm (t_reckonDues hn hF hR) ?_
    rintro - g1 ⟨a1, a2⟩
    refine zT_some ⟨?_, a1⟩
    rw [(a2 x.toNat (by omega)).1, show ((x.toNat : Nat) : Int) = x from by omega]
  · rw [if_neg c1] at e1 ⊢
    exact zT_bxt e1 ⟨rfl, FS.rf⟩
/-! a deal -/
def uNs (g : zG) (w : Int) (R k : Nat) : Int := if uLst g k = 1 then (if uDue g (k : Int) R = 0 then -1 else if w ≠ 0 ∨ g 4 k 4 = -1 ∨ g 4 k 1 + uDue g (k : Int) R ≤ g 4 k 4 then g 4 k 1 + uDue g (k : Int) R else g 4 k 4) else g 4 k 4
def uNr (g : zG) (w : Int) (R k : Nat) : Int := if uLst g k = 1 then (if uDue g (k : Int) R = 0 then -1 else if w ≠ 0 ∨ g 4 k 4 = -1 ∨ g 4 k 1 + uDue g (k : Int) R ≤ g 4 k 4 then uRul g (k : Int) R else g 4 k 5) else g 4 k 5
theorem e_takeReckoned {g0 g : zG} {w : Int} {R k F : Nat} (hF : FOK g0 F) (hR : ROK g0 R) (hw : w = 0 ∨ w = 1) (hf : flok g k) (e0 : ∀ p, p < 10 → g 4 k p = g0 4 k p) (h12 : g 4 k 12 = uDue g0 (k : Int) R) (h13 : g 4 k 13 = uRul g0 (k : Int) R) :
    zT (sX1_takeReckoned k w g) (fun _ g' => g' 4 k 4 = uNs g0 w R k ∧ g' 4 k 5 = uNr g0 w R k ∧ ∀ a b c, ¬ (a = 4 ∧ b = k ∧ (c = 4 ∨ c = 5)) → g' a b c = g a b c) := by
  have hd := uDue_bd (k := (k : Int)) hF (m := R) (fun r hr => hR.2.2 r hr)
  have hl := uLst_bd (g := g) (k := k)
  have els : uLst g0 k = uLst g k := by
    unfold uLst
    rw [e0 2 (by decide), e0 3 (by decide)]
  have hf2 := hf
  unfold flok at hf2
  have f1 := e0 1 (by decide)
  have f4 := e0 4 (by decide)
  have f5 := e0 5 (by decide)
  unfold sX1_takeReckoned sX1_takeReckoned_j50 uNs uNr
  refine zT_bde (e_isListed hf) ?_
  rw [els]
  repeat' first
    | (with_reducible refine zT_bde e_loseSlotTime ?_)
    | (with_reducible refine zT_st ?_)
    | (with_reducible refine zT_ltT ?_ ?_; · omega)
    | (with_reducible refine zT_ltF ?_ ?_; · omega)
    | (with_reducible refine zT_lt ?_ (fun _ => ?_) (fun _ => ?_); · omega)
    | (with_reducible refine zT_leT ?_ ?_; · omega)
    | (with_reducible refine zT_leF ?_ ?_; · omega)
    | (with_reducible refine zT_le ?_ (fun _ => ?_) (fun _ => ?_); · omega)
    | (with_reducible refine zT_eqT ?_ ?_; · omega)
    | (with_reducible refine zT_eqF ?_ ?_; · omega)
    | (with_reducible refine zT_eq ?_ (fun _ => ?_) (fun _ => ?_); · omega)
    | (with_reducible refine zT_ix ?_ ?_; · omega)
    | (with_reducible refine zT_li ?_ ?_; · omega)
    | (with_reducible refine zT_bo ?_ ?_; · omega)
    | (with_reducible refine zT_ri ?_ ?_; · omega)
    | (with_reducible refine zT_dv ?_ ?_; · omega)
    | (with_reducible refine zT_let ?_)
  all_goals refine zT_some ?_
  · rw [if_neg (by omega), if_neg (by omega)]
    exact ⟨f4, f5, fun _ _ _ _ => rfl⟩
  · rw [if_pos (by omega), if_pos (by omega), if_pos (by omega), if_pos (by omega)]
    refine ⟨by simp [zup_rd], by simp [zup_rd], fun a b c h => ?_⟩
    rw [zup_rd, if_neg (by omega), zup_rd, if_neg (by omega)]
  · rw [if_pos (by omega), if_neg (by omega), if_pos (by omega), if_pos (by omega), if_neg (by omega), if_pos (by omega)]
    refine ⟨by simp [zup_rd]; omega, by simp [zup_rd]; exact h13, fun a b c h => ?_⟩
    rw [zup_rd, if_neg (by omega), zup_rd, if_neg (by omega)]
  · rw [if_pos (by omega), if_neg (by omega), if_pos (by omega), if_pos (by omega), if_neg (by omega), if_pos (by omega)]
    refine ⟨by simp [zup_rd]; omega, by simp [zup_rd]; exact h13, fun a b c h => ?_⟩
    rw [zup_rd, if_neg (by omega), zup_rd, if_neg (by omega)]
  · rw [if_pos (by omega), if_neg (by omega), if_neg (by omega), if_pos (by omega), if_neg (by omega), if_neg (by omega)]
    exact ⟨f4, f5, fun _ _ _ _ => rfl⟩
  · rw [if_pos (by omega), if_neg (by omega), if_pos (by omega), if_pos (by omega), if_neg (by omega), if_pos (by omega)]
    refine ⟨by simp [zup_rd]; omega, by simp [zup_rd]; exact h13, fun a b c h => ?_⟩
    rw [zup_rd, if_neg (by omega), zup_rd, if_neg (by omega)]
def uNd (g : zG) (w : Int) (R k : Nat) : Int := if g 4 k 2 = 0 then (if uNs g w R k = -1 then 0 else uNs g w R k - g 4 k 1) else 0
theorem uNs_bd {g : zG} {w : Int} {R k F : Nat} (hF : FOK g F) (hR : ROK g R) (hf : flok g k) : -1 ≤ uNs g w R k ∧ uNs g w R k ≤ 2880 := by
  have hd := uDue_bd (k := (k : Int)) hF (m := R) (fun r hr => hR.2.2 r hr)
  unfold flok at hf
  unfold uNs
  split
  · split
    · omega
    · split <;> omega
  · omega
theorem t_deal_run {n F R : Nat} {w : Int} {g0 : zG} (hF : FOK g0 F) (hR : ROK g0 R) (hw : w = 0 ∨ w = 1) : ∀ (d k f : Nat) (g : zG), k + d = F → d < f → (∀ a b c, ¬ (a = 2 ∨ a = 3 ∨ (10 ≤ a ∧ a ≤ 13) ∨ (a = 4 ∧ 10 ≤ c) ∨ (a = 4 ∧ b < k ∧ (c = 4 ∨ c = 5))) → g a b c = g0 a b c) → (∀ j, j < F → g 4 j 12 = uDue g0 (j : Int) R ∧ g 4 j 13 = uRul g0 (j : Int) R) → (∀ j, j < k → g 4 j 4 = uNs g0 w R j ∧ g 4 j 5 = uNr g0 w R j) →
    zT (sX4_deal_run n f 0 w (uSum (uNd g0 w R) k) (k : Int) g) (fun z g' => z = uSum (uNd g0 w R) F ∧ (∀ a b c, ¬ (a = 2 ∨ a = 3 ∨ (10 ≤ a ∧ a ≤ 13) ∨ (a = 4 ∧ 10 ≤ c) ∨ (a = 4 ∧ b < F ∧ (c = 4 ∨ c = 5))) → g' a b c = g0 a b c) ∧ (∀ j, j < F → g' 4 j 4 = uNs g0 w R j ∧ g' 4 j 5 = uNr g0 w R j)) := by
  obtain ⟨h1, h2, h3⟩ := id hF
  intro d
  induction d with
  | zero =>
    intro k f g hk hf hfr hdu hv
    obtain ⟨f, rfl⟩ : ∃ f', f = f' + 1 := ⟨f - 1, by omega⟩
    have e : g 1 0 2 = (F : Int) := by rw [hfr 1 0 2 (by omega)]; exact h1
    rw [qsX4_deal_run0]
    unfold sX4_deal_h8
    have hkF : k = F := by omega
    subst hkF
    exact zT_ltF (by omega) (zT_some ⟨rfl, hfr, hv⟩)
  | succ d ih =>
    intro k f g hk hf hfr hdu hv
    obtain ⟨f, rfl⟩ : ∃ f', f = f' + 1 := ⟨f - 1, by omega⟩
    have e : g 1 0 2 = (F : Int) := by rw [hfr 1 0 2 (by omega)]; exact h1
    have e0 : ∀ p, p < 10 → g 4 k p = g0 4 k p := fun p hp => hfr 4 k p (by omega)
    obtain ⟨hfk, hbk⟩ := h3 k (by omega)
    have hfg : flok g k := by
      unfold flok at hfk ⊢
      rw [e0 0 (by decide), e0 1 (by decide), e0 2 (by decide), e0 3 (by decide), e0 4 (by decide), e0 5 (by decide), e0 6 (by decide), e0 7 (by decide), e0 8 (by decide), e0 9 (by decide)]
      exact hfk
    have hfg2 := hfg
    unfold flok at hfg2
    have hnb := uNs_bd (w := w) hF hR hfk
    have es : uSum (uNd g0 w R) (k + 1) = uSum (uNd g0 w R) k + uNd g0 w R k := rfl
    have ih2 := fun g' => ih (k + 1) f g' (by omega) (by omega)
    rw [es] at ih2
    have g2 := e0 2 (by decide)
    rw [qsX4_deal_run0]
    unfold sX4_deal_h8
    simp only [Int.toNat_natCast]
    refine zT_ltT (by omega) (zT_li (by omega) (zT_eq (by omega) (fun c => ?_) (fun c => ?_)))
    · refine zT_bdm (e_takeReckoned hF hR hw hfg e0 (hdu k (by omega)).1 (hdu k (by omega)).2) ?_
      rintro - g' ⟨b1, b2, b3⟩
      have hdl : sX1_delay k g' = some (if uNs g0 w R k = -1 then 0 else uNs g0 w R k - g0 4 k 1, g') := by
        refine zT_eqn ?_
        unfold sX1_delay
        have k1 := b3 4 k 1 (by omega)
        have k2 := e0 1 (by decide)
        repeat' first
          | (with_reducible refine zT_ltT ?_ ?_; · omega)
          | (with_reducible refine zT_ltF ?_ ?_; · omega)
          | (with_reducible refine zT_lt ?_ (fun _ => ?_) (fun _ => ?_); · omega)
          | (with_reducible refine zT_leT ?_ ?_; · omega)
          | (with_reducible refine zT_leF ?_ ?_; · omega)
          | (with_reducible refine zT_le ?_ (fun _ => ?_) (fun _ => ?_); · omega)
          | (with_reducible refine zT_eqT ?_ ?_; · omega)
          | (with_reducible refine zT_eqF ?_ ?_; · omega)
          | (with_reducible refine zT_eq ?_ (fun _ => ?_) (fun _ => ?_); · omega)
          | (with_reducible refine zT_ix ?_ ?_; · omega)
          | (with_reducible refine zT_li ?_ ?_; · omega)
          | (with_reducible refine zT_bo ?_ ?_; · omega)
          | (with_reducible refine zT_ri ?_ ?_; · omega)
          | (with_reducible refine zT_dv ?_ ?_; · omega)
          | (with_reducible refine zT_let ?_)
        · exact zT_some ⟨by rw [if_pos (by omega)], rfl⟩
        · exact zT_some ⟨by rw [if_neg (by omega)]; omega, rfl⟩
      refine zT_bde hdl (zT_let (zT_let ?_))
      have := ih2 g' (fun a b c h => by rw [b3 a b c (by omega)]; exact hfr a b c (by omega)) (fun j hj => by rw [b3 4 j 12 (by omega), b3 4 j 13 (by omega)]; exact hdu j hj) (fun j hj => by
        by_cases cj : j = k
        · rw [cj]
          exact ⟨b1, b2⟩
        · rw [b3 4 j 4 (by omega), b3 4 j 5 (by omega)]
          exact hv j (by omega))
      rw [show uNd g0 w R k = (if uNs g0 w R k = -1 then 0 else uNs g0 w R k - g0 4 k 1) from by
        unfold uNd
        rw [if_pos (by omega)]] at this
      exact this
    · refine zT_let ?_
      have hnl : uLst g0 k ≠ 1 := by
        unfold uLst
        rw [if_neg (by omega)]
        decide
      have := ih2 g (fun a b c h => hfr a b c (by omega)) hdu (fun j hj => by
        by_cases cj : j = k
        · rw [cj]
          unfold uNs uNr
          rw [if_neg hnl, if_neg hnl]
          exact ⟨e0 4 (by decide), e0 5 (by decide)⟩
        · exact hv j (by omega))
      rw [show uNd g0 w R k = 0 from by
        unfold uNd
        rw [if_neg (by omega)], Int.add_zero] at this
      exact this
theorem t_deal {n F R : Nat} {w : Int} {g0 : zG} (hn : 3000 < n) (hF : FOK g0 F) (hR : ROK g0 R) (hw : w = 0 ∨ w = 1) :
    zT (sX4_deal n w g0) (fun z g' => z = uSum (uNd g0 w R) F ∧ (∀ a b c, ¬ (a = 2 ∨ a = 3 ∨ (10 ≤ a ∧ a ≤ 13) ∨ (a = 4 ∧ 10 ≤ c) ∨ (a = 4 ∧ b < F ∧ (c = 4 ∨ c = 5))) → g' a b c = g0 a b c) ∧ (∀ j, j < F → g' 4 j 4 = uNs g0 w R j ∧ g' 4 j 5 = uNr g0 w R j)) := by
  unfold sX4_deal
  refine zT_bdm (t_reckonDues hn hF hR) ?_
  rintro - g1 ⟨a1, a2⟩
  exact t_deal_run (n := n) hF hR hw F 0 n g1 (by omega) (by have := hF.2.1; omega) (fun a b c h => a1 a b c (by omega)) a2 (fun j hj => by omega)

/-! the lines of a regulation -/
/-- but the lines nothing has changed -/
def FN (g g' : zG) : Prop := ∀ k j p, ¬ (k = 3 ∨ (10 ≤ k ∧ k ≤ 13)) → g' k j p = g k j p
theorem FN.rf {g : zG} : FN g g := fun _ _ _ _ => rfl
theorem FN.tr {g g1 g2 : zG} (h1 : FN g g1) (h2 : FN g1 g2) : FN g g2 := fun k j p h => (h2 k j p h).trans (h1 k j p h)
theorem FL.fn {i : Nat} {g g' : zG} (h : FL i g g') : FN g g' := fun k j p hn => h k j p (fun z => hn z.1)
/-- what a dealing writes -/
def FD (g g' : zG) : Prop := ∀ k j p, ¬ (k = 2 ∨ k = 3 ∨ (10 ≤ k ∧ k ≤ 13)) → g' k j p = g k j p
theorem FD.rf {g : zG} : FD g g := fun _ _ _ _ => rfl
theorem FD.tr {g g1 g2 : zG} (h1 : FD g g1) (h2 : FD g1 g2) : FD g g2 := fun k j p h => (h2 k j p h).trans (h1 k j p h)
theorem FN.fd {g g' : zG} (h : FN g g') : FD g g' := fun k j p hn => h k j p (fun z => hn (Or.inr z))
theorem FD.up2 {g : zG} {i p : Nat} {v : Int} : FD g (zup g 2 i p v) := fun k j q h => by rw [zup_rd, if_neg (fun z => h (Or.inl z.1))]
/-- the flights and regulations are the same -/
def CS (g g' : zG) : Prop := ∀ k j p, (k = 1 ∨ (k = 4 ∧ p < 10) ∨ k = 5 ∨ k = 14 ∨ k = 15) → g' k j p = g k j p
theorem CS.rf {g : zG} : CS g g := fun _ _ _ _ => rfl
theorem CS.tr {g g1 g2 : zG} (h1 : CS g g1) (h2 : CS g1 g2) : CS g g2 := fun k j p h => (h2 k j p h).trans (h1 k j p h)
theorem FD.cs {g g' : zG} (h : FD g g') : CS g g' := fun k j p hc => h k j p (by omega)
theorem FN.cs {g g' : zG} (h : FN g g') : CS g g' := h.fd.cs
section CSS
variable {g g' : zG} {k r : Nat} {s : Int}
theorem CS.f (h : CS g g') {p : Nat} (hp : p < 10) : g' 4 k p = g 4 k p := h 4 k p (Or.inr (Or.inl ⟨rfl, hp⟩))
theorem CS.g5 (h : CS g g') {p : Nat} : g' 5 r p = g 5 r p := h 5 r p (Or.inr (Or.inr (Or.inl rfl)))
theorem CS.n (h : CS g g') {i p : Nat} : g' 1 i p = g 1 i p := h 1 i p (Or.inl rfl)
theorem CS.b (h : CS g g') : uB g' k s = uB g k s := h 14 k s.toNat (by omega)
theorem CS.st (h : CS g g') {p : Nat} : g' 15 k p = g 15 k p := h 15 k p (by omega)
theorem CS.fok (h : CS g g') (hf : flok g k) : flok g' k := by
  unfold flok at hf ⊢
  rw [h.f (k := k) (p := 0) (by decide), h.f (k := k) (p := 1) (by decide), h.f (k := k) (p := 2) (by decide), h.f (k := k) (p := 3) (by decide), h.f (k := k) (p := 4) (by decide), h.f (k := k) (p := 5) (by decide), h.f (k := k) (p := 6) (by decide), h.f (k := k) (p := 7) (by decide), h.f (k := k) (p := 8) (by decide), h.f (k := k) (p := 9) (by decide)]
  exact hf
theorem CS.bok (h : CS g g') (hf : flbs g k) : flbs g' k := by
  intro s h1 h2
  rw [h 14 k s.toNat (by omega), h 15 k s.toNat (by omega)]
  exact hf s h1 h2
theorem CS.rok (h : CS g g') (hr : rgok g r) : rgok g' r := by
  unfold rgok at hr ⊢
  rw [h.g5 (r := r) (p := 0), h.g5 (r := r) (p := 1), h.g5 (r := r) (p := 2), h.g5 (r := r) (p := 3), h.g5 (r := r) (p := 4)]
  exact hr
theorem CS.dep (h : CS g g') : uDep g' k = uDep g k := by
  unfold uDep
  rw [h.f (k := k) (p := 1) (by decide), h.f (k := k) (p := 2) (by decide), h.f (k := k) (p := 4) (by decide), h.f (k := k) (p := 6) (by decide)]
theorem CS.tov (h : CS g g') : uTov g' k s = uTov g k s := by
  unfold uTov
  rw [h.dep, h.b]
theorem CS.lds (h : CS g g') : uLds g' k s = uLds g k s := by
  unfold uLds
  rw [h.b, h.f (k := k) (p := 2) (by decide)]
theorem CS.fix (h : CS g g') : uFix g' k = uFix g k := by
  unfold uFix
  rw [h.f (k := k) (p := 2) (by decide), h.f (k := k) (p := 3) (by decide)]
theorem CS.lst (h : CS g g') : uLst g' k = uLst g k := by
  unfold uLst
  rw [h.f (k := k) (p := 2) (by decide), h.f (k := k) (p := 3) (by decide)]
theorem CS.ltm (h : CS g g') : uLtm g' k s = uLtm g k s := by
  unfold uLtm
  rw [h.b, h.f (k := k) (p := 1) (by decide), h.f (k := k) (p := 2) (by decide), h.f (k := k) (p := 6) (by decide)]
theorem CS.sc (h : CS g g') : uSc g' r = uSc g r := by
  unfold uSc
  rw [h.g5 (r := r) (p := 1), h.g5 (r := r) (p := 2), h.g5 (r := r) (p := 3), h.g5 (r := r) (p := 4)]
end CSS
def FOK (g : zG) (F : Nat) : Prop := g 1 0 2 = (F : Int) ∧ F ≤ 24 ∧ ∀ k, k < F → flok g k ∧ flbs g k
theorem FOK.cs {g g' : zG} {F : Nat} (h : FOK g F) (c : CS g g') : FOK g' F := ⟨by rw [c.n]; exact h.1, h.2.1, fun k hk => ⟨c.fok (h.2.2 k hk).1, c.bok (h.2.2 k hk).2⟩⟩
/-- the times of those that are fixed, and of those that are listed; none else -/
def uTf (g : zG) (r k : Nat) : Int := if uFix g k = 1 ∧ g 5 r 1 ≤ uLtm g k (g 5 r 0) ∧ uLtm g k (g 5 r 0) < g 5 r 2 then uLtm g k (g 5 r 0) else -1
def uTl (g : zG) (r k : Nat) : Int := if uLst g k = 1 ∧ g 5 r 1 ≤ uLtm g k (g 5 r 0) ∧ uLtm g k (g 5 r 0) < g 5 r 2 then uLtm g k (g 5 r 0) else -1
theorem CS.tf {g g' : zG} {r : Nat} (h : CS g g') : uTf g' r = uTf g r := by
  funext k
  unfold uTf
  rw [h.g5 (r := r) (p := 0), h.g5 (r := r) (p := 1), h.g5 (r := r) (p := 2), h.ltm, h.fix]
theorem CS.tl {g g' : zG} {r : Nat} (h : CS g g') : uTl g' r = uTl g r := by
  funext k
  unfold uTl
  rw [h.g5 (r := r) (p := 0), h.g5 (r := r) (p := 1), h.g5 (r := r) (p := 2), h.ltm, h.lst]
theorem uTf_bd {g : zG} {r k : Nat} (hr : rgok g r) : -1 ≤ uTf g r k ∧ uTf g r k < 1440 := by
  unfold rgok at hr
  unfold uTf
  split <;> omega
theorem uTl_bd {g : zG} {r k : Nat} (hr : rgok g r) : -1 ≤ uTl g r k ∧ uTl g r k < 1440 := by
  unfold rgok at hr
  unfold uTl
  split <;> omega
theorem uKs_none {t : Nat → Int} {k : Nat} (h : t k < 0) : uKs t (k + 1) = uKs t k := by
  have e : uKf t k = none := by unfold uKf; rw [if_pos h]
  show (match uKf t k with | none => uKeys (uKf t) k | some x => uIns x (uKeys (uKf t) k)) = _
  rw [e]
theorem uKs_some {t : Nat → Int} {k : Nat} (h : 0 ≤ t k) : uKs t (k + 1) = uIns (24 * t k + k) (uKs t k) := by
  have e : uKf t k = some (24 * t k + k) := uKf_some.mpr ⟨h, rfl⟩
  show (match uKf t k with | none => uKeys (uKf t) k | some x => uIns x (uKeys (uKf t) k)) = _
  rw [e]
theorem LN.fl {g g' : zG} {i j : Nat} {l : List Int} (h : LN g i l) (hf : FL j g g') (hij : i ≠ j) : LN g' i l := by
  refine ⟨by rw [hf 3 i 4 (fun z => hij z.2)]; exact h.1, fun p y hy => ?_⟩
  have := h.2 p y hy
  unfold uCl at this ⊢
  rw [hf 10 i p (fun z => hij z.2), hf 11 i p (fun z => hij z.2)]
  exact this
/-- no slot is given yet -/
def uNg (g : zG) (i m : Nat) : Prop := ∀ p, p < m → g 12 i p = -1
theorem uNg.fl {g g' : zG} {i j m : Nat} (h : uNg g i m) (hf : FL j g g') (hij : i ≠ j) : uNg g' i m := fun p hp => by rw [hf 12 i p (fun z => hij z.2)]; exact h p hp
/-- one more in a line -/
theorem t_addKs {n i k : Nat} {t : Nat → Int} {g : zG} (hn : 24 < n) (hk : k < 24) (ht : 0 ≤ t k) (hb : ∀ j, j ≤ k → t j ≤ 2040) (hl : LN g i (uKs t k)) (hg : uNg g i (uKs t k).length) :
    zT (sX2_add n i (k : Int) (t k) g) (fun _ g' => LN g' i (uKs t (k + 1)) ∧ FL i g g' ∧ uNg g' i (uKs t (k + 1)).length) := by
  have hlen : (uKs t k).length ≤ k := uKeys_len
  have h := t_add (n := n) (i := i) (num := (k : Int)) (t := t k) (l := uKs t k) (g := g) hn (by omega) ⟨ht, hb k (Nat.le_refl k)⟩ (by omega) hl (fun y hy => by
    obtain ⟨j, h1, h2, h3, h4, h5⟩ := (uKs_mem (by omega)).mp hy
    have := hb j (by omega)
    omega) (uKs_srt (by omega))
  refine zT_mono h ?_
  rintro r g' ⟨h1, h2, h3, h4⟩
  rw [uKs_some ht]
  refine ⟨h1, h2, fun p hp => ?_⟩
  rw [uIns_len] at hp
  by_cases c : p = (uKs t k).length
  · rw [c]; exact h3
  · rw [h4 p c]
    exact hg p (by omega)
theorem t_lineUp_run {n r F : Nat} {g0 : zG} (hn : 24 < n) (hF : FOK g0 F) (hr : rgok g0 r) : ∀ (d k f : Nat) (g : zG), k + d = F → d < f → FN g0 g → LN g 0 (uKs (uTf g0 r) k) → LN g 1 (uKs (uTl g0 r) k) → uNg g 0 (uKs (uTf g0 r) k).length → uNg g 1 (uKs (uTl g0 r) k).length →
    zT (sX0_lineUp_run n f 0 r (k : Int) g) (fun _ g' => FN g0 g' ∧ LN g' 0 (uKs (uTf g0 r) F) ∧ LN g' 1 (uKs (uTl g0 r) F) ∧ uNg g' 0 (uKs (uTf g0 r) F).length ∧ uNg g' 1 (uKs (uTl g0 r) F).length) := by
  obtain ⟨hF1, hF2, hF3⟩ := hF
  have hr2 := hr
  unfold rgok at hr2
  intro d
  induction d with
  | zero =>
    intro k f g hk hf hN h0 h1 n0 n1
    obtain ⟨f, rfl⟩ : ∃ f', f = f' + 1 := ⟨f - 1, by omega⟩
    have e : g 1 0 2 = (F : Int) := by rw [hN.cs.n]; exact hF1
    rw [qsX0_lineUp_run0]
    unfold sX0_lineUp_h32
    have hkF : k = F := by omega
    subst hkF
    exact zT_ltF (by omega) (zT_some ⟨hN, h0, h1, n0, n1⟩)
  | succ d ih =>
    intro k f g hk hf hN h0 h1 n0 n1
    obtain ⟨f, rfl⟩ : ∃ f', f = f' + 1 := ⟨f - 1, by omega⟩
    have e : g 1 0 2 = (F : Int) := by rw [hN.cs.n]; exact hF1
    have hc := hN.cs
    have hfk := hc.fok (hF3 k (by omega)).1
    have hbk := hc.bok (hF3 k (by omega)).2
    have hrg := hc.rok hr
    have hs : 0 ≤ g 5 r 0 ∧ g 5 r 0 < 6 := by rw [hc.g5]; exact hr2.1
    have hL := uLtm_bd hfk hbk hs
    have eL : uLtm g k (g 5 r 0) = uLtm g0 k (g0 5 r 0) := by rw [hc.g5, hc.ltm]
    have er1 : g 5 r 1 = g0 5 r 1 := hc.g5
    have er2 : g 5 r 2 = g0 5 r 2 := hc.g5
    have efx := hc.fix (k := k)
    have els := hc.lst (k := k)
    have hfx := uFix_bd (g := g) (k := k)
    have hls := uLst_bd (g := g) (k := k)
    have hex : uFix g0 k = 1 → uLst g0 k = 0 := by
      unfold uFix uLst
      intro h
      rw [if_neg]
      intro z
      rw [if_neg (by omega), if_neg (by omega)] at h
      cases h
    have hTf : uTf g0 r k = if uFix g k = 1 ∧ g 5 r 1 ≤ uLtm g k (g 5 r 0) ∧ uLtm g k (g 5 r 0) < g 5 r 2 then uLtm g k (g 5 r 0) else -1 := by
      rw [← congrFun (hc.tf (r := r)) k]
      rfl
    have hTl : uTl g0 r k = if uLst g k = 1 ∧ g 5 r 1 ≤ uLtm g k (g 5 r 0) ∧ uLtm g k (g 5 r 0) < g 5 r 2 then uLtm g k (g 5 r 0) else -1 := by
      rw [← congrFun (hc.tl (r := r)) k]
      rfl
    have hbf : ∀ j, j ≤ k → uTf g0 r j ≤ 2040 := fun j _ => by have := uTf_bd (k := j) hr; omega
    have hbl : ∀ j, j ≤ k → uTl g0 r j ≤ 2040 := fun j _ => by have := uTl_bd (k := j) hr; omega
    rw [qsX0_lineUp_run0]
    unfold sX0_lineUp_h32 sX0_lineUp_j91
    simp only [Int.toNat_natCast]
    refine zT_ltT (by omega) (zT_li (by omega) ?_)
    refine zT_bde (e_lineTime hfk hbk hs) ?_
    generalize uLtm g k (g 5 r 0) = t at hL eL hTf hTl ⊢
    by_cases cw : g 5 r 1 ≤ t ∧ t < g 5 r 2
    · have eh := e_holdsAt (m := t) hrg (by omega)
      rw [if_pos cw] at eh
      refine zT_bde eh ?_
      refine zT_eqF (by omega) ?_
      refine zT_bde (e_isFixed hfk) ?_
      by_cases cf : uFix g k = 1
      · refine zT_eqF (by omega) ?_
        rw [if_pos ⟨cf, cw⟩] at hTf
        rw [if_neg (by omega)] at hTl
        refine zT_bdm (by rw [← hTf]; exact t_addKs hn (by omega) (by omega) hbf h0 n0) ?_
        rintro q g' ⟨a1, a2, a3⟩
        refine zT_let ?_
        exact ih (k + 1) f g' (by omega) (by omega) (hN.tr a2.fn) a1 (by rw [uKs_none (by omega)]; exact h1.fl a2 (by decide)) a3 (by rw [uKs_none (by omega)]; exact n1.fl a2 (by decide))
      · refine zT_eqT (by omega) ?_
        refine zT_bde eh ?_
        refine zT_eqF (by omega) ?_
        refine zT_bde (e_isListed hfk) ?_
        rw [if_neg (fun z => cf z.1)] at hTf
        by_cases cl : uLst g k = 1
        · refine zT_eqF (by omega) ?_
          rw [if_pos ⟨cl, cw⟩] at hTl
          refine zT_bdm (by rw [← hTl]; exact t_addKs hn (by omega) (by omega) hbl h1 n1) ?_
          rintro q g' ⟨a1, a2, a3⟩
          refine zT_let ?_
          exact ih (k + 1) f g' (by omega) (by omega) (hN.tr a2.fn) (by rw [uKs_none (by omega)]; exact h0.fl a2 (by decide)) a1 (by rw [uKs_none (by omega)]; exact n0.fl a2 (by decide)) a3
        · refine zT_eqT (by omega) ?_
          rw [if_neg (fun z => cl z.1)] at hTl
          refine zT_let ?_
          exact ih (k + 1) f g (by omega) (by omega) hN (by rw [uKs_none (by omega)]; exact h0) (by rw [uKs_none (by omega)]; exact h1) (by rw [uKs_none (by omega)]; exact n0) (by rw [uKs_none (by omega)]; exact n1)
    · have eh := e_holdsAt (m := t) hrg (by omega)
      rw [if_neg cw] at eh
      rw [if_neg (fun z => cw z.2)] at hTf hTl
      refine zT_bde eh ?_
      refine zT_eqT (by omega) ?_
      refine zT_bde eh ?_
      refine zT_eqT (by omega) ?_
      refine zT_let ?_
      exact ih (k + 1) f g (by omega) (by omega) hN (by rw [uKs_none (by omega)]; exact h0) (by rw [uKs_none (by omega)]; exact h1) (by rw [uKs_none (by omega)]; exact n0) (by rw [uKs_none (by omega)]; exact n1)
/-- how many are looked at: none, if it is ended -/
def uFr (g : zG) (r : Nat) : Nat := if g 5 r 4 = 0 then (g 1 0 2).toNat else 0
def uLF (g : zG) (r : Nat) : List Int := uKs (uTf g r) (uFr g r)
def uLL (g : zG) (r : Nat) : List Int := uKs (uTl g r) (uFr g r)
theorem t_lineUp {n r F : Nat} {g0 : zG} (hn : 24 < n) (hF : FOK g0 F) (hr : rgok g0 r) :
    zT (sX0_lineUp n r g0) (fun _ g' => FD g0 g' ∧ g' 2 0 2 = (uSc g0 r : Int) ∧ LN g' 0 (uLF g0 r) ∧ LN g' 1 (uLL g0 r) ∧ uNg g' 0 (uLF g0 r).length ∧ uNg g' 1 (uLL g0 r).length) := by
  have hr2 := hr
  unfold rgok at hr2
  unfold sX0_lineUp sX2_clear
  refine zT_bd (zT_st (zT_some ?_))
  refine zT_bd (zT_st (zT_some ?_))
  generalize hg : zup (zup g0 3 0 4 0) 3 1 4 0 = g1
  have h1 : FN g0 g1 := by
    intro k j p h
    rw [← hg, zup_rd, if_neg (fun z => h (Or.inl z.1)), zup_rd, if_neg (fun z => h (Or.inl z.1))]
  have c1 := h1.cs
  refine zT_bde (e_slotCount (c1.rok hr)) ?_
  refine zT_st ?_
  generalize hg2 : zup g1 2 0 2 (uSc g1 r : Int) = g2
  have h2 : FD g0 g2 := h1.fd.tr (by rw [← hg2]; exact FD.up2)
  have c2 := h2.cs
  have e22 : g2 2 0 2 = (uSc g0 r : Int) := by rw [← hg2, zup_rd, if_pos ⟨rfl, rfl, rfl⟩, c1.sc]
  have z0 : g2 3 0 4 = 0 := by rw [← hg2, ← hg]; simp [zup_rd]
  have z1 : g2 3 1 4 = 0 := by rw [← hg2, ← hg]; simp [zup_rd]
  have l0 : ∀ i, (i = 0 ∨ i = 1) → LN g2 i [] := by
    intro i hi
    refine ⟨?_, fun p y hy => by simp at hy⟩
    rcases hi with rfl | rfl
    · simpa using z0
    · simpa using z1
  have hr4 : g2 5 r 4 = g0 5 r 4 := c2.g5
  refine zT_eq (by omega) (fun c => ?_) (fun c => ?_)
  · have hF2 := hF.cs c2
    have := t_lineUp_run (n := n) (r := r) hn hF2 (c2.rok hr) F 0 n g2 (by omega) (by have := hF.2.1; omega) FN.rf (l0 0 (Or.inl rfl)) (l0 1 (Or.inr rfl)) (fun p hp => by cases hp) (fun p hp => by cases hp)
    refine zT_mono this ?_
    rintro q g' ⟨a1, a2, a3, a4, a5⟩
    have eF : uFr g0 r = F := by unfold uFr; rw [if_pos (by omega), hF.1]; omega
    rw [c2.tf] at a2 a4
    rw [c2.tl] at a3 a5
    unfold uLF uLL
    rw [eF]
    exact ⟨h2.tr a1.fd, by rw [a1 2 0 2 (by decide)]; exact e22, a2, a3, a4, a5⟩
  · have eF : uFr g0 r = 0 := by unfold uFr; rw [if_neg (by omega)]
    refine zT_some ⟨h2, e22, ?_⟩
    unfold uLF uLL
    rw [eF]
    exact ⟨l0 0 (Or.inl rfl), l0 1 (Or.inr rfl), (fun p hp => by cases hp), (fun p hp => by cases hp)⟩

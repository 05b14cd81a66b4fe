/-! dealing a line -/
def uOi (o : Option Nat) : Int := match o with
  | none => -1
  | some j => (j : Int)
def uN1 (o : Option Nat) : Int := match o with
  | none => 1
  | some _ => 0
theorem uNo_snoc1 {o : Option Nat} {l : List (Option Nat)} : uNo (l ++ [o]) = uNo l + uN1 o := by
  rw [uNo_snoc]
  cases o <;> rfl
/-- but slots and targets of line i nothing has changed -/
def FG (i : Nat) (g g' : zG) : Prop := ∀ k j p, ¬ ((k = 12 ∨ k = 13) ∧ j = i) → g' k j p = g k j p
theorem FG.rf {i : Nat} {g : zG} : FG i g g := fun _ _ _ _ => rfl
theorem FG.tr {i : Nat} {g g1 g2 : zG} (h1 : FG i g g1) (h2 : FG i g1 g2) : FG i g g2 := fun k j p h => (h2 k j p h).trans (h1 k j p h)
theorem FG.fn {i : Nat} {g g' : zG} (h : FG i g g') : FN g g' := fun k j p hn => h k j p (fun z => hn (by omega))
theorem FG.up {i q : Nat} {g : zG} {v w : Int} : FG i g (zup (zup g 12 i q v) 13 i q w) := by
  intro k j p h
  rw [zup_rd, if_neg (fun z => h ⟨Or.inr z.1, z.2.1⟩), zup_rd, if_neg (fun z => h ⟨Or.inl z.1, z.2.1⟩)]
theorem LN.fg {g g' : zG} {i j : Nat} {l : List Int} (h : LN g i l) (hf : FG j g g') : LN g' i l := by
  refine ⟨by rw [hf 3 i 4 (by omega)]; exact h.1, fun p y hy => ?_⟩
  have := h.2 p y hy
  unfold uCl at this ⊢
  rw [hf 10 i p (by omega), hf 11 i p (by omega)]
  exact this
theorem uDT_iff {en : Nat → Int} {S j : Nat} : ∀ {l : List Int} {T : Nat → Bool}, uDT en S T l j = true ↔ T j = true ∨ ∃ q : Nat, (uDl en S T l)[q]? = some (some j) := by
  intro l
  induction l with
  | nil =>
    intro T
    show T j = true ↔ _
    simp [uDl]
  | cons y l ih =>
    intro T
    show uDT en S (uPut T (uTk en T (y / 24) S 0)) l j = true ↔ T j = true ∨ ∃ q : Nat, (uTk en T (y / 24) S 0 :: uDl en S (uPut T (uTk en T (y / 24) S 0)) l)[q]? = some (some j)
    rw [ih]
    constructor
    · rintro (h | ⟨q, h⟩)
      · cases hc : uTk en T (y / 24) S 0 with
        | none =>
          rw [hc] at h
          exact Or.inl h
        | some i =>
          rw [hc] at h
          have h : (j == i || T j) = true := h
          rcases Bool.or_eq_true_iff.mp h with h | h
          · refine Or.inr ⟨0, ?_⟩
            have : j = i := by simpa using h
            rw [this]
            rfl
          · exact Or.inl h
      · exact Or.inr ⟨q + 1, h⟩
    · rintro (h | ⟨q, h⟩)
      · refine Or.inl ?_
        cases uTk en T (y / 24) S 0 with
        | none => exact h
        | some i => simp [uPut, h]
      · cases q with
        | zero =>
          refine Or.inl ?_
          have h : some (uTk en T (y / 24) S 0) = some (some j) := h
          rw [Option.some.inj h]
          simp [uPut]
        | succ q => exact Or.inr ⟨q, h⟩
def SV (en bg : Nat → Int) (to : Int) (S i : Nat) (T0 : Nat → Bool) (l lf pre rest : List Int) (p : Nat) (w : Int) (g : zG) : Prop :=
  l = pre ++ rest ∧ LN g i l ∧ LN g 0 lf ∧
  (∀ q o, (uDl en S T0 pre)[q]? = some o → g 12 i q = uOi o) ∧
  (∀ q y o, pre[q]? = some y → (uDl en S T0 pre)[q]? = some o → g 13 i q = uTg bg to (y / 24) o) ∧
  (∀ q, q < lf.length → -1 ≤ g 12 0 q ∧ g 12 0 q ≤ 2000) ∧
  (i = 0 → lf = l ∧ ∀ q, pre.length ≤ q → q < l.length → g 12 0 q = -1) ∧
  p ≤ S ∧ w = uNo (uDl en S T0 pre) ∧
  (∀ j, j < p → ∀ y ∈ rest, uDT en S T0 pre j = true ∨ en j ≤ y / 24) ∧
  (∀ j, p ≤ j → j < S → (uDT en S T0 pre j = true ↔ uGv g 0 lf.length (j : Int)))
theorem SV.inc {en bg : Nat → Int} {to : Int} {S i : Nat} {T0 : Nat → Bool} {l lf pre rest : List Int} {p : Nat} {w : Int} {g : zG} (h : SV en bg to S i T0 l lf pre rest p w g) (hp : p < S) (hb : ∀ y ∈ rest, uDT en S T0 pre p = true ∨ en p ≤ y / 24) : SV en bg to S i T0 l lf pre rest (p + 1) w g := by
  obtain ⟨h1, h2, h3, h4, h5, h6, h7, h8, h9, h10, h11⟩ := h
  refine ⟨h1, h2, h3, h4, h5, h6, h7, by omega, h9, fun j hj y hy => ?_, fun j hj hS => h11 j (by omega) hS⟩
  rcases Nat.lt_or_ge j p with c | c
  · exact h10 j c y hy
  · have : j = p := by omega
    rw [this]
    exact hb y hy
theorem SV.step {en bg : Nat → Int} {to : Int} {S i : Nat} {T0 : Nat → Bool} {l lf pre rest : List Int} {y : Int} {p p' : Nat} {w : Int} {g : zG} (h : SV en bg to S i T0 l lf pre (y :: rest) p w g) (hi : i = 0 ∨ i = 1) (hS : S ≤ 1440) {o : Option Nat} (ho : uTk en (uDT en S T0 pre) (y / 24) S 0 = o) (hp : p ≤ p' ∧ p' ≤ S) (hb : ∀ j, j < p' → ∀ z ∈ rest, uPut (uDT en S T0 pre) o j = true ∨ en j ≤ z / 24) (ho2 : ∀ j, o = some j → j < p') :
    SV en bg to S i T0 l lf (pre ++ [y]) rest p' (w + uN1 o) (zup (zup g 12 i pre.length (uOi o)) 13 i pre.length (uTg bg to (y / 24) o)) := by
  obtain ⟨h1, h2, h3, h4, h5, h6, h7, h8, h9, h10, h11⟩ := h
  have hfg : FG i g (zup (zup g 12 i pre.length (uOi o)) 13 i pre.length (uTg bg to (y / 24) o)) := FG.up
  have hob : -1 ≤ uOi o ∧ uOi o ≤ 1440 := by
    cases o with
    | none => exact ⟨Int.le_refl _, by decide⟩
    | some j => have := ho2 j rfl; show -1 ≤ (j : Int) ∧ (j : Int) ≤ 1440; omega
  have e12 : ∀ j q, zup (zup g 12 i pre.length (uOi o)) 13 i pre.length (uTg bg to (y / 24) o) 12 j q = if j = i ∧ q = pre.length then uOi o else g 12 j q := by
    intro j q
    simp [zup_rd]
  have e13 : ∀ q, zup (zup g 12 i pre.length (uOi o)) 13 i pre.length (uTg bg to (y / 24) o) 13 i q = if q = pre.length then uTg bg to (y / 24) o else g 13 i q := by
    intro q
    simp [zup_rd]
  have hdl : uDl en S T0 (pre ++ [y]) = uDl en S T0 pre ++ [o] := by rw [uDl_snoc, ho]
  have hdt : uDT en S T0 (pre ++ [y]) = uPut (uDT en S T0 pre) o := by rw [uDT_snoc, ho]
  have hlen := uDl_len (en := en) (S := S) (l := pre) (T := T0)
  refine ⟨by rw [h1]; simp, h2.fg hfg, h3.fg hfg, fun q o' hq => ?_, fun q y' o' hy' hq => ?_, fun q hq => ?_, fun hi0 => ?_, hp.2, ?_, fun j hj z hz => ?_, fun j hj hjS => ?_⟩
  · rw [hdl] at hq
    rw [e12]
    rcases Nat.lt_or_ge q pre.length with c | c
    · rw [List.getElem?_append_left (by omega)] at hq
      rw [if_neg (by omega)]
      exact h4 q o' hq
    · rw [List.getElem?_append_right (by omega)] at hq
      have hq1 := (List.getElem?_eq_some_iff.mp hq).1
      simp at hq1
      have : q = pre.length := by omega
      rw [this, hlen, Nat.sub_self] at hq
      have hq : some o = some o' := hq
      rw [if_pos ⟨rfl, this⟩, Option.some.inj hq]
  · rw [hdl] at hq
    rw [e13]
    rcases Nat.lt_or_ge q pre.length with c | c
    · rw [List.getElem?_append_left (by omega)] at hq
      rw [List.getElem?_append_left c] at hy'
      rw [if_neg (by omega)]
      exact h5 q y' o' hy' hq
    · rw [List.getElem?_append_right (by omega)] at hq
      rw [List.getElem?_append_right c] at hy'
      have hq1 := (List.getElem?_eq_some_iff.mp hq).1
      simp at hq1
      have : q = pre.length := by omega
      rw [this, hlen, Nat.sub_self] at hq
      rw [this, Nat.sub_self] at hy'
      have hq : some o = some o' := hq
      have hy' : some y = some y' := hy'
      rw [if_pos this, Option.some.inj hq, Option.some.inj hy']
  · rw [e12]
    split
    · omega
    · exact h6 q hq
  · obtain ⟨a, b⟩ := h7 hi0
    refine ⟨a, fun q hq1 hq2 => ?_⟩
    simp at hq1
    rw [e12, if_neg (by omega)]
    exact b q (by omega) hq2
  · rw [hdl, uNo_snoc1, h9]
  · rw [hdt]
    exact hb j hj z hz
  · rw [hdt]
    have k1 : uPut (uDT en S T0 pre) o j = uDT en S T0 pre j := by
      cases o with
      | none => rfl
      | some j0 =>
        have := ho2 j0 rfl
        show (j == j0 || uDT en S T0 pre j) = _
        have c : (j == j0) = false := by simp; omega
        rw [c]
        rfl
    rw [k1, h11 j (by omega) hjS]
    have hoj : uOi o ≠ (j : Int) := by
      cases o with
      | none => show (-1 : Int) ≠ j; omega
      | some j0 => have := ho2 j0 rfl; show (j0 : Int) ≠ j; omega
    have hpl : pre.length < l.length := by rw [h1]; simp
    constructor
    · rintro ⟨q, hq1, hq2⟩
      refine ⟨q, hq1, ?_⟩
      rw [e12, if_neg]
      · exact hq2
      · rintro ⟨c1, c2⟩
        obtain ⟨a, b⟩ := h7 c1.symm
        rw [c2, b pre.length (Nat.le_refl _) hpl] at hq2
        omega
    · rintro ⟨q, hq1, hq2⟩
      refine ⟨q, hq1, ?_⟩
      rw [e12] at hq2
      split at hq2
      · exact absurd hq2 hoj
      · exact hq2
theorem t_serve_run {n i r S : Nat} {fr to rt : Int} {T0 : Nat → Bool} {l lf : List Int} {g0 : zG} (hn : 24 < n) (hi : i = 0 ∨ i = 1) (hr : rgok g0 r) (e1 : g0 5 r 1 = fr) (e2 : g0 5 r 2 = to) (e3 : g0 5 r 3 = rt) (eS : g0 2 0 2 = (S : Int)) (hS : S ≤ 1440) (hrt : 0 < S → 0 < rt) (hl24 : l.length ≤ 24) (hf24 : lf.length ≤ 24) (hsr : uSrt l) (hkb : uKb l) : ∀ f,
    (∀ (pre rest : List Int) (p : Nat) (w x6 : Int) (g : zG), SV (uEn fr to rt) (uBg fr rt) to S i T0 l lf pre rest p w g → FG i g0 g → 2 * rest.length + (S - p) + 1 < f →
      zT (sX0_serve_run n f 0 i r w (p : Int) (pre.length : Int) x6 g) (fun z g' => (∃ p', SV (uEn fr to rt) (uBg fr rt) to S i T0 l lf l [] p' z g') ∧ FG i g0 g')) ∧
    (∀ (pre : List Int) (y : Int) (rest : List Int) (p : Nat) (w : Int) (g : zG), SV (uEn fr to rt) (uBg fr rt) to S i T0 l lf pre (y :: rest) p w g → FG i g0 g → 2 * (rest.length + 1) + (S - p) < f →
      zT (sX0_serve_run n f 1 i r w (p : Int) (pre.length : Int) (y / 24) g) (fun z g' => (∃ p', SV (uEn fr to rt) (uBg fr rt) to S i T0 l lf l [] p' z g') ∧ FG i g0 g')) := by
  have hr2 := hr
  unfold rgok at hr2
  intro f
  induction f with
  | zero => exact ⟨fun _ _ _ _ _ _ _ _ h => by omega, fun _ _ _ _ _ _ _ _ h => by omega⟩
  | succ f ih =>
    obtain ⟨ih0, ih1⟩ := ih
    refine ⟨fun pre rest p w x6 g hSV hFG hf => ?_, fun pre y rest p w g hSV hFG hf => ?_⟩
    · obtain ⟨a1, a2, -⟩ := id hSV
      have h3 := a2.1
      rw [qsX0_serve_run0]
      unfold sX0_serve_h8
      cases rest with
      | nil =>
        have e : l = pre := by rw [a1]; simp
        have e4 := congrArg List.length e
        refine zT_ltF (by rw [h3]; omega) (zT_some ⟨⟨p, ?_⟩, hFG⟩)
        rw [← e] at hSV
        exact hSV
      | cons y rest =>
        have hy : l[pre.length]? = some y := by rw [a1, List.getElem?_append_right (Nat.le_refl _), Nat.sub_self]; rfl
        have hlt := (List.getElem?_eq_some_iff.mp hy).1
        refine zT_ltT (by rw [h3]; omega) (zT_bde (e_timeAt a2 hl24 hy) ?_)
        refine ih1 pre y rest p w g hSV hFG ?_
        simp at hf
        omega
    · obtain ⟨a1, a2, a3, a4, a5, a6, a7, a8, a9, a10, a11⟩ := id hSV
      have h3 := a2.1
      have h30 := a3.1
      have hy : l[pre.length]? = some y := by rw [a1, List.getElem?_append_right (Nat.le_refl _), Nat.sub_self]; rfl
      have hlt := (List.getElem?_eq_some_iff.mp hy).1
      have hyk := hkb y (List.mem_of_getElem? hy)
      have hge : ∀ z ∈ rest, y / 24 ≤ z / 24 := by
        intro z hz
        rw [a1] at hsr
        have := (List.pairwise_cons.mp (List.pairwise_append.mp hsr).2.1).1 z hz
        omega
      have hcs := hFG.fn.cs
      have hrg := hcs.rok hr
      have k1 : g 5 r 1 = fr := by rw [hcs.g5]; exact e1
      have k2 : g 5 r 2 = to := by rw [hcs.g5]; exact e2
      have k3 : g 5 r 3 = rt := by rw [hcs.g5]; exact e3
      have kS : g 2 0 2 = (S : Int) := by rw [hFG 2 0 2 (by omega)]; exact eS
      have hsnoc : ((pre.length : Nat) : Int) + 1 = ((pre ++ [y]).length : Int) := by simp
      have hinc : ∀ q : Nat, ((q : Nat) : Int) + 1 = ((q + 1 : Nat) : Int) := fun q => by omega
      -- the end of the search
      have hend : ∀ z, zT (sX0_serve_j63 n (sX0_serve_run n f) i r w (p : Int) (pre.length : Int) (y / 24) g) z ∨ True := fun z => Or.inr trivial
      clear hend
      have hno : p = S → zT (sX0_serve_j63 n (sX0_serve_run n f) i r w (p : Int) (pre.length : Int) (y / 24) g) (fun z g' => (∃ p', SV (uEn fr to rt) (uBg fr rt) to S i T0 l lf l [] p' z g') ∧ FG i g0 g') := by
        intro c
        unfold sX0_serve_j63
        refine zT_ltF (by rw [kS]; omega) ?_
        refine zT_bde (e_give a2 hl24 hlt) ?_
        refine zT_let (zT_let ?_)
        have ho : uTk (uEn fr to rt) (uDT (uEn fr to rt) S T0 pre) (y / 24) S 0 = none := uTk_no (fun j _ hj => a10 j (by omega) y List.mem_cons_self)
        have hst := SV.step (bg := uBg fr rt) hSV hi hS ho (p' := p) ⟨Nat.le_refl p, by omega⟩ (fun j hj z hz => a10 j hj z (List.mem_cons_of_mem _ hz)) (fun j hj => by cases hj)
        rw [k2, hsnoc]
        refine ih0 (pre ++ [y]) rest p (w + 1) 0 _ hst (hFG.tr FG.up) (by omega)
      have hyes : p < S → uDT (uEn fr to rt) S T0 pre p = false → y / 24 < uEn fr to rt p → zT (sX0_serve_j63 n (sX0_serve_run n f) i r w (p : Int) (pre.length : Int) (y / 24) g) (fun z g' => (∃ p', SV (uEn fr to rt) (uBg fr rt) to S i T0 l lf l [] p' z g') ∧ FG i g0 g') := by
        intro c c2 c3
        unfold sX0_serve_j63
        refine zT_ltT (by rw [kS]; omega) ?_
        have hbg := uBg_ge (fr := fr) (rt := rt) (hrt (by omega)) (j := p)
        have eb := e_slotBegin (g := g) (r := r) (j := (p : Int)) hrg (by rw [k3]; exact hrt (by omega)) (by omega)
        rw [k1, k3, Int.toNat_natCast] at eb
        refine zT_bde eb ?_
        refine zT_ri (by omega) (zT_ri (by omega) ?_)
        refine zT_bde (e_give a2 hl24 hlt) ?_
        refine zT_let (zT_let ?_)
        have ho : uTk (uEn fr to rt) (uDT (uEn fr to rt) S T0 pre) (y / 24) S 0 = some p := uTk_at (Nat.zero_le p) (by omega) c2 c3 (fun j _ hj => a10 j (by omega) y List.mem_cons_self)
        have hst := SV.step (bg := uBg fr rt) hSV hi hS ho (p' := p + 1) ⟨by omega, by omega⟩ (fun j hj z hz => by
          rcases Nat.lt_or_ge j p with c4 | c4
          · rcases a10 j c4 z (List.mem_cons_of_mem _ hz) with h | h
            · exact Or.inl (by simp [uPut, h])
            · exact Or.inr h
          · have : j = p := by omega
            exact Or.inl (by simp [uPut, this])) (fun j hj => by cases hj; omega)
        rw [hsnoc, hinc]
        refine ih0 (pre ++ [y]) rest (p + 1) w 0 _ ?_ (hFG.tr FG.up) (by omega)
        have e0 : w + uN1 (some p) = w := Int.add_zero w
        rw [e0] at hst
        exact hst
      rw [qsX0_serve_run1]
      unfold sX0_serve_h25
      by_cases c : p = S
      · exact zT_ltF (by rw [kS]; omega) (hno c)
      · have hpS : p < S := by omega
        refine zT_ltT (by rw [kS]; omega) ?_
        have ee := e_slotEnd (g := g) (r := r) (j := (p : Int)) hrg (by rw [k3]; exact hrt (by omega)) (by omega)
        rw [k1, k2, k3, Int.toNat_natCast] at ee
        have hbg := uBg_ge (fr := fr) (rt := rt) (hrt (by omega)) (j := p + 1)
        have hen : -100 ≤ uEn fr to rt p ∧ uEn fr to rt p ≤ 1440 := by unfold uEn; omega
        refine zT_bde ee ?_
        refine zT_le (by omega) (fun c1 => ?_) (fun c1 => ?_)
        · refine zT_let ?_
          rw [hinc]
          refine ih1 pre y rest (p + 1) w g (hSV.inc hpS (fun z hz => Or.inr ?_)) hFG (by omega)
          rcases List.mem_cons.mp hz with rfl | hz
          · exact c1
          · have := hge z hz
            omega
        · refine zT_bdm (t_hasGiven (m := lf.length) hn hf24 h30 ⟨by omega, by omega⟩ a6) ?_
          rintro z g' ⟨rfl, ⟨rfl, hg⟩ | ⟨rfl, hg⟩⟩
          · refine zT_eqF (by omega) (zT_let ?_)
            rw [hinc]
            exact ih1 pre y rest (p + 1) w _ (hSV.inc hpS (fun z hz => Or.inl ((a11 p (Nat.le_refl p) hpS).mpr hg))) hFG (by omega)
          · refine zT_eqT (by omega) ?_
            refine hyes hpS ?_ c1
            cases hc : uDT (uEn fr to rt) S T0 pre p with
            | false => rfl
            | true => exact absurd ((a11 p (Nat.le_refl p) hpS).mp hc) hg
def uEnR (g : zG) (r : Nat) : Nat → Int := uEn (g 5 r 1) (g 5 r 2) (g 5 r 3)
def uBgR (g : zG) (r : Nat) : Nat → Int := uBg (g 5 r 1) (g 5 r 3)
def uT1 (g : zG) (r : Nat) : Nat → Bool := uDT (uEnR g r) (uSc g r) (fun _ => false) (uLF g r)
def uO1 (g : zG) (r : Nat) : List (Option Nat) := uDl (uEnR g r) (uSc g r) (fun _ => false) (uLF g r)
def uO2 (g : zG) (r : Nat) : List (Option Nat) := uDl (uEnR g r) (uSc g r) (uT1 g r) (uLL g r)
def uPen (g : zG) (r : Nat) (k : Int) : Int := uPn (uEnR g r) (uBgR g r) (uSc g r) (g 5 r 2) (uT1 g r) (uLL g r) k (-1)
theorem uPn_at {en bg : Nat → Int} {S : Nat} {to k d : Int} : ∀ {l : List Int} {T : Nat → Bool} {q : Nat} {y : Int} {o : Option Nat}, l[q]? = some y → y % 24 = k → (∀ q' y', q' < q → l[q']? = some y' → y' % 24 ≠ k) → (uDl en S T l)[q]? = some o → uPn en bg S to T l k d = uTg bg to (y / 24) o - y / 24 := by
  intro l
  induction l with
  | nil => intro T q y o h; simp at h
  | cons a l ih =>
    intro T q y o h1 h2 h3 h4
    unfold uPn
    cases q with
    | zero =>
      have h1 : some a = some y := h1
      have h4 : some (uTk en T (a / 24) S 0) = some o := h4
      cases h1
      rw [if_pos h2, Option.some.inj h4]
    | succ q =>
      rw [if_neg (h3 0 a (by omega) rfl)]
      exact ih h1 h2 (fun q' y' hq hy => h3 (q' + 1) y' (by omega) hy) h4
theorem uSc_pos {g : zG} {r : Nat} (hr : rgok g r) (h : 0 < uSc g r) : 0 < g 5 r 3 ∧ g 5 r 4 = 0 := by
  unfold rgok at hr
  unfold uSc at h
  split at h
  · rename_i c
    refine ⟨?_, c⟩
    rcases Int.lt_or_le 0 (g 5 r 3) with c1 | c1
    · exact c1
    · have : g 5 r 3 = 0 := by omega
      rw [this, uS_zero] at h
      omega
  · omega
theorem uSc_le {g : zG} {r : Nat} (hr : rgok g r) : uSc g r ≤ 1440 := by
  unfold rgok at hr
  unfold uSc
  split
  · exact uS_le (by omega) (by omega)
  · omega
theorem uFr_le {g : zG} {r F : Nat} (hF : FOK g F) : uFr g r ≤ 24 ∧ (uFr g r = F ∨ uFr g r = 0) := by
  obtain ⟨h1, h2, -⟩ := hF
  unfold uFr
  split <;> omega
theorem t_dealOut {n r F : Nat} {g0 : zG} (hn : 3000 < n) (hF : FOK g0 F) (hr : rgok g0 r) :
    zT (sX0_dealOut n r g0) (fun _ g' => FD g0 g' ∧ g' 2 0 2 = (uSc g0 r : Int) ∧ g' 3 0 4 = ((uLF g0 r).length : Int) ∧ g' 3 1 4 = ((uLL g0 r).length : Int) ∧ g' 2 0 4 = uNo (uO2 g0 r) ∧ g' 2 0 3 = (uSc g0 r : Int) - (((uLF g0 r).length : Int) - uNo (uO1 g0 r)) - (((uLL g0 r).length : Int) - uNo (uO2 g0 r)) ∧ ∀ g2 : zG, (∀ k j p, (k = 3 ∨ (10 ≤ k ∧ k ≤ 13)) → g2 k j p = g' k j p) → ∀ k : Int, 0 ≤ k → k < 24 → sX2_penaltyOf n 1 k g2 = some (uPen g0 r k, g2)) := by
  have hr2 := hr
  unfold rgok at hr2
  have hsl := uSc_le hr
  have hsp := uSc_pos hr
  have hfr := uFr_le (r := r) hF
  have hlf : (uLF g0 r).length ≤ 24 := Nat.le_trans uKeys_len hfr.1
  have hll : (uLL g0 r).length ≤ 24 := Nat.le_trans uKeys_len hfr.1
  have hkf : uKb (uLF g0 r) := uKb_ks hfr.1 (fun k _ => by have := uTf_bd (k := k) hr; omega)
  have hkl : uKb (uLL g0 r) := uKb_ks hfr.1 (fun k _ => by have := uTl_bd (k := k) hr; omega)
  unfold sX0_dealOut
  refine zT_bdm (t_lineUp (by omega) hF hr) ?_
  rintro - g1 ⟨a1, a2, a3, a4, a5, a6⟩
  have c1 := a1.cs
  have s0 : SV (uEn (g0 5 r 1) (g0 5 r 2) (g0 5 r 3)) (uBg (g0 5 r 1) (g0 5 r 3)) (g0 5 r 2) (uSc g0 r) 0 (fun _ => false) (uLF g0 r) (uLF g0 r) [] (uLF g0 r) 0 0 g1 := by
    refine ⟨rfl, a3, a3, fun q o h => by simp [uDl] at h, fun q y o h => by simp at h, fun q hq => by rw [a5 q hq]; decide, fun _ => ⟨rfl, fun q _ hq => a5 q hq⟩, Nat.zero_le _, rfl, fun j hj => by omega, fun j _ _ => ?_⟩
    constructor
    · intro h; cases h
    · rintro ⟨q, h1, h2⟩
      rw [a5 q h1] at h2
      omega
  have r0 := (t_serve_run (n := n) (i := 0) (r := r) (S := uSc g0 r) (T0 := fun _ => false) (l := uLF g0 r) (lf := uLF g0 r) (g0 := g1) (by omega) (Or.inl rfl) (c1.rok hr) c1.g5 c1.g5 c1.g5 a2 hsl (fun h => (hsp h).1) hlf hlf (uKs_srt hfr.1) hkf n).1 [] (uLF g0 r) 0 0 0 g1 s0 FG.rf (by omega)
  refine zT_bdm r0 ?_
  rintro w1 g2 ⟨⟨p1, b1⟩, b2⟩
  obtain ⟨-, b3, -, b5, b6, b7, -, -, b9, -, -⟩ := b1
  have d2 : FD g0 g2 := a1.tr b2.fn.fd
  have c2 := d2.cs
  have l1 : LN g2 1 (uLL g0 r) := a4.fg b2
  have s1 : SV (uEn (g0 5 r 1) (g0 5 r 2) (g0 5 r 3)) (uBg (g0 5 r 1) (g0 5 r 3)) (g0 5 r 2) (uSc g0 r) 1 (uT1 g0 r) (uLL g0 r) (uLF g0 r) [] (uLL g0 r) 0 0 g2 := by
    refine ⟨rfl, l1, b3, fun q o h => by simp [uDl] at h, fun q y o h => by simp at h, b7, fun h => by omega, Nat.zero_le _, rfl, fun j hj => by omega, fun j _ _ => ?_⟩
    show uDT (uEnR g0 r) (uSc g0 r) (fun _ => false) (uLF g0 r) j = true ↔ _
    rw [uDT_iff]
    have hlen := uDl_len (en := uEnR g0 r) (S := uSc g0 r) (l := uLF g0 r) (T := fun _ => false)
    constructor
    · rintro (h | ⟨q, h⟩)
      · cases h
      · refine ⟨q, ?_, ?_⟩
        · have := (List.getElem?_eq_some_iff.mp h).1
          omega
        · exact b5 q (some j) h
    · rintro ⟨q, h1, h2⟩
      refine Or.inr ⟨q, ?_⟩
      obtain ⟨o, ho⟩ : ∃ o, (uDl (uEnR g0 r) (uSc g0 r) (fun _ => false) (uLF g0 r))[q]? = some o := ⟨_, List.getElem?_eq_getElem (by omega)⟩
      have h3 := b5 q o ho
      rw [ho]
      cases o with
      | none =>
        have h3 : g2 12 0 q = -1 := h3
        omega
      | some j' =>
        have h3 : g2 12 0 q = (j' : Int) := h3
        have : j' = j := by omega
        rw [this]
  have a2' : g2 2 0 2 = (uSc g0 r : Int) := by rw [b2 2 0 2 (by omega)]; exact a2
  have r1 := (t_serve_run (n := n) (i := 1) (r := r) (S := uSc g0 r) (T0 := uT1 g0 r) (l := uLL g0 r) (lf := uLF g0 r) (g0 := g2) (by omega) (Or.inr rfl) (c2.rok hr) c2.g5 c2.g5 c2.g5 a2' hsl (fun h => (hsp h).1) hll hlf (uKs_srt hfr.1) hkl n).1 [] (uLL g0 r) 0 0 0 g2 s1 FG.rf (by omega)
  refine zT_bdm r1 ?_
  rintro w2 g3 ⟨⟨p2, f1⟩, f2⟩
  obtain ⟨-, f3, f4, f5, f6, f7, -, -, f9, -, -⟩ := f1
  have d3 : FD g0 g3 := d2.tr f2.fn.fd
  refine zT_st (zT_st (zT_some ?_))
  generalize hg : zup (zup g3 2 0 4 w2) 2 0 3 _ = g4
  have e4 : ∀ k j p, ¬ (k = 2 ∧ j = 0 ∧ (p = 4 ∨ p = 3)) → g4 k j p = g3 k j p := by
    intro k j p h
    rw [← hg, zup_rd, if_neg (fun z => h ⟨z.1, z.2.1, Or.inr z.2.2⟩), zup_rd, if_neg (fun z => h ⟨z.1, z.2.1, Or.inl z.2.2⟩)]
  have k2 : g4 2 0 2 = (uSc g0 r : Int) := by rw [e4 2 0 2 (by omega), f2 2 0 2 (by omega)]; exact a2'
  have k30 : g4 3 0 4 = ((uLF g0 r).length : Int) := by rw [e4 3 0 4 (by omega)]; exact f4.1
  have k31 : g4 3 1 4 = ((uLL g0 r).length : Int) := by rw [e4 3 1 4 (by omega)]; exact f3.1
  have k24 : g4 2 0 4 = w2 := by rw [← hg]; simp [zup_rd]
  have k23 : g4 2 0 3 = (uSc g0 r : Int) - (((uLF g0 r).length : Int) - w1) - (((uLL g0 r).length : Int) - w2) := by
    rw [← hg]
    simp [zup_rd]
    rw [f2 2 0 2 (by omega), a2', f4.1, f3.1]
  refine ⟨d3.tr (fun k j p h => e4 k j p (by omega)), k2, k30, k31, ?_, ?_, fun g9 h9 k hk1 hk2 => ?_⟩
  · rw [k24, f9]; rfl
  · rw [k23, f9, b9]; rfl
  · refine zT_eqn ?_
    have l4 : LN g9 1 (uLL g0 r) := by
      refine ⟨by rw [h9 3 1 4 (by omega)]; exact k31, fun p y hy => ?_⟩
      have := f3.2 p y hy
      unfold uCl at this ⊢
      rw [h9 10 1 p (by omega), h9 11 1 p (by omega), e4 10 1 p (by omega), e4 11 1 p (by omega)]
      exact this
    unfold sX2_penaltyOf
    refine zT_bdm (t_placeOf (by omega) l4 hll ⟨hk1, hk2⟩) ?_
    rintro z g5 ⟨rfl, ⟨rfl, hz⟩ | ⟨q, y, rfl, hy, hyk, hq⟩⟩
    · have e := e_has l4 hll (x := -1) (by omega)
      rw [if_neg (by omega)] at e
      refine zT_bde e (zT_eqT (by omega) (zT_some ⟨?_, rfl⟩))
      unfold uPen
      rw [uPn_out hz]
    · have hql := (List.getElem?_eq_some_iff.mp hy).1
      have e := e_has l4 hll (x := (q : Int)) (by omega)
      rw [if_pos (by omega)] at e
      refine zT_bde e (zT_eqF (by omega) (zT_ix (by omega) (zT_ix (by omega) (zT_some ⟨?_, rfl⟩))))
      rw [Int.toNat_natCast, (l4.2 q y hy).2, h9 13 1 q (by omega), e4 13 1 q (by omega)]
      have hlen := uDl_len (en := uEnR g0 r) (S := uSc g0 r) (l := uLL g0 r) (T := uT1 g0 r)
      obtain ⟨o, ho⟩ : ∃ o, (uDl (uEnR g0 r) (uSc g0 r) (uT1 g0 r) (uLL g0 r))[q]? = some o := ⟨_, List.getElem?_eq_getElem (by omega)⟩
      rw [f6 q y o hy ho]
      unfold uPen
      rw [uPn_at hy hyk hq ho]
      rfl

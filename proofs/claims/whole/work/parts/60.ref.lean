/-! the reference: its rows say what the flights and regulations say -/
def FREF (h v : zG) (F : Nat) : Prop := h 6 0 1 = (F : Int) ∧ ∀ k : Nat, k < F → (h 20 0 k = v 4 k 0 ∧ h 21 0 k = v 4 k 1 ∧ h 22 0 k = v 4 k 2 ∧ (v 4 k 2 = 1 → h 23 0 k = v 4 k 6) ∧ h 24 0 k = v 4 k 4 ∧ h 25 0 k = v 4 k 5 ∧ h 26 0 k = v 4 k 8 ∧ h 27 0 k = v 4 k 9 ∧ h 28 0 k = v 4 k 7 ∧ h 29 0 k = v 4 k 3) ∧ ∀ s : Int, 0 ≤ s → s < 6 → h 30 0 (6 * (k : Int) + s).toNat = v 14 k s.toNat ∧ h 31 0 (6 * (k : Int) + s).toNat = v 15 k s.toNat
def RREF (h v : zG) (r : Nat) : Prop := h 32 0 r = v 5 r 0 ∧ h 33 0 r = v 5 r 1 ∧ h 34 0 r = v 5 r 2 ∧ h 35 0 r = v 5 r 3 ∧ h 37 0 r = v 5 r 4
/-- the reference's rows are the same -/
def CM (h h' : zG) : Prop := ∀ k j p, ((k = 6 ∧ j = 0 ∧ (p = 1 ∨ p = 14)) ∨ (20 ≤ k ∧ k ≤ 39)) → h' k j p = h k j p
theorem CM.rf {h : zG} : CM h h := fun _ _ _ _ => rfl
theorem CM.tr {h h1 h2 : zG} (a : CM h h1) (b : CM h1 h2) : CM h h2 := fun k j p c => (b k j p c).trans (a k j p c)
theorem FREF.cm {h h' v : zG} {F : Nat} (a : FREF h v F) (c : CM h h') : FREF h' v F := by
  refine ⟨by rw [c 6 0 1 (by omega)]; exact a.1, fun k hk => ?_⟩
  rw [c 20 0 k (by omega), c 21 0 k (by omega), c 22 0 k (by omega), c 23 0 k (by omega), c 24 0 k (by omega), c 25 0 k (by omega), c 26 0 k (by omega), c 27 0 k (by omega), c 28 0 k (by omega), c 29 0 k (by omega)]
  refine ⟨(a.2 k hk).1, fun s h1 h2 => ?_⟩
  rw [c 30 0 _ (by omega), c 31 0 _ (by omega)]
  exact (a.2 k hk).2 s h1 h2
theorem RREF.cm {h h' v : zG} {r : Nat} (a : RREF h v r) (c : CM h h') : RREF h' v r := by
  unfold RREF at a ⊢
  rw [c 32 0 r (by omega), c 33 0 r (by omega), c 34 0 r (by omega), c 35 0 r (by omega), c 37 0 r (by omega)]
  exact a
section RF
variable {h v : zG} {F n : Nat}
theorem f_isIn {x a b : Int} (hx : zIn x) (ha : zIn a) (hb : zIn b) : sX5_isIn x a b h = some (if a ≤ x ∧ x ≤ b then 1 else 0, h) := by
  refine zT_eqn ?_
  unfold sX5_isIn
  repeat' first
    | (with_reducible refine zT_ltT ?_ ?_; · omega)
    | (with_reducible refine zT_ltF ?_ ?_; · omega)
    | (with_reducible refine zT_lt ?_ (fun _ => ?_) (fun _ => ?_); · omega)
    | (with_reducible refine zT_leT ?_ ?_; · omega)
    | (with_reducible refine zT_leF ?_ ?_; · omega)
    | (with_reducible refine zT_le ?_ (fun _ => ?_) (fun _ => ?_); · omega)
    | (with_reducible refine zT_eqT ?_ ?_; · omega)
    | (with_reducible refine zT_eqF ?_ ?_; · omega)
    | (with_reducible refine zT_eq ?_ (fun _ => ?_) (fun _ => ?_); · omega)
    | (with_reducible refine zT_ix ?_ ?_; · omega)
    | (with_reducible refine zT_li ?_ ?_; · omega)
    | (with_reducible refine zT_bo ?_ ?_; · omega)
    | (with_reducible refine zT_ri ?_ ?_; · omega)
    | (with_reducible refine zT_dv ?_ ?_; · omega)
    | (with_reducible refine zT_let ?_)
  · exact zT_some ⟨by rw [if_neg (by omega)], rfl⟩
  · exact zT_some ⟨by rw [if_pos (by omega)], rfl⟩
  · exact zT_some ⟨by rw [if_neg (by omega)], rfl⟩
theorem f_isFlight {x : Int} (hf : h 6 0 1 = (F : Int)) (hF : F ≤ 24) (hx : zIn x) : sX5_isFlight x h = some (if 0 ≤ x ∧ x < (F : Int) then 1 else 0, h) := by
  refine zT_eqn ?_
  unfold sX5_isFlight
  refine zT_bde (f_isIn hx (by decide) (by constructor <;> omega)) ?_
  refine zT_bo (by split <;> omega) (zT_some ⟨?_, rfl⟩)
  by_cases c : 0 ≤ x ∧ x < (F : Int)
  · rw [if_pos c, if_pos (by omega)]
  · rw [if_neg c, if_neg (by omega)]
theorem f_isRegulation {x : Int} {R : Nat} (hf : h 6 0 14 = (R : Int)) (hR : R ≤ 6) (hx : zIn x) : sX5_isRegulation x h = some (if 0 ≤ x ∧ x < (R : Int) then 1 else 0, h) := by
  refine zT_eqn ?_
  unfold sX5_isRegulation
  refine zT_bde (f_isIn hx (by decide) (by constructor <;> omega)) ?_
  refine zT_bo (by split <;> omega) (zT_some ⟨?_, rfl⟩)
  by_cases c : 0 ≤ x ∧ x < (R : Int)
  · rw [if_pos c, if_pos (by omega)]
  · rw [if_neg c, if_neg (by omega)]
theorem f_isSector {x : Int} (hx : zIn x) : sX5_isSector x h = some (if 0 ≤ x ∧ x < 6 then 1 else 0, h) := by
  refine zT_eqn ?_
  unfold sX5_isSector
  refine zT_bde (f_isIn hx (by decide) (by decide)) ?_
  refine zT_bo (by split <;> omega) (zT_some ⟨?_, rfl⟩)
  by_cases c : 0 ≤ x ∧ x < 6
  · rw [if_pos c, if_pos (by omega)]
  · rw [if_neg c, if_neg (by omega)]
theorem f_holds {x : Int} (hx : zIn x) : sX5_holds x h = some (if x = 0 then 1 else 0, zup h 6 0 0 x) := by
  refine zT_eqn ?_
  unfold sX5_holds
  refine zT_st ?_
  repeat' first
    | (with_reducible refine zT_ltT ?_ ?_; · omega)
    | (with_reducible refine zT_ltF ?_ ?_; · omega)
    | (with_reducible refine zT_lt ?_ (fun _ => ?_) (fun _ => ?_); · omega)
    | (with_reducible refine zT_leT ?_ ?_; · omega)
    | (with_reducible refine zT_leF ?_ ?_; · omega)
    | (with_reducible refine zT_le ?_ (fun _ => ?_) (fun _ => ?_); · omega)
    | (with_reducible refine zT_eqT ?_ ?_; · omega)
    | (with_reducible refine zT_eqF ?_ ?_; · omega)
    | (with_reducible refine zT_eq ?_ (fun _ => ?_) (fun _ => ?_); · omega)
    | (with_reducible refine zT_ix ?_ ?_; · omega)
    | (with_reducible refine zT_li ?_ ?_; · omega)
    | (with_reducible refine zT_bo ?_ ?_; · omega)
    | (with_reducible refine zT_ri ?_ ?_; · omega)
    | (with_reducible refine zT_dv ?_ ?_; · omega)
    | (with_reducible refine zT_let ?_)
  · exact zT_some ⟨by rw [if_pos (by omega)], rfl⟩
  · exact zT_some ⟨by rw [if_neg (by omega)], rfl⟩
theorem CM.up6 {x : Int} {p : Nat} (hp : p ≠ 1 ∧ p ≠ 14) : CM h (zup h 6 0 p x) := fun a b c hc => by rw [zup_rd, if_neg (fun z => by omega)]
theorem f_departure {k : Nat} (hk : k < F) (hF : F ≤ 24) (hr : FREF h v F) (hf : flok v k) : sX5_departure (k : Int) h = some (uDep v k, h) := by
  obtain ⟨a0, a1, a2, a3, a4, -⟩ := (hr.2 k hk).1
  unfold flok at hf
  refine zT_eqn ?_
  unfold sX5_departure
  simp only [Int.toNat_natCast]
  repeat' first
    | (with_reducible refine zT_ltT ?_ ?_; · omega)
    | (with_reducible refine zT_ltF ?_ ?_; · omega)
    | (with_reducible refine zT_lt ?_ (fun _ => ?_) (fun _ => ?_); · omega)
    | (with_reducible refine zT_leT ?_ ?_; · omega)
    | (with_reducible refine zT_leF ?_ ?_; · omega)
    | (with_reducible refine zT_le ?_ (fun _ => ?_) (fun _ => ?_); · omega)
    | (with_reducible refine zT_eqT ?_ ?_; · omega)
    | (with_reducible refine zT_eqF ?_ ?_; · omega)
    | (with_reducible refine zT_eq ?_ (fun _ => ?_) (fun _ => ?_); · omega)
    | (with_reducible refine zT_ix ?_ ?_; · omega)
    | (with_reducible refine zT_li ?_ ?_; · omega)
    | (with_reducible refine zT_bo ?_ ?_; · omega)
    | (with_reducible refine zT_ri ?_ ?_; · omega)
    | (with_reducible refine zT_dv ?_ ?_; · omega)
    | (with_reducible refine zT_let ?_)
  · exact zT_some ⟨by unfold uDep; rw [if_pos (by omega)]; omega, rfl⟩
  · exact zT_some ⟨by unfold uDep; rw [if_neg (by omega), if_pos (by omega)]; omega, rfl⟩
  · exact zT_some ⟨by unfold uDep; rw [if_neg (by omega), if_neg (by omega)]; omega, rfl⟩
theorem f_enters {k : Nat} {s : Int} (hk : k < F) (hF : F ≤ 24) (hr : FREF h v F) (hb : flbs v k) (hs : 0 ≤ s ∧ s < 6) : sX5_enters (k : Int) s h = some (if uB v k s = -1 then 0 else 1, h) := by
  have hB := uB_bd hb hs
  have e : h 30 0 (6 * (k : Int) + s).toNat = uB v k s := ((hr.2 k hk).2 s hs.1 hs.2).1
  refine zT_eqn ?_
  unfold sX5_enters
  repeat' first
    | (with_reducible refine zT_ltT ?_ ?_; · omega)
    | (with_reducible refine zT_ltF ?_ ?_; · omega)
    | (with_reducible refine zT_lt ?_ (fun _ => ?_) (fun _ => ?_); · omega)
    | (with_reducible refine zT_leT ?_ ?_; · omega)
    | (with_reducible refine zT_leF ?_ ?_; · omega)
    | (with_reducible refine zT_le ?_ (fun _ => ?_) (fun _ => ?_); · omega)
    | (with_reducible refine zT_eqT ?_ ?_; · omega)
    | (with_reducible refine zT_eqF ?_ ?_; · omega)
    | (with_reducible refine zT_eq ?_ (fun _ => ?_) (fun _ => ?_); · omega)
    | (with_reducible refine zT_ix ?_ ?_; · omega)
    | (with_reducible refine zT_li ?_ ?_; · omega)
    | (with_reducible refine zT_bo ?_ ?_; · omega)
    | (with_reducible refine zT_ri ?_ ?_; · omega)
    | (with_reducible refine zT_dv ?_ ?_; · omega)
    | (with_reducible refine zT_let ?_)
  · exact zT_some ⟨by rw [if_pos (by omega)], rfl⟩
  · exact zT_some ⟨by rw [if_neg (by omega)], rfl⟩
theorem f_overOf {k : Nat} {s : Int} (hk : k < F) (hF : F ≤ 24) (hr : FREF h v F) (hf : flok v k) (hs : 0 ≤ s ∧ s < 6) : sX5_overOf (k : Int) s h = some (uDep v k + uB v k s, h) := by
  have e : h 30 0 (6 * (k : Int) + s).toNat = uB v k s := ((hr.2 k hk).2 s hs.1 hs.2).1
  refine zT_eqn ?_
  unfold sX5_overOf
  refine zT_bde (f_departure hk hF hr hf) ?_
  repeat' first
    | (with_reducible refine zT_ltT ?_ ?_; · omega)
    | (with_reducible refine zT_ltF ?_ ?_; · omega)
    | (with_reducible refine zT_lt ?_ (fun _ => ?_) (fun _ => ?_); · omega)
    | (with_reducible refine zT_leT ?_ ?_; · omega)
    | (with_reducible refine zT_leF ?_ ?_; · omega)
    | (with_reducible refine zT_le ?_ (fun _ => ?_) (fun _ => ?_); · omega)
    | (with_reducible refine zT_eqT ?_ ?_; · omega)
    | (with_reducible refine zT_eqF ?_ ?_; · omega)
    | (with_reducible refine zT_eq ?_ (fun _ => ?_) (fun _ => ?_); · omega)
    | (with_reducible refine zT_ix ?_ ?_; · omega)
    | (with_reducible refine zT_li ?_ ?_; · omega)
    | (with_reducible refine zT_bo ?_ ?_; · omega)
    | (with_reducible refine zT_ri ?_ ?_; · omega)
    | (with_reducible refine zT_dv ?_ ?_; · omega)
    | (with_reducible refine zT_let ?_)
  exact zT_some ⟨by rw [e], rfl⟩
theorem f_plannedOver {k : Nat} {s : Int} (hk : k < F) (hF : F ≤ 24) (hr : FREF h v F) (hs : 0 ≤ s ∧ s < 6) : sX5_plannedOver (k : Int) s h = some (v 4 k 1 + uB v k s, h) := by
  have e : h 30 0 (6 * (k : Int) + s).toNat = uB v k s := ((hr.2 k hk).2 s hs.1 hs.2).1
  have e2 := (hr.2 k hk).1.2.1
  refine zT_eqn ?_
  unfold sX5_plannedOver
  simp only [Int.toNat_natCast]
  repeat' first
    | (with_reducible refine zT_ltT ?_ ?_; · omega)
    | (with_reducible refine zT_ltF ?_ ?_; · omega)
    | (with_reducible refine zT_lt ?_ (fun _ => ?_) (fun _ => ?_); · omega)
    | (with_reducible refine zT_leT ?_ ?_; · omega)
    | (with_reducible refine zT_leF ?_ ?_; · omega)
    | (with_reducible refine zT_le ?_ (fun _ => ?_) (fun _ => ?_); · omega)
    | (with_reducible refine zT_eqT ?_ ?_; · omega)
    | (with_reducible refine zT_eqF ?_ ?_; · omega)
    | (with_reducible refine zT_eq ?_ (fun _ => ?_) (fun _ => ?_); · omega)
    | (with_reducible refine zT_ix ?_ ?_; · omega)
    | (with_reducible refine zT_li ?_ ?_; · omega)
    | (with_reducible refine zT_bo ?_ ?_; · omega)
    | (with_reducible refine zT_ri ?_ ?_; · omega)
    | (with_reducible refine zT_dv ?_ ?_; · omega)
    | (with_reducible refine zT_let ?_)
  exact zT_some ⟨by rw [e, e2], rfl⟩
theorem g_loadOf_run {s b w : Int} (hF : FOK v F) (hr : FREF h v F) (hs : 0 ≤ s ∧ s < 6) (hb : -1 ≤ b ∧ b ≤ 3000) (hw : 1 ≤ w ∧ w ≤ 240) : ∀ (d k f : Nat), k + d = F → d < f →
    zT (sX5_loadOf_run n f 0 s b w (uSum (uWin v s b w) k) (k : Int) h) (fun r g' => r = uLoad v F s b w ∧ g' = h) := by
  obtain ⟨h1, h2, h3⟩ := hF
  have hr1 := hr.1
  intro d
  induction d with
  | zero =>
    intro k f hk hf
    obtain ⟨f, rfl⟩ : ∃ f', f = f' + 1 := ⟨f - 1, by omega⟩
    rw [qsX5_loadOf_run0]
    unfold sX5_loadOf_h6
    have hkF : k = F := by omega
    subst hkF
    exact zT_ltF (by omega) (zT_some ⟨rfl, rfl⟩)
  | succ d ih =>
    intro k f hk hf
    obtain ⟨f, rfl⟩ : ∃ f', f = f' + 1 := ⟨f - 1, by omega⟩
    obtain ⟨hfk, hbk⟩ := h3 k (by omega)
    have hT := uTov_bd hfk hbk hs
    have hD := uDep_bd hfk
    have hB := uB_bd hbk hs
    have hf2 := hfk
    unfold flok at hf2
    have a2 := (hr.2 k (by omega)).1.2.2.1
    have := ih (k + 1) f (by omega) (by omega)
    rw [qsX5_loadOf_run0]
    unfold sX5_loadOf_h6 sX5_loadOf_j61 sX5_loadOf_j62
    simp only [Int.toNat_natCast]
    have e : uSum (uWin v s b w) (k + 1) = uSum (uWin v s b w) k + uWin v s b w k := rfl
    rw [e] at this
    refine zT_ltT (by omega) (zT_ix (by omega) (zT_eq (by omega) (fun c => ?_) (fun c => ?_)))
    · have e3 : uLds v k s = 0 := by unfold uLds; rw [if_pos (by omega)]
      have e2 : uWin v s b w k = 0 := by unfold uWin; rw [if_neg (by omega)]
      rw [e2] at this
      exact zT_let (zT_let this)
    · refine zT_bde (f_enters (by omega) h2 hr hbk hs) ?_
      by_cases c1 : uB v k s = -1
      · rw [if_pos c1]
        have e3 : uLds v k s = 0 := by unfold uLds; rw [if_neg (by omega), if_pos c1]
        have e2 : uWin v s b w k = 0 := by unfold uWin; rw [if_neg (by omega)]
        rw [e2] at this
        exact zT_eqT (by omega) (zT_let (zT_let this))
      · rw [if_neg c1]
        have el : uLds v k s = 1 := uLds_one.mpr ⟨by omega, c1⟩
        have et : uTov v k s = uDep v k + uB v k s := by unfold uTov; rw [if_neg c1]
        refine zT_eqF (by omega) (zT_bde (f_overOf (by omega) h2 hr hfk hs) ?_)
        refine zT_bde (f_isIn (by constructor <;> omega) (by constructor <;> omega) (by constructor <;> omega)) ?_
        by_cases c2 : b ≤ uTov v k s ∧ uTov v k s < b + w
        · have e2 : uWin v s b w k = 1 := by unfold uWin; rw [if_pos ⟨el, c2⟩]
          rw [e2] at this
          rw [if_pos (by omega)]
          exact zT_eqF (by omega) (zT_let (zT_let this))
        · have e2 : uWin v s b w k = 0 := by unfold uWin; rw [if_neg (fun z => c2 z.2)]
          rw [e2] at this
          rw [if_neg (by omega)]
          exact zT_eqT (by omega) (zT_let (zT_let this))
theorem f_loadOf {s b w : Int} (hn : 24 < n) (hF : FOK v F) (hr : FREF h v F) (hs : 0 ≤ s ∧ s < 6) (hb : -1 ≤ b ∧ b ≤ 3000) (hw : 1 ≤ w ∧ w ≤ 240) : sX5_loadOf n s b w h = some (uLoad v F s b w, h) :=
  zT_eqn (g_loadOf_run (n := n) hF hr hs hb hw F 0 n (by omega) (by have := hF.2.1; omega))
theorem g_timeOf_j112 {k r : Nat} {fl t y : Int} (hg : RREF h v r) (hr7 : r < 7) (hrg : rgok v r) (hfl : fl = 0 ∨ fl = 1) (ht : -1 ≤ t ∧ t ≤ 5000) (hy : y = (if fl = 1 ∧ v 5 r 1 ≤ t ∧ t < v 5 r 2 then t else -1)) : zT (sX5_timeOf_j112 (r : Int) fl t h) (fun z g' => z = y ∧ g' = h) := by
  obtain ⟨g0, g1, g2, -, -⟩ := hg
  unfold rgok at hrg
  unfold sX5_timeOf_j112
  simp only [Int.toNat_natCast]
  repeat' first
    | (with_reducible refine zT_ltT ?_ ?_; · omega)
    | (with_reducible refine zT_ltF ?_ ?_; · omega)
    | (with_reducible refine zT_lt ?_ (fun _ => ?_) (fun _ => ?_); · omega)
    | (with_reducible refine zT_leT ?_ ?_; · omega)
    | (with_reducible refine zT_leF ?_ ?_; · omega)
    | (with_reducible refine zT_le ?_ (fun _ => ?_) (fun _ => ?_); · omega)
    | (with_reducible refine zT_eqT ?_ ?_; · omega)
    | (with_reducible refine zT_eqF ?_ ?_; · omega)
    | (with_reducible refine zT_eq ?_ (fun _ => ?_) (fun _ => ?_); · omega)
    | (with_reducible refine zT_ix ?_ ?_; · omega)
    | (with_reducible refine zT_li ?_ ?_; · omega)
    | (with_reducible refine zT_bo ?_ ?_; · omega)
    | (with_reducible refine zT_ri ?_ ?_; · omega)
    | (with_reducible refine zT_dv ?_ ?_; · omega)
    | (with_reducible refine zT_let ?_)
  · exact zT_some ⟨by rw [hy, if_neg (by omega)], rfl⟩
  · exact zT_some ⟨by rw [hy, if_neg (by omega)], rfl⟩
  · exact zT_some ⟨by rw [hy, if_pos (by omega)], rfl⟩
  · exact zT_some ⟨by rw [hy, if_neg (by omega)], rfl⟩
theorem g_timeOf_j83 {k r : Nat} {fl : Int} (hk : k < F) (hF : FOK v F) (hr : FREF h v F) (hg : RREF h v r) (hr7 : r < 7) (hrg : rgok v r) (hfl : fl = 0 ∨ fl = 1) (cb : uB v k (v 5 r 0) ≠ -1) : zT (sX5_timeOf_j83 (r : Int) (k : Int) (v 5 r 0) fl h) (fun z g' => z = (if fl = 1 ∧ v 5 r 1 ≤ uLtm v k (v 5 r 0) ∧ uLtm v k (v 5 r 0) < v 5 r 2 then uLtm v k (v 5 r 0) else -1) ∧ g' = h) := by
  obtain ⟨hfk, hbk⟩ := hF.2.2 k hk
  have h24 := hF.2.1
  have hrg2 := hrg
  unfold rgok at hrg2
  have hs : 0 ≤ v 5 r 0 ∧ v 5 r 0 < 6 := hrg2.1
  have hL := uLtm_bd hfk hbk hs
  have hf2 := hfk
  unfold flok at hf2
  have a2 := (hr.2 k hk).1.2.2.1
  unfold sX5_timeOf_j83
  simp only [Int.toNat_natCast]
  refine zT_ix (by omega) (zT_eq (by omega) (fun c => ?_) (fun c => ?_))
  · have e : uDep v k + uB v k (v 5 r 0) = uLtm v k (v 5 r 0) := by
      unfold uDep uLtm
      rw [if_pos (show v 4 k 2 = 1 from by omega), if_neg cb, if_pos (show v 4 k 2 = 1 from by omega)]
    refine zT_bde (f_overOf hk h24 hr hfk hs) ?_
    rw [e]
    exact g_timeOf_j112 (k := k) hg hr7 hrg hfl (by omega) rfl
  · have e : v 4 k 1 + uB v k (v 5 r 0) = uLtm v k (v 5 r 0) := by
      unfold uLtm
      rw [if_neg cb, if_neg (show ¬ v 4 k 2 = 1 from by omega)]
    refine zT_bde (f_plannedOver hk h24 hr hs) ?_
    rw [e]
    exact g_timeOf_j112 (k := k) hg hr7 hrg hfl (by omega) rfl
theorem f_timeOf {k r : Nat} {x : Int} (hk : k < F) (hF : FOK v F) (hr : FREF h v F) (hg : RREF h v r) (hr7 : r < 7) (hrg : rgok v r) (hx : x = 0 ∨ x = 1) : sX5_timeOf (r : Int) (k : Int) x h = some (if x = 0 then uTl v r k else uTf v r k, h) := by
  obtain ⟨hfk, hbk⟩ := hF.2.2 k hk
  have h24 := hF.2.1
  have g0 := hg.1
  have hrg2 := hrg
  unfold rgok at hrg2
  have hs : 0 ≤ v 5 r 0 ∧ v 5 r 0 < 6 := hrg2.1
  have hf2 := hfk
  unfold flok at hf2
  obtain ⟨a0, a1, a2, a3, a4, a5, a6, a7, a8, a9⟩ := (hr.2 k hk).1
  refine zT_eqn ?_
  unfold sX5_timeOf sX5_timeOf_j52 sX5_timeOf_j56 sX5_timeOf_j82
  simp only [Int.toNat_natCast]
  refine zT_ix (by omega) (zT_let ?_)
  rw [g0]
  refine zT_bde (f_enters hk h24 hr hbk hs) ?_
  by_cases cb : uB v k (v 5 r 0) = -1
  · rw [if_pos cb]
    refine zT_eqT (by omega) (zT_some ⟨?_, rfl⟩)
    have e : uLtm v k (v 5 r 0) = -1 := by unfold uLtm; rw [if_pos cb]
    unfold uTl uTf
    rw [e]
    split
    · rw [if_neg (by omega)]
    · rw [if_neg (by omega)]
  · rw [if_neg cb]
    refine zT_eqF (by omega) ?_
    have hfx : uFix v k = if v 4 k 2 = 1 then 1 else if v 4 k 2 = 0 ∧ v 4 k 3 ≠ 0 then 1 else 0 := rfl
    have hls : uLst v k = if v 4 k 2 = 0 ∧ v 4 k 3 = 0 then 1 else 0 := rfl
    rcases hx with rfl | rfl
    · rw [if_pos rfl]
      refine zT_eqT (by omega) ?_
      have key : ∀ fl, (fl = 0 ∨ fl = 1) → fl = uLst v k → zT (sX5_timeOf_j83 (r : Int) (k : Int) (v 5 r 0) fl h) (fun z g' => z = uTl v r k ∧ g' = h) := by
        intro fl hfl e
        have := g_timeOf_j83 hk hF hr hg hr7 hrg hfl cb
        rw [e] at this ⊢
        exact this
      repeat' first
        | (with_reducible exact key 1 (Or.inr rfl) (by rw [hls, if_pos (by omega)]))
        | (with_reducible exact key 0 (Or.inl rfl) (by rw [hls, if_neg (by omega)]))
        | (with_reducible refine zT_ltT ?_ ?_; · omega)
        | (with_reducible refine zT_ltF ?_ ?_; · omega)
        | (with_reducible refine zT_lt ?_ (fun _ => ?_) (fun _ => ?_); · omega)
        | (with_reducible refine zT_leT ?_ ?_; · omega)
        | (with_reducible refine zT_leF ?_ ?_; · omega)
        | (with_reducible refine zT_le ?_ (fun _ => ?_) (fun _ => ?_); · omega)
        | (with_reducible refine zT_eqT ?_ ?_; · omega)
        | (with_reducible refine zT_eqF ?_ ?_; · omega)
        | (with_reducible refine zT_eq ?_ (fun _ => ?_) (fun _ => ?_); · omega)
        | (with_reducible refine zT_ix ?_ ?_; · omega)
        | (with_reducible refine zT_li ?_ ?_; · omega)
        | (with_reducible refine zT_bo ?_ ?_; · omega)
        | (with_reducible refine zT_ri ?_ ?_; · omega)
        | (with_reducible refine zT_dv ?_ ?_; · omega)
        | (with_reducible refine zT_let ?_)
    · rw [if_neg (by decide)]
      refine zT_eqF (by omega) ?_
      have key : ∀ fl, (fl = 0 ∨ fl = 1) → fl = uFix v k → zT (sX5_timeOf_j83 (r : Int) (k : Int) (v 5 r 0) fl h) (fun z g' => z = uTf v r k ∧ g' = h) := by
        intro fl hfl e
        have := g_timeOf_j83 hk hF hr hg hr7 hrg hfl cb
        rw [e] at this ⊢
        exact this
      repeat' first
        | (with_reducible exact key 1 (Or.inr rfl) (by rw [hfx, if_pos (by omega)]))
        | (with_reducible exact key 1 (Or.inr rfl) (by rw [hfx, if_neg (by omega), if_pos (by omega)]))
        | (with_reducible exact key 0 (Or.inl rfl) (by rw [hfx, if_neg (by omega), if_neg (by omega)]))
        | (with_reducible refine zT_ltT ?_ ?_; · omega)
        | (with_reducible refine zT_ltF ?_ ?_; · omega)
        | (with_reducible refine zT_lt ?_ (fun _ => ?_) (fun _ => ?_); · omega)
        | (with_reducible refine zT_leT ?_ ?_; · omega)
        | (with_reducible refine zT_leF ?_ ?_; · omega)
        | (with_reducible refine zT_le ?_ (fun _ => ?_) (fun _ => ?_); · omega)
        | (with_reducible refine zT_eqT ?_ ?_; · omega)
        | (with_reducible refine zT_eqF ?_ ?_; · omega)
        | (with_reducible refine zT_eq ?_ (fun _ => ?_) (fun _ => ?_); · omega)
        | (with_reducible refine zT_ix ?_ ?_; · omega)
        | (with_reducible refine zT_li ?_ ?_; · omega)
        | (with_reducible refine zT_bo ?_ ?_; · omega)
        | (with_reducible refine zT_ri ?_ ?_; · omega)
        | (with_reducible refine zT_dv ?_ ?_; · omega)
        | (with_reducible refine zT_let ?_)
end RF

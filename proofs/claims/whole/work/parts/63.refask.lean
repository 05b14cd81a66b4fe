/-! what the reference answers -/
/-- but the reference's own reckoning nothing has changed -/
def FB (h h' : zG) : Prop := ∀ k j p, ¬ ((k = 6 ∧ j = 0 ∧ (p = 0 ∨ 24 ≤ p)) ∨ k = 40 ∨ k = 41) → h' k j p = h k j p
theorem FB.rf {h : zG} : FB h h := fun _ _ _ _ => rfl
theorem FB.tr {h h1 h2 : zG} (a : FB h h1) (b : FB h1 h2) : FB h h2 := fun k j p c => (b k j p c).trans (a k j p c)
theorem FA.fb {h h' : zG} (a : FA h h') : FB h h' := fun k j p c => a k j p (by omega)
theorem FB.up {h : zG} {x : Int} : FB h (zup h 6 0 0 x) := fun a b c hc => by rw [zup_rd, if_neg (fun z => by omega)]
theorem FB.cm {h h' : zG} (a : FB h h') : CM h h' := fun k j p c => a k j p (by omega)
/-- what is answered: thrown as o tells it, and its number -/
def uAns (o : Nat × Int) (h : zG) (z : Int) (h' : zG) : Prop := h' 6 0 0 = (o.1 : Int) ∧ (o.1 = 0 → z = o.2) ∧ FB h h'
section RA
variable {h v : zG} {F R n : Nat}
theorem zT_holds {x : Int} {α : Type} {P : α → zG → Prop} {f : Int → zG → Option (α × zG)} (hx : zIn x) (k : zT (f (if x = 0 then 1 else 0) (zup h 6 0 0 x)) P) : zT (zbd (sX5_holds x h) f) P := zT_bde (f_holds hx) k
theorem u600 {x : Int} : zup h 6 0 0 x 6 0 0 = x := by simp [zup_rd]
/-- thrown, and nothing else -/
theorem zT_thr {c : Nat} {y z : Int} {o : Nat × Int} (ho : o = (c + 1, y)) : zT (some (z, zup h 6 0 0 ((c + 1 : Nat) : Int))) (uAns o h) := zT_some ⟨by rw [u600, ho], (fun q => by rw [ho] at q; cases q), FB.up⟩
theorem g_flightIs {x w : Int} (hF : FOK v F) (hr : FREF h v F) (hx : zIn x) (hw : zIn w) : zT (sX5_flightIs x w h) (uAns (if 0 ≤ x ∧ x < (F : Int) then (if 0 ≤ w ∧ w ≤ 7 then (0, uFis v x.toNat w) else (2, 0)) else (1, 0)) h) := by
  have h24 := hF.2.1
  unfold sX5_flightIs sX5_flightIs_j28
  refine zT_bde (f_isFlight hr.1 h24 hx) ?_
  by_cases c1 : 0 ≤ x ∧ x < (F : Int)
  · rw [if_pos c1, if_pos c1]
    refine zT_eqF (by omega) (zT_bde (f_isIn hw (by decide) (by decide)) ?_)
    by_cases c2 : 0 ≤ w ∧ w ≤ 7
    · rw [if_pos c2, if_pos c2]
      refine zT_eqF (by omega) (zT_holds (by decide) ?_)
      rw [if_pos rfl]
      refine zT_eqF (by omega) ?_
      obtain ⟨k, rfl⟩ : ∃ k : Nat, x = (k : Int) := ⟨x.toNat, by omega⟩
      have hk : k < F := by omega
      obtain ⟨hf, hb⟩ := hF.2.2 k hk
      have hr2 := hr.cm (CM.up6 (h := h) (p := 0) (x := 0) (by decide))
      obtain ⟨a0, a1, a2, a3, a4, a5, a6, a7, a8, a9⟩ := (hr2.2 k hk).1
      have hf2 := hf
      unfold flok at hf2
      simp only [Int.toNat_natCast]
      repeat' first
        | (refine zT_bde (f_departure hk h24 hr2 hf) ?_)
        | (with_reducible refine zT_ltT ?_ ?_; · omega)
        | (with_reducible refine zT_ltF ?_ ?_; · omega)
        | (with_reducible refine zT_lt ?_ (fun _ => ?_) (fun _ => ?_); · omega)
        | (with_reducible refine zT_leT ?_ ?_; · omega)
        | (with_reducible refine zT_leF ?_ ?_; · omega)
        | (with_reducible refine zT_le ?_ (fun _ => ?_) (fun _ => ?_); · omega)
        | (with_reducible refine zT_eqT ?_ ?_; · omega)
        | (with_reducible refine zT_eqF ?_ ?_; · omega)
        | (with_reducible refine zT_eq ?_ (fun _ => ?_) (fun _ => ?_); · omega)
        | (with_reducible refine zT_ix ?_ ?_; · omega)
        | (with_reducible refine zT_li ?_ ?_; · omega)
        | (with_reducible refine zT_bo ?_ ?_; · omega)
        | (with_reducible refine zT_ri ?_ ?_; · omega)
        | (with_reducible refine zT_dv ?_ ?_; · omega)
        | (with_reducible refine zT_let ?_)
      all_goals refine zT_some ⟨u600, fun _ => ?_, FB.up⟩
      all_goals unfold uFis
      · show _ = if w = 0 then _ else _
        rw [if_pos (by omega)]; exact a2
      · show _ = if w = 0 then _ else _
        rw [if_neg (by omega), if_pos (by omega)]; exact a1
      · show _ = if w = 0 then _ else _
        rw [if_neg (by omega), if_neg (by omega), if_pos (by omega)]; exact a4
      · show _ = if w = 0 then _ else _
        rw [if_neg (by omega), if_neg (by omega), if_neg (by omega), if_pos (by omega)]; exact a5
      · show _ = if w = 0 then _ else _
        rw [if_neg (by omega), if_neg (by omega), if_neg (by omega), if_neg (by omega), if_pos (by omega)]
      · show _ = if w = 0 then _ else _
        rw [if_neg (by omega), if_neg (by omega), if_neg (by omega), if_neg (by omega), if_neg (by omega), if_pos (by omega)]; exact a6
      · show _ = if w = 0 then _ else _
        rw [if_neg (by omega), if_neg (by omega), if_neg (by omega), if_neg (by omega), if_neg (by omega), if_neg (by omega), if_pos (by omega)]; exact a8
      · show _ = if w = 0 then _ else _
        rw [if_neg (by omega), if_neg (by omega), if_neg (by omega), if_neg (by omega), if_neg (by omega), if_neg (by omega), if_neg (by omega), if_pos (by omega)]
      · show _ = if w = 0 then _ else _
        rw [if_neg (by omega), if_neg (by omega), if_neg (by omega), if_neg (by omega), if_neg (by omega), if_neg (by omega), if_neg (by omega), if_neg (by omega)]
    · rw [if_neg c2, if_neg c2]
      refine zT_eqT (by omega) (zT_holds (by decide) (zT_eqT (by decide) ?_))
      exact zT_thr (c := 1) rfl
  · rw [if_neg c1, if_neg c1]
    refine zT_eqT (by omega) (zT_holds (by decide) (zT_eqT (by decide) ?_))
    exact zT_thr (c := 0) rfl
theorem g_over {x s : Int} (hF : FOK v F) (hr : FREF h v F) (hx : zIn x) (hs : zIn s) : zT (sX5_over x s h) (uAns (if 0 ≤ x ∧ x < (F : Int) then (if 0 ≤ s ∧ s < 6 then (0, uTov v x.toNat s) else (1, 0)) else (1, 0)) h) := by
  have h24 := hF.2.1
  unfold sX5_over sX5_over_j20 sX5_over_j21
  refine zT_bde (f_isFlight hr.1 h24 hx) ?_
  by_cases c1 : 0 ≤ x ∧ x < (F : Int)
  · rw [if_pos c1, if_pos c1]
    refine zT_eqF (by omega) (zT_bde (f_isSector hs) ?_)
    by_cases c2 : 0 ≤ s ∧ s < 6
    · rw [if_pos c2, if_pos c2]
      refine zT_eqF (by omega) (zT_holds (by decide) ?_)
      rw [if_pos rfl]
      refine zT_eqF (by omega) ?_
      obtain ⟨k, rfl⟩ : ∃ k : Nat, x = (k : Int) := ⟨x.toNat, by omega⟩
      have hk : k < F := by omega
      obtain ⟨hf, hb⟩ := hF.2.2 k hk
      have hr2 := hr.cm (CM.up6 (h := h) (p := 0) (x := 0) (by decide))
      rw [Int.toNat_natCast]
      refine zT_bde (f_enters hk h24 hr2 hb c2) ?_
      by_cases cb : uB v k s = -1
      · rw [if_pos cb]
        refine zT_eqT (by omega) (zT_some ⟨u600, fun _ => ?_, FB.up⟩)
        show _ = uTov v k s
        unfold uTov
        rw [if_pos cb]
      · rw [if_neg cb]
        refine zT_eqF (by omega) (zT_bde (f_overOf hk h24 hr2 hf c2) (zT_some ⟨u600, fun _ => ?_, FB.up⟩))
        show _ = uTov v k s
        unfold uTov
        rw [if_neg cb]
    · rw [if_neg c2, if_neg c2]
      refine zT_eqT (by omega) (zT_holds (by decide) (zT_eqT (by decide) ?_))
      exact zT_thr (c := 0) rfl
  · rw [if_neg c1, if_neg c1]
    refine zT_eqT (by omega) (zT_holds (by decide) (zT_eqT (by decide) ?_))
    exact zT_thr (c := 0) rfl
theorem g_load {s b w : Int} (hn : 24 < n) (hF : FOK v F) (hr : FREF h v F) (hs : zIn s) (hb : zIn b) (hw : zIn w) : zT (sX5_load n s b w h) (uAns (if 0 ≤ s ∧ s < 6 then (if 0 ≤ b ∧ b ≤ 2999 ∧ 1 ≤ w ∧ w ≤ 240 then (0, uLoad v F s b w) else (2, 0)) else (1, 0)) h) := by
  unfold sX5_load sX5_load_j38 sX5_load_j39
  refine zT_bde (f_isSector hs) ?_
  by_cases c1 : 0 ≤ s ∧ s < 6
  · rw [if_pos c1, if_pos c1]
    refine zT_eqF (by omega) (zT_bde (f_isIn hb (by decide) (by decide)) ?_)
    by_cases c2 : 0 ≤ b ∧ b ≤ 2999
    · rw [if_pos c2]
      refine zT_eqF (by omega) (zT_bde (f_isIn hw (by decide) (by decide)) ?_)
      by_cases c3 : 1 ≤ w ∧ w ≤ 240
      · rw [if_pos c3, if_pos (by omega)]
        refine zT_eqF (by omega) (zT_holds (by decide) ?_)
        rw [if_pos rfl]
        refine zT_eqF (by omega) ?_
        have hr2 := hr.cm (CM.up6 (h := h) (p := 0) (x := 0) (by decide))
        exact zT_bde (f_loadOf hn hF hr2 c1 (by omega) c3) (zT_some ⟨u600, fun _ => rfl, FB.up⟩)
      · rw [if_neg c3, if_neg (by omega)]
        refine zT_eqT (by omega) (zT_holds (by decide) (zT_eqT (by decide) ?_))
        exact zT_thr (c := 1) rfl
    · rw [if_neg c2, if_neg (by omega)]
      refine zT_eqT (by omega) (zT_holds (by decide) (zT_eqT (by decide) ?_))
      exact zT_thr (c := 1) rfl
  · rw [if_neg c1, if_neg c1]
    refine zT_eqT (by omega) (zT_holds (by decide) (zT_eqT (by decide) ?_))
    exact zT_thr (c := 0) rfl
theorem g_inside_run {s m : Int} (hF : FOK v F) (hr : FREF h v F) (hs : 0 ≤ s ∧ s < 6) (hm : 0 ≤ m ∧ m ≤ 2999) : ∀ (d k f : Nat), k + d = F → d < f →
    zT (sX5_inside_run n f 0 s m (uSum (fun k => uIsd v k s m) k) (k : Int) h) (fun z h' => z = uInside v F s m ∧ h' = h) := by
  obtain ⟨h1, h2, h3⟩ := hF
  have hr1 := hr.1
  intro d
  induction d with
  | zero =>
    intro k f hk hf
    obtain ⟨f, rfl⟩ : ∃ f', f = f' + 1 := ⟨f - 1, by omega⟩
    rw [qsX5_inside_run0]
    unfold sX5_inside_h41
    have hkF : k = F := by omega
    subst hkF
    exact zT_ltF (by omega) (zT_some ⟨rfl, rfl⟩)
  | succ d ih =>
    intro k f hk hf
    obtain ⟨f, rfl⟩ : ∃ f', f = f' + 1 := ⟨f - 1, by omega⟩
    have hkF : k < F := by omega
    obtain ⟨hfk, hbk⟩ := h3 k hkF
    have hT := uTov_bd hfk hbk hs
    have hD := uDep_bd hfk
    have hB := uB_bd hbk hs
    have hS := (hbk s hs.1 hs.2).2
    have hf2 := hfk
    unfold flok at hf2
    have a2 := (hr.2 k hkF).1.2.2.1
    have a31 := ((hr.2 k hkF).2 s hs.1 hs.2).2
    have := ih (k + 1) f (by omega) (by omega)
    have e : uSum (fun k => uIsd v k s m) (k + 1) = uSum (fun k => uIsd v k s m) k + uIsd v k s m := rfl
    rw [e] at this
    rw [qsX5_inside_run0]
    unfold sX5_inside_h41 sX5_inside_j73 sX5_inside_j123 sX5_inside_j124
    simp only [Int.toNat_natCast]
    refine zT_ltT (by omega) (zT_bde (f_enters hkF h2 hr hbk hs) ?_)
    by_cases cb : uB v k s = -1
    · rw [if_pos cb]
      have el : uLds v k s = 0 := by
        unfold uLds
        split
        · rfl
        · rfl
      have e0 : uIsd v k s m = 0 := by unfold uIsd; rw [if_pos el]
      rw [e0] at this
      refine zT_eqT (by omega) (zT_ix (by omega) (zT_eq (by omega) (fun c => ?_) (fun c => ?_)))
      · exact zT_let (zT_let this)
      · refine zT_bde (f_enters hkF h2 hr hbk hs) ?_
        rw [if_pos cb]
        exact zT_eqT (by omega) (zT_let (zT_let this))
    · rw [if_neg cb]
      have et : uTov v k s = uDep v k + uB v k s := by unfold uTov; rw [if_neg cb]
      refine zT_eqF (by omega) (zT_bde (f_overOf hkF h2 hr hfk hs) (zT_ix (by omega) (zT_eq (by omega) (fun c => ?_) (fun c => ?_))))
      · have el : uLds v k s = 0 := by unfold uLds; rw [if_pos (by omega)]
        have e0 : uIsd v k s m = 0 := by unfold uIsd; rw [if_pos el]
        rw [e0] at this
        exact zT_let (zT_let this)
      · have el : uLds v k s = 1 := uLds_one.mpr ⟨by omega, cb⟩
        have e0 : uIsd v k s m = if uTov v k s ≤ m ∧ m < uTov v k s + v 15 k s.toNat then 1 else 0 := by
          unfold uIsd
          rw [if_neg (by omega)]
        rw [e0] at this
        refine zT_bde (f_enters hkF h2 hr hbk hs) ?_
        rw [if_neg cb]
        refine zT_eqF (by omega) ?_
        repeat' first
          | (with_reducible refine zT_ltT ?_ ?_; · omega)
          | (with_reducible refine zT_ltF ?_ ?_; · omega)
          | (with_reducible refine zT_lt ?_ (fun _ => ?_) (fun _ => ?_); · omega)
          | (with_reducible refine zT_leT ?_ ?_; · omega)
          | (with_reducible refine zT_leF ?_ ?_; · omega)
          | (with_reducible refine zT_le ?_ (fun _ => ?_) (fun _ => ?_); · omega)
          | (with_reducible refine zT_eqT ?_ ?_; · omega)
          | (with_reducible refine zT_eqF ?_ ?_; · omega)
          | (with_reducible refine zT_eq ?_ (fun _ => ?_) (fun _ => ?_); · omega)
          | (with_reducible refine zT_ix ?_ ?_; · omega)
          | (with_reducible refine zT_li ?_ ?_; · omega)
          | (with_reducible refine zT_bo ?_ ?_; · omega)
          | (with_reducible refine zT_ri ?_ ?_; · omega)
          | (with_reducible refine zT_dv ?_ ?_; · omega)
          | (with_reducible refine zT_let ?_)
        · rw [if_neg (by omega)] at this; exact this
        · rw [if_pos (by omega)] at this; exact this
        · rw [if_neg (by omega)] at this; exact this
theorem g_inside {s m : Int} (hn : 24 < n) (hF : FOK v F) (hr : FREF h v F) (hs : zIn s) (hm : zIn m) : zT (sX5_inside n s m h) (uAns (if 0 ≤ s ∧ s < 6 then (if 0 ≤ m ∧ m ≤ 2999 then (0, uInside v F s m) else (2, 0)) else (1, 0)) h) := by
  have h24 := hF.2.1
  unfold sX5_inside sX5_inside_j28
  refine zT_bde (f_isSector hs) ?_
  by_cases c1 : 0 ≤ s ∧ s < 6
  · rw [if_pos c1, if_pos c1]
    refine zT_eqF (by omega) (zT_bde (f_isIn hm (by decide) (by decide)) ?_)
    by_cases c2 : 0 ≤ m ∧ m ≤ 2999
    · rw [if_pos c2, if_pos c2]
      refine zT_eqF (by omega) (zT_holds (by decide) ?_)
      rw [if_pos rfl]
      refine zT_eqF (by omega) ?_
      have hr2 := hr.cm (CM.up6 (h := h) (p := 0) (x := 0) (by decide))
      refine zT_mono (g_inside_run (n := n) hF hr2 c1 c2 F 0 n (by omega) (by omega)) ?_
      rintro z h' ⟨a1, rfl⟩
      exact ⟨u600, fun _ => a1, FB.up⟩
    · rw [if_neg c2, if_neg c2]
      refine zT_eqT (by omega) (zT_holds (by decide) (zT_eqT (by decide) ?_))
      exact zT_thr (c := 1) rfl
  · rw [if_neg c1, if_neg c1]
    refine zT_eqT (by omega) (zT_holds (by decide) (zT_eqT (by decide) ?_))
    exact zT_thr (c := 0) rfl
theorem g_peak_run {s w : Int} (hn : 24 < n) (hF : FOK v F) (hr : FREF h v F) (hs : 0 ≤ s ∧ s < 6) (hw : 1 ≤ w ∧ w ≤ 240) : ∀ (d k f : Nat), k + d = F → d < f →
    zT (sX5_peak_run n f 0 s w (uMx (uPkf v F s w) k) (k : Int) h) (fun z h' => z = uPeak v F s w ∧ h' = h) := by
  obtain ⟨h1, h2, h3⟩ := id hF
  have hr1 := hr.1
  intro d
  induction d with
  | zero =>
    intro k f hk hf
    obtain ⟨f, rfl⟩ : ∃ f', f = f' + 1 := ⟨f - 1, by omega⟩
    rw [qsX5_peak_run0]
    unfold sX5_peak_h41
    have hkF : k = F := by omega
    subst hkF
    exact zT_ltF (by omega) (zT_some ⟨rfl, rfl⟩)
  | succ d ih =>
    intro k f hk hf
    obtain ⟨f, rfl⟩ : ∃ f', f = f' + 1 := ⟨f - 1, by omega⟩
    have hkF : k < F := by omega
    obtain ⟨hfk, hbk⟩ := h3 k hkF
    have hT := uTov_bd hfk hbk hs
    have hld := uLoad_bd (g := v) (F := F) (s := s) (b := uTov v k s) (w := w)
    have hm0 := uMx_nn (f := uPkf v F s w) (m := k)
    have hm1 := uMx_le (f := uPkf v F s w) (m := k) (b := (F : Int)) (by omega) (fun j _ => by
      unfold uPkf
      split
      · exact (uLoad_bd).2
      · omega)
    have hf2 := hfk
    unfold flok at hf2
    have a2 := (hr.2 k hkF).1.2.2.1
    have := ih (k + 1) f (by omega) (by omega)
    have e : uMx (uPkf v F s w) (k + 1) = max (uMx (uPkf v F s w) k) (uPkf v F s w k) := rfl
    rw [e] at this
    rw [qsX5_peak_run0]
    unfold sX5_peak_h41 sX5_peak_j87 sX5_peak_j88 sX5_peak_j102
    simp only [Int.toNat_natCast]
    refine zT_ltT (by omega) (zT_ix (by omega) (zT_eq (by omega) (fun c => ?_) (fun c => ?_)))
    · have el : uLds v k s = 0 := by unfold uLds; rw [if_pos (by omega)]
      have e0 : uPkf v F s w k = 0 := by unfold uPkf; rw [if_neg (by omega)]
      rw [e0, show max (uMx (uPkf v F s w) k) 0 = uMx (uPkf v F s w) k from by omega] at this
      exact zT_leT (by omega) (zT_let this)
    · refine zT_bde (f_enters hkF h2 hr hbk hs) ?_
      by_cases cb : uB v k s = -1
      · rw [if_pos cb]
        have el : uLds v k s = 0 := by unfold uLds; rw [if_neg (by omega), if_pos cb]
        have e0 : uPkf v F s w k = 0 := by unfold uPkf; rw [if_neg (by omega)]
        rw [e0, show max (uMx (uPkf v F s w) k) 0 = uMx (uPkf v F s w) k from by omega] at this
        exact zT_eqT (by omega) (zT_leT (by omega) (zT_let this))
      · rw [if_neg cb]
        have el : uLds v k s = 1 := uLds_one.mpr ⟨by omega, cb⟩
        have et : uTov v k s = uDep v k + uB v k s := by unfold uTov; rw [if_neg cb]
        have e0 : uPkf v F s w k = uLoad v F s (uTov v k s) w := by unfold uPkf; rw [if_pos el]
        rw [e0] at this
        refine zT_eqF (by omega) (zT_bde (f_overOf hkF h2 hr hfk hs) ?_)
        rw [← et]
        refine zT_bde (f_loadOf hn hF hr hs (by omega) hw) ?_
        refine zT_le (by omega) (fun c2 => ?_) (fun c2 => ?_)
        · rw [show max (uMx (uPkf v F s w) k) (uLoad v F s (uTov v k s) w) = uMx (uPkf v F s w) k from by omega] at this
          exact zT_let this
        · rw [show max (uMx (uPkf v F s w) k) (uLoad v F s (uTov v k s) w) = uLoad v F s (uTov v k s) w from by omega] at this
          exact zT_let this
theorem g_peak {s w : Int} (hn : 24 < n) (hF : FOK v F) (hr : FREF h v F) (hs : zIn s) (hw : zIn w) : zT (sX5_peak n s w h) (uAns (if 0 ≤ s ∧ s < 6 then (if 1 ≤ w ∧ w ≤ 240 then (0, uPeak v F s w) else (2, 0)) else (1, 0)) h) := by
  have h24 := hF.2.1
  unfold sX5_peak sX5_peak_j28
  refine zT_bde (f_isSector hs) ?_
  by_cases c1 : 0 ≤ s ∧ s < 6
  · rw [if_pos c1, if_pos c1]
    refine zT_eqF (by omega) (zT_bde (f_isIn hw (by decide) (by decide)) ?_)
    by_cases c2 : 1 ≤ w ∧ w ≤ 240
    · rw [if_pos c2, if_pos c2]
      refine zT_eqF (by omega) (zT_holds (by decide) ?_)
      rw [if_pos rfl]
      refine zT_eqF (by omega) ?_
      have hr2 := hr.cm (CM.up6 (h := h) (p := 0) (x := 0) (by decide))
      refine zT_mono (g_peak_run (n := n) hn hF hr2 c1 c2 F 0 n (by omega) (by omega)) ?_
      rintro z h' ⟨a1, rfl⟩
      exact ⟨u600, fun _ => a1, FB.up⟩
    · rw [if_neg c2, if_neg c2]
      refine zT_eqT (by omega) (zT_holds (by decide) (zT_eqT (by decide) ?_))
      exact zT_thr (c := 1) rfl
  · rw [if_neg c1, if_neg c1]
    refine zT_eqT (by omega) (zT_holds (by decide) (zT_eqT (by decide) ?_))
    exact zT_thr (c := 0) rfl
theorem g_peakAnew {s w : Int} (hn : 24 < n) (hF : FOK v F) (hr : FREF h v F) (hs : zIn s) (hw : zIn w) : zT (sX5_peakAnew n s w h) (uAns (if 0 ≤ s ∧ s < 6 then (if 1 ≤ w ∧ w ≤ 240 then (0, uPeak v F s w) else (2, 0)) else (1, 0)) h) := by
  unfold sX5_peakAnew
  exact zT_bdm (g_peak hn hF hr hs hw) (fun z h' a => zT_some a)
/-- the regulations' rows -/
def GREF (h v : zG) (R : Nat) : Prop := h 6 0 14 = (R : Int) ∧ (∀ r, r < R → RREF h v r)
theorem GREF.cm {h' : zG} (a : GREF h v R) (c : CM h h') : GREF h' v R := ⟨by rw [c 6 0 14 (by omega)]; exact a.1, fun r hr => (a.2 r hr).cm c⟩
theorem g_regulationIs {x w : Int} (hn : 3000 < n) (hF : FOK v F) (hR : ROK v R) (hr : FREF h v F) (hg : GREF h v R) (hch : ∀ r, r < 6 → h 36 0 r = uSum (uChr v (r : Int)) F) (hx : zIn x) (hw : zIn w) : zT (sX5_regulationIs n x w h) (uAns (if 0 ≤ x ∧ x < (R : Int) then (if 0 ≤ w ∧ w ≤ 6 then (0, uRis v F x.toNat w) else (2, 0)) else (1, 0)) h) := by
  have hR6 := hR.2.1
  unfold sX5_regulationIs sX5_regulationIs_j28
  refine zT_bde (f_isRegulation hg.1 hR6 hx) ?_
  by_cases c1 : 0 ≤ x ∧ x < (R : Int)
  · rw [if_pos c1, if_pos c1]
    refine zT_eqF (by omega) (zT_bde (f_isIn hw (by decide) (by decide)) ?_)
    by_cases c2 : 0 ≤ w ∧ w ≤ 6
    · rw [if_pos c2, if_pos c2]
      refine zT_eqF (by omega) (zT_holds (by decide) ?_)
      rw [if_pos rfl]
      refine zT_eqF (by omega) ?_
      obtain ⟨r, rfl⟩ : ∃ r : Nat, x = (r : Int) := ⟨x.toNat, by omega⟩
      have hrR : r < R := by omega
      have hrg := hR.2.2 r hrR
      have hrg2 := hrg
      unfold rgok at hrg2
      have c6 := CM.up6 (h := h) (p := 0) (x := 0) (by decide)
      have hr2 := hr.cm c6
      have hg2 := (hg.2 r hrR).cm c6
      have k37 := hg2.2.2.2.2
      rw [Int.toNat_natCast]
      refine zT_le (by omega) (fun c => ?_) (fun c => ?_)
      · refine zT_ix (by omega) (zT_eq (by omega) (fun c4 => ?_) (fun c4 => ?_))
        · refine zT_bdm (g_dealt hn hF (by omega) hrg (by omega) hr2 hg2) ?_
          rintro - h' ⟨b1, b2, b3, b4, b5, b6, -⟩
          have e6 : h' 6 0 0 = 0 := by rw [b1 6 0 0 (by omega)]; exact u600
          have fb : FB h h' := FB.up.tr b1.fa.fb
          repeat' first
            | (with_reducible refine zT_ltT ?_ ?_; · omega)
            | (with_reducible refine zT_ltF ?_ ?_; · omega)
            | (with_reducible refine zT_lt ?_ (fun _ => ?_) (fun _ => ?_); · omega)
            | (with_reducible refine zT_leT ?_ ?_; · omega)
            | (with_reducible refine zT_leF ?_ ?_; · omega)
            | (with_reducible refine zT_le ?_ (fun _ => ?_) (fun _ => ?_); · omega)
            | (with_reducible refine zT_eqT ?_ ?_; · omega)
            | (with_reducible refine zT_eqF ?_ ?_; · omega)
            | (with_reducible refine zT_eq ?_ (fun _ => ?_) (fun _ => ?_); · omega)
            | (with_reducible refine zT_ix ?_ ?_; · omega)
            | (with_reducible refine zT_li ?_ ?_; · omega)
            | (with_reducible refine zT_bo ?_ ?_; · omega)
            | (with_reducible refine zT_ri ?_ ?_; · omega)
            | (with_reducible refine zT_dv ?_ ?_; · omega)
            | (with_reducible refine zT_let ?_)
          all_goals refine zT_some ⟨e6, fun _ => ?_, fb⟩
          all_goals unfold uRis
          · show _ = if w = 0 then _ else _
            rw [if_pos (by omega), b2]
          · show _ = if w = 0 then _ else _
            rw [if_neg (by omega), if_pos (by omega), b3]
          · show _ = if w = 0 then _ else _
            rw [if_neg (by omega), if_neg (by omega), if_pos (by omega), b4]
          · show _ = if w = 0 then _ else _
            rw [if_neg (by omega), if_neg (by omega), if_neg (by omega), if_pos (by omega), b5]
          · show _ = if w = 0 then _ else _
            rw [if_neg (by omega), if_neg (by omega), if_neg (by omega), if_neg (by omega), if_pos (by omega), b6]
        · refine zT_some ⟨u600, fun _ => ?_, FB.up⟩
          have z4 : ¬ v 5 r 4 = 0 := by omega
          have e1 : uLF v r = [] := by unfold uLF uFr; rw [if_neg z4]; rfl
          have e2 : uLL v r = [] := by unfold uLL uFr; rw [if_neg z4]; rfl
          have e3 : uSc v r = 0 := by unfold uSc; rw [if_neg z4]
          have e4 : uNo (uO1 v r) = 0 := by unfold uO1; rw [e1]; rfl
          have e5 : uNo (uO2 v r) = 0 := by unfold uO2; rw [e2]; rfl
          show (0 : Int) = uRis v F r w
          unfold uRis
          rw [e1, e2, e3, e4, e5]
          simp
          omega
      · repeat' first
          | (with_reducible refine zT_ltT ?_ ?_; · omega)
          | (with_reducible refine zT_ltF ?_ ?_; · omega)
          | (with_reducible refine zT_lt ?_ (fun _ => ?_) (fun _ => ?_); · omega)
          | (with_reducible refine zT_leT ?_ ?_; · omega)
          | (with_reducible refine zT_leF ?_ ?_; · omega)
          | (with_reducible refine zT_le ?_ (fun _ => ?_) (fun _ => ?_); · omega)
          | (with_reducible refine zT_eqT ?_ ?_; · omega)
          | (with_reducible refine zT_eqF ?_ ?_; · omega)
          | (with_reducible refine zT_eq ?_ (fun _ => ?_) (fun _ => ?_); · omega)
          | (with_reducible refine zT_ix ?_ ?_; · omega)
          | (with_reducible refine zT_li ?_ ?_; · omega)
          | (with_reducible refine zT_bo ?_ ?_; · omega)
          | (with_reducible refine zT_ri ?_ ?_; · omega)
          | (with_reducible refine zT_dv ?_ ?_; · omega)
          | (with_reducible refine zT_let ?_)
        · refine zT_some ⟨u600, fun _ => ?_, FB.up⟩
          show _ = uRis v F r w
          unfold uRis
          rw [if_neg (by omega), if_neg (by omega), if_neg (by omega), if_neg (by omega), if_neg (by omega), if_pos (by omega)]
          exact hg2.2.2.2.1
        · refine zT_some ⟨u600, fun _ => ?_, FB.up⟩
          show _ = uRis v F r w
          unfold uRis
          rw [if_neg (by omega), if_neg (by omega), if_neg (by omega), if_neg (by omega), if_neg (by omega), if_neg (by omega), c6 36 0 r (by omega)]
          exact hch r (by omega)
    · rw [if_neg c2, if_neg c2]
      refine zT_eqT (by omega) (zT_holds (by decide) (zT_eqT (by decide) ?_))
      exact zT_thr (c := 1) rfl
  · rw [if_neg c1, if_neg c1]
    refine zT_eqT (by omega) (zT_holds (by decide) (zT_eqT (by decide) ?_))
    exact zT_thr (c := 0) rfl
theorem g_slot {x j : Int} (hn : 3000 < n) (hF : FOK v F) (hR : ROK v R) (hr : FREF h v F) (hg : GREF h v R) (hx : zIn x) (hj : zIn j) : zT (sX5_slot n x j h) (uAns (if 0 ≤ x ∧ x < (R : Int) ∧ 0 ≤ j then (0, uSlo v x.toNat j) else (1, 0)) h) := by
  have hR6 := hR.2.1
  unfold sX5_slot sX5_slot_j17 sX5_slot_j18
  refine zT_bde (f_isRegulation hg.1 hR6 hx) ?_
  by_cases c1 : 0 ≤ x ∧ x < (R : Int)
  · rw [if_pos c1]
    refine zT_eqF (by omega) (zT_lt (by omega) (fun c2 => ?_) (fun c2 => ?_))
    · rw [if_neg (by omega)]
      refine zT_holds (by decide) (zT_eqT (by decide) ?_)
      exact zT_thr (c := 0) rfl
    · rw [if_pos (by omega)]
      refine zT_holds (by decide) ?_
      rw [if_pos rfl]
      refine zT_eqF (by omega) ?_
      obtain ⟨r, rfl⟩ : ∃ r : Nat, x = (r : Int) := ⟨x.toNat, by omega⟩
      have hrR : r < R := by omega
      have hrg := hR.2.2 r hrR
      have hsl := uSc_le hrg
      have hrg2 := hrg
      unfold rgok at hrg2
      have c6 := CM.up6 (h := h) (p := 0) (x := 0) (by decide)
      have hr2 := hr.cm c6
      have hg2 := (hg.2 r hrR).cm c6
      have k37 := hg2.2.2.2.2
      rw [Int.toNat_natCast]
      refine zT_ix (by omega) (zT_eq (by omega) (fun c4 => ?_) (fun c4 => ?_))
      · refine zT_bdm (g_dealt hn hF (by omega) hrg (by omega) hr2 hg2) ?_
        rintro - h' ⟨b1, b2, b3, b4, b5, b6, -⟩
        have e6 : h' 6 0 0 = 0 := by rw [b1 6 0 0 (by omega)]; exact u600
        have fb : FB h h' := FB.up.tr b1.fa.fb
        refine zT_lt (by omega) (fun c => ?_) (fun c => ?_)
        · have hp := uSc_pos hrg (by omega)
          refine zT_bde (f_begin (hg2.cm b1.cm) (by omega) hrg hp.1 (by omega)) (zT_some ⟨e6, fun _ => ?_, fb⟩)
          show _ = uSlo v r j
          unfold uSlo
          rw [if_pos (by omega)]
        · refine zT_some ⟨e6, fun _ => ?_, fb⟩
          show _ = uSlo v r j
          unfold uSlo
          rw [if_neg (by omega)]
      · refine zT_some ⟨u600, fun _ => ?_, FB.up⟩
        have e3 : uSc v r = 0 := by unfold uSc; rw [if_neg (by omega)]
        show _ = uSlo v r j
        unfold uSlo
        rw [if_neg (by omega)]
  · rw [if_neg c1, if_neg (by omega)]
    refine zT_eqT (by omega) (zT_holds (by decide) (zT_eqT (by decide) ?_))
    exact zT_thr (c := 0) rfl
theorem g_penalty {x y : Int} (hn : 3000 < n) (hF : FOK v F) (hR : ROK v R) (hr : FREF h v F) (hg : GREF h v R) (hx : zIn x) (hy : zIn y) : zT (sX5_penalty n x y h) (uAns (if (0 ≤ x ∧ x < (F : Int)) ∧ (0 ≤ y ∧ y < (R : Int)) then (0, uPen v y.toNat x) else (1, 0)) h) := by
  have hR6 := hR.2.1
  have h24 := hF.2.1
  unfold sX5_penalty sX5_penalty_j21 sX5_penalty_j22
  refine zT_bde (f_isFlight hr.1 h24 hx) ?_
  by_cases c1 : 0 ≤ x ∧ x < (F : Int)
  · rw [if_pos c1]
    refine zT_eqF (by omega) (zT_bde (f_isRegulation hg.1 hR6 hy) ?_)
    by_cases c2 : 0 ≤ y ∧ y < (R : Int)
    · rw [if_pos c2, if_pos ⟨c1, c2⟩]
      refine zT_eqF (by omega) (zT_holds (by decide) ?_)
      rw [if_pos rfl]
      refine zT_eqF (by omega) ?_
      obtain ⟨r, rfl⟩ : ∃ r : Nat, y = (r : Int) := ⟨y.toNat, by omega⟩
      obtain ⟨k, rfl⟩ : ∃ k : Nat, x = (k : Int) := ⟨x.toNat, by omega⟩
      have hrR : r < R := by omega
      have hrg := hR.2.2 r hrR
      have hrg2 := hrg
      unfold rgok at hrg2
      have c6 := CM.up6 (h := h) (p := 0) (x := 0) (by decide)
      have hr2 := hr.cm c6
      have hg2 := (hg.2 r hrR).cm c6
      have k37 := hg2.2.2.2.2
      rw [Int.toNat_natCast]
      refine zT_ix (by omega) (zT_eq (by omega) (fun c4 => ?_) (fun c4 => ?_))
      · refine zT_bdm (g_dealt hn hF (by omega) hrg (by omega) hr2 hg2) ?_
        rintro - h' ⟨b1, b2, b3, b4, b5, b6, b7⟩
        have e6 : h' 6 0 0 = 0 := by rw [b1 6 0 0 (by omega)]; exact u600
        have fb : FB h h' := FB.up.tr b1.fa.fb
        refine zT_ix (by omega) (zT_some ⟨e6, fun _ => ?_, fb⟩)
        rw [show (24 * (r : Int) + (k : Int)).toNat = 24 * r + k from by omega]
        exact b7 k (by omega)
      · refine zT_some ⟨u600, fun _ => ?_, FB.up⟩
        exact (uPen_ended (by omega)).symm
    · rw [if_neg c2, if_neg (fun z => c2 z.2)]
      refine zT_eqT (by omega) (zT_holds (by decide) (zT_eqT (by decide) ?_))
      exact zT_thr (c := 0) rfl
  · rw [if_neg c1, if_neg (fun z => c1 z.1)]
    refine zT_eqT (by omega) (zT_holds (by decide) (zT_eqT (by decide) ?_))
    exact zT_thr (c := 0) rfl
theorem g_due {x : Int} (hn : 3000 < n) (hF : FOK v F) (hR : ROK v R) (hr : FREF h v F) (hg : GREF h v R) (hx : zIn x) : zT (sX5_due n x h) (uAns (if 0 ≤ x ∧ x < (F : Int) then (0, uDue v x R) else (1, 0)) h) := by
  have hR6 := hR.2.1
  have h24 := hF.2.1
  unfold sX5_due sX5_due_j14
  refine zT_bde (f_isFlight hr.1 h24 hx) ?_
  by_cases c1 : 0 ≤ x ∧ x < (F : Int)
  · rw [if_pos c1, if_pos c1]
    refine zT_eqF (by omega) (zT_holds (by decide) ?_)
    rw [if_pos rfl]
    refine zT_eqF (by omega) ?_
    obtain ⟨k, rfl⟩ : ∃ k : Nat, x = (k : Int) := ⟨x.toNat, by omega⟩
    have c6 := CM.up6 (h := h) (p := 0) (x := 0) (by decide)
    have hr2 := hr.cm c6
    have hg2 := hg.cm c6
    rw [hg2.1]
    refine zT_bdm (g_dealAll hn hF (by omega) hR.2.2 hr2 hg2.2) ?_
    rintro - h' ⟨b1, b2⟩
    have hg3 := hg2.cm b1.cm
    rw [hg3.1]
    refine zT_bde (f_dueOf (by omega) hF (by omega) (by omega) hR.2.2 (fun r hr => (hg3.2 r hr).2.2.2.2) b2) (zT_some ⟨?_, fun _ => rfl, FB.up.tr b1.fb⟩)
    rw [b1 6 0 0 (by omega)]
    exact u600
  · rw [if_neg c1, if_neg c1]
    refine zT_eqT (by omega) (zT_holds (by decide) (zT_eqT (by decide) ?_))
    exact zT_thr (c := 0) rfl
theorem g_dueAnew {x : Int} (hn : 3000 < n) (hF : FOK v F) (hR : ROK v R) (hr : FREF h v F) (hg : GREF h v R) (hx : zIn x) : zT (sX5_dueAnew n x h) (uAns (if 0 ≤ x ∧ x < (F : Int) then (0, uDue v x R) else (1, 0)) h) := by
  unfold sX5_dueAnew
  exact zT_bdm (g_due hn hF hR hr hg hx) (fun z h' a => zT_some a)
theorem g_allDue (hn : 3000 < n) (hF : FOK v F) (hR : ROK v R) (hr : FREF h v F) (hg : GREF h v R) : zT (sX5_allDue n h) (fun z h' => z = uAll v F R ∧ FB h h') := by
  have hR6 := hR.2.1
  unfold sX5_allDue
  refine zT_st ?_
  have c6 := CM.up6 (h := h) (p := 0) (x := 0) (by decide)
  have hr2 := hr.cm c6
  have hg2 := hg.cm c6
  rw [hg2.1]
  refine zT_bdm (g_sumBy hn hF (by omega) hR.2.2 hr2 hg2.2) ?_
  rintro z h' ⟨b1, b2⟩
  exact zT_some ⟨b1, FB.up.tr b2.fb⟩
/-- but the reference's own reckoning and regulation R nothing has changed -/
def FBw (R : Nat) (h h' : zG) : Prop := ∀ k j p, ¬ ((k = 6 ∧ j = 0 ∧ (p = 0 ∨ 24 ≤ p)) ∨ k = 40 ∨ k = 41 ∨ ((32 ≤ k ∧ k ≤ 35) ∧ j = 0 ∧ p = R)) → h' k j p = h k j p
theorem f_isPart {a b c : Int} (ha : zIn a) (hb : zIn b) (hc : zIn c) : sX5_isPart a b c h = some (if (0 ≤ a ∧ a ≤ 1439) ∧ (a + 1 ≤ b ∧ b ≤ 1440) ∧ (0 ≤ c ∧ c ≤ 60) then 1 else 0, h) := by
  refine zT_eqn ?_
  unfold sX5_isPart
  refine zT_bde (f_isIn ha (by decide) (by decide)) ?_
  by_cases c1 : 0 ≤ a ∧ a ≤ 1439
  · rw [if_pos c1]
    refine zT_eqF (by omega) (zT_bde (f_isIn hb (by constructor <;> omega) (by decide)) ?_)
    by_cases c2 : a + 1 ≤ b ∧ b ≤ 1440
    · rw [if_pos c2]
      refine zT_eqF (by omega) (zT_bde (f_isIn hc (by decide) (by decide)) ?_)
      by_cases c3 : 0 ≤ c ∧ c ≤ 60
      · rw [if_pos c3, if_pos ⟨c1, c2, c3⟩]
        exact zT_eqF (by omega) (zT_bo (by omega) (zT_some ⟨rfl, rfl⟩))
      · rw [if_neg c3, if_neg (fun z => c3 z.2.2)]
        exact zT_eqT (by omega) (zT_bo (by omega) (zT_some ⟨rfl, rfl⟩))
    · rw [if_neg c2, if_neg (fun z => c2 z.2.1)]
      exact zT_eqT (by omega) (zT_bo (by omega) (zT_some ⟨rfl, rfl⟩))
  · rw [if_neg c1, if_neg (fun z => c1 z.1)]
    exact zT_eqT (by omega) (zT_bo (by omega) (zT_some ⟨rfl, rfl⟩))
theorem f_lays {r : Nat} {s a b c : Int} (hr : r < 7) : sX5_lays (r : Int) s a b c h = some (0, zup (zup (zup (zup h 32 0 r s) 33 0 r a) 34 0 r b) 35 0 r c) := by
  refine zT_eqn ?_
  unfold sX5_lays
  simp only [Int.toNat_natCast]
  exact zT_ix (by omega) (zT_st (zT_ix (by omega) (zT_st (zT_ix (by omega) (zT_st (zT_ix (by omega) (zT_st (zT_some ⟨rfl, rfl⟩))))))))
theorem g_would {s a b c : Int} (hn : 3000 < n) (hF : FOK v F) (hR : ROK v R) (hr : FREF h v F) (hg : GREF h v R) (h37 : h 37 0 R = 0) (hs : zIn s) (ha : zIn a) (hb : zIn b) (hc : zIn c) :
    zT (sX5_would n s a b c h) (fun z h' => h' 6 0 0 = (((if 0 ≤ s ∧ s < 6 then (if (0 ≤ a ∧ a ≤ 1439) ∧ (a + 1 ≤ b ∧ b ≤ 1440) ∧ (0 ≤ c ∧ c ≤ 60) then (0, uAll (zRg v R s a b c) F (R + 1)) else (2, 0)) else (1, 0) : Nat × Int).1 : Nat) : Int) ∧ ((if 0 ≤ s ∧ s < 6 then (if (0 ≤ a ∧ a ≤ 1439) ∧ (a + 1 ≤ b ∧ b ≤ 1440) ∧ (0 ≤ c ∧ c ≤ 60) then (0, uAll (zRg v R s a b c) F (R + 1)) else (2, 0)) else (1, 0) : Nat × Int).1 = 0 → z = (if 0 ≤ s ∧ s < 6 then (if (0 ≤ a ∧ a ≤ 1439) ∧ (a + 1 ≤ b ∧ b ≤ 1440) ∧ (0 ≤ c ∧ c ≤ 60) then (0, uAll (zRg v R s a b c) F (R + 1)) else (2, 0)) else (1, 0) : Nat × Int).2) ∧ FBw R h h') := by
  have hR6 := hR.2.1
  unfold sX5_would sX5_would_j27
  refine zT_bde (f_isSector hs) ?_
  by_cases c1 : 0 ≤ s ∧ s < 6
  · simp only [if_pos c1]
    refine zT_eqF (by omega) (zT_bde (f_isPart ha hb hc) ?_)
    by_cases c2 : (0 ≤ a ∧ a ≤ 1439) ∧ (a + 1 ≤ b ∧ b ≤ 1440) ∧ (0 ≤ c ∧ c ≤ 60)
    · simp only [if_pos c2]
      refine zT_eqF (by omega) (zT_holds (by decide) ?_)
      rw [if_pos rfl]
      refine zT_eqF (by omega) ?_
      have c6 := CM.up6 (h := h) (p := 0) (x := 0) (by decide)
      have hg2 := hg.cm c6
      rw [hg2.1]
      refine zT_bde (f_lays (by omega)) ?_
      generalize hh2 : zup (zup (zup (zup (zup h 6 0 0 0) 32 0 R s) 33 0 R a) 34 0 R b) 35 0 R c = h2
      have e2 : ∀ k j p, ¬ ((k = 6 ∧ j = 0 ∧ p = 0) ∨ ((32 ≤ k ∧ k ≤ 35) ∧ j = 0 ∧ p = R)) → h2 k j p = h k j p := by
        intro k j p q
        rw [← hh2, zup_rd, if_neg (by omega), zup_rd, if_neg (by omega), zup_rd, if_neg (by omega), zup_rd, if_neg (by omega), zup_rd, if_neg (by omega)]
      have hF2 : FOK (zRg v R s a b c) F := hF.cf zRg_cf
      have hr2 : FREF h2 (zRg v R s a b c) F := by
        refine ⟨by rw [e2 6 0 1 (by omega)]; exact hr.1, fun k hk => ?_⟩
        have q := hr.2 k hk
        simp only [zRg_o (show ¬ (4 = 5 ∧ k = R) from by omega), zRg_o (show ¬ (14 = 5 ∧ k = R) from by omega), zRg_o (show ¬ (15 = 5 ∧ k = R) from by omega)]
        rw [e2 20 0 k (by omega), e2 21 0 k (by omega), e2 22 0 k (by omega), e2 23 0 k (by omega), e2 24 0 k (by omega), e2 25 0 k (by omega), e2 26 0 k (by omega), e2 27 0 k (by omega), e2 28 0 k (by omega), e2 29 0 k (by omega)]
        refine ⟨q.1, fun s' h1' h2' => ?_⟩
        rw [e2 30 0 _ (by omega), e2 31 0 _ (by omega)]
        exact q.2 s' h1' h2'
      have hrg2 : ∀ r, r < R + 1 → rgok (zRg v R s a b c) r := by
        intro r hr'
        by_cases cr : r = R
        · rw [cr]
          exact zRg_ok c1 c2
        · have := hR.2.2 r (by omega)
          unfold rgok at this ⊢
          simp only [zRg_o (show ¬ (5 = 5 ∧ r = R) from by omega)]
          exact this
      have hg3 : ∀ r, r < R + 1 → RREF h2 (zRg v R s a b c) r := by
        intro r hr'
        by_cases cr : r = R
        · subst cr
          unfold RREF
          rw [e2 37 0 r (by omega), h37, ← hh2]
          unfold zRg
          simp [zup_rd]
        · have := hg.2 r (by omega)
          unfold RREF at this ⊢
          rw [e2 32 0 r (by omega), e2 33 0 r (by omega), e2 34 0 r (by omega), e2 35 0 r (by omega), e2 37 0 r (by omega)]
          simp only [zRg_o (show ¬ (5 = 5 ∧ r = R) from by omega)]
          exact this
      rw [e2 6 0 14 (by omega), hg.1]
      have e3 : (R : Int) + 1 = ((R + 1 : Nat) : Int) := by omega
      rw [e3]
      refine zT_bdm (g_sumBy (m := R + 1) hn hF2 (by omega) hrg2 hr2 hg3) ?_
      rintro z h' ⟨b1, b2⟩
      refine zT_some ⟨?_, fun _ => b1, fun k j p q => ?_⟩
      · rw [b2 6 0 0 (by omega), ← hh2]
        simp [zup_rd]
      · rw [b2 k j p (by omega), e2 k j p (by omega)]
    · simp only [if_neg c2]
      refine zT_eqT (by omega) (zT_holds (by decide) (zT_eqT (by decide) (zT_some ⟨u600, (fun q => by cases q), fun k j p q => FB.up k j p (by omega)⟩)))
  · simp only [if_neg c1]
    refine zT_eqT (by omega) (zT_holds (by decide) (zT_eqT (by decide) (zT_some ⟨u600, (fun q => by cases q), fun k j p q => FB.up k j p (by omega)⟩)))
theorem g_companyIs_run {c w : Int} (hF : FOK v F) (hr : FREF h v F) (hc : 0 ≤ c ∧ c < 4) (hw : 0 ≤ w ∧ w ≤ 2) (hbl : h 38 0 c.toNat = uSum (uCoi v c 0) F) (hou : h 39 0 c.toNat = uSum (uCoi v c 1) F) : ∀ (d k f : Nat), k + d = F → d < f →
    zT (sX5_companyIs_run n f 0 c w (uSum (uCoi v c 2) k) (k : Int) h) (fun z h' => z = uSum (uCoi v c w) F ∧ h' = h) := by
  obtain ⟨h1, h2, h3⟩ := hF
  have hr1 := hr.1
  intro d
  induction d with
  | zero =>
    intro k f hk hf
    obtain ⟨f, rfl⟩ : ∃ f', f = f' + 1 := ⟨f - 1, by omega⟩
    rw [qsX5_companyIs_run0]
    unfold sX5_companyIs_h41
    have hkF : k = F := by omega
    subst hkF
    refine zT_ltF (by omega) ?_
    repeat' first
      | (with_reducible refine zT_ltT ?_ ?_; · omega)
      | (with_reducible refine zT_ltF ?_ ?_; · omega)
      | (with_reducible refine zT_lt ?_ (fun _ => ?_) (fun _ => ?_); · omega)
      | (with_reducible refine zT_leT ?_ ?_; · omega)
      | (with_reducible refine zT_leF ?_ ?_; · omega)
      | (with_reducible refine zT_le ?_ (fun _ => ?_) (fun _ => ?_); · omega)
      | (with_reducible refine zT_eqT ?_ ?_; · omega)
      | (with_reducible refine zT_eqF ?_ ?_; · omega)
      | (with_reducible refine zT_eq ?_ (fun _ => ?_) (fun _ => ?_); · omega)
      | (with_reducible refine zT_ix ?_ ?_; · omega)
      | (with_reducible refine zT_li ?_ ?_; · omega)
      | (with_reducible refine zT_bo ?_ ?_; · omega)
      | (with_reducible refine zT_ri ?_ ?_; · omega)
      | (with_reducible refine zT_dv ?_ ?_; · omega)
      | (with_reducible refine zT_let ?_)
    · rename_i c0
      exact zT_some ⟨by rw [hbl, c0], rfl⟩
    · rename_i c0 c1
      exact zT_some ⟨by rw [hou, c1], rfl⟩
    · exact zT_some ⟨by rw [show w = 2 from by omega], rfl⟩
  | succ d ih =>
    intro k f hk hf
    obtain ⟨f, rfl⟩ : ∃ f', f = f' + 1 := ⟨f - 1, by omega⟩
    have hkF : k < F := by omega
    obtain ⟨hfk, hbk⟩ := h3 k hkF
    have hf2 := hfk
    unfold flok at hf2
    obtain ⟨a0, -, a2, -⟩ := (hr.2 k hkF).1
    have := ih (k + 1) f (by omega) (by omega)
    have e : uSum (uCoi v c 2) (k + 1) = uSum (uCoi v c 2) k + uCoi v c 2 k := rfl
    have e2 : uCoi v c 2 k = if v 4 k 0 = c then (if v 4 k 2 = 1 then 1 else 0) else 0 := rfl
    rw [e, e2] at this
    rw [qsX5_companyIs_run0]
    unfold sX5_companyIs_h41 sX5_companyIs_j77 sX5_companyIs_j78
    simp only [Int.toNat_natCast]
    refine zT_ltT (by omega) (zT_ix (by omega) ?_)
    repeat' first
      | (with_reducible refine zT_ltT ?_ ?_; · omega)
      | (with_reducible refine zT_ltF ?_ ?_; · omega)
      | (with_reducible refine zT_lt ?_ (fun _ => ?_) (fun _ => ?_); · omega)
      | (with_reducible refine zT_leT ?_ ?_; · omega)
      | (with_reducible refine zT_leF ?_ ?_; · omega)
      | (with_reducible refine zT_le ?_ (fun _ => ?_) (fun _ => ?_); · omega)
      | (with_reducible refine zT_eqT ?_ ?_; · omega)
      | (with_reducible refine zT_eqF ?_ ?_; · omega)
      | (with_reducible refine zT_eq ?_ (fun _ => ?_) (fun _ => ?_); · omega)
      | (with_reducible refine zT_ix ?_ ?_; · omega)
      | (with_reducible refine zT_li ?_ ?_; · omega)
      | (with_reducible refine zT_bo ?_ ?_; · omega)
      | (with_reducible refine zT_ri ?_ ?_; · omega)
      | (with_reducible refine zT_dv ?_ ?_; · omega)
      | (with_reducible refine zT_let ?_)
    · rw [if_pos (by omega), if_pos (by omega)] at this; exact this
    · rw [if_pos (by omega), if_neg (by omega)] at this; exact this
    · rw [if_neg (by omega)] at this; exact this
theorem g_companyIs {c w : Int} (hn : 24 < n) (hF : FOK v F) (hr : FREF h v F) (hco : ∀ c, c < 4 → h 38 0 c = uSum (uCoi v (c : Int) 0) F ∧ h 39 0 c = uSum (uCoi v (c : Int) 1) F) (hc : zIn c) (hw : zIn w) : zT (sX5_companyIs n c w h) (uAns (if 0 ≤ c ∧ c < 4 then (if 0 ≤ w ∧ w ≤ 2 then (0, uSum (uCoi v c w) F) else (2, 0)) else (1, 0)) h) := by
  have h24 := hF.2.1
  unfold sX5_companyIs sX5_companyIs_j28
  refine zT_bde (f_isIn hc (by decide) (by decide)) ?_
  by_cases c1 : 0 ≤ c ∧ c < 4
  · rw [if_pos (show 0 ≤ c ∧ c ≤ 3 from by omega), if_pos c1]
    refine zT_eqF (by omega) (zT_bde (f_isIn hw (by decide) (by decide)) ?_)
    by_cases c2 : 0 ≤ w ∧ w ≤ 2
    · rw [if_pos c2, if_pos c2]
      refine zT_eqF (by omega) (zT_holds (by decide) ?_)
      rw [if_pos rfl]
      refine zT_eqF (by omega) ?_
      have c6 := CM.up6 (h := h) (p := 0) (x := 0) (by decide)
      have hr2 := hr.cm c6
      have q := hco c.toNat (by omega)
      rw [show ((c.toNat : Nat) : Int) = c from by omega] at q
      refine zT_mono (g_companyIs_run (n := n) hF hr2 c1 c2 (by rw [c6 38 0 _ (by omega)]; exact q.1) (by rw [c6 39 0 _ (by omega)]; exact q.2) F 0 n (by omega) (by omega)) ?_
      rintro z h' ⟨a1, rfl⟩
      exact ⟨u600, fun _ => a1, FB.up⟩
    · rw [if_neg c2, if_neg c2]
      refine zT_eqT (by omega) (zT_holds (by decide) (zT_eqT (by decide) ?_))
      exact zT_thr (c := 1) rfl
  · rw [if_neg (show ¬ (0 ≤ c ∧ c ≤ 3) from by omega), if_neg c1]
    refine zT_eqT (by omega) (zT_holds (by decide) (zT_eqT (by decide) ?_))
    exact zT_thr (c := 0) rfl
end RA

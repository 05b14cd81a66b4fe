/-! deals -/
section DE
variable {g h v : zG} {a1 a2 a3 a4 : Int} {F R n k : Nat}
theorem uPn_tg {en bg : Nat → Int} {S : Nat} {to x : Int} : ∀ {l : List Int} {T : Nat → Bool}, (∀ y ∈ l, y / 24 < to) → (∀ j, j < S → bg j < to) → uPn en bg S to T l x (-1) = -1 ∨ ∃ y ∈ l, y % 24 = x ∧ y / 24 + uPn en bg S to T l x (-1) ≤ to := by
  intro l
  induction l with
  | nil => intro T _ _; exact Or.inl rfl
  | cons a l ih =>
    intro T h hb
    unfold uPn
    split
    · rename_i c
      refine Or.inr ⟨a, List.mem_cons_self, c, ?_⟩
      have h1 := h a List.mem_cons_self
      cases hc : uTk en T (a / 24) S 0 with
      | none =>
        show a / 24 + (to - a / 24) ≤ to
        omega
      | some j =>
        have h4 := hb j (by have := (uTk_some hc).2.1; omega)
        show a / 24 + (max (a / 24) (bg j) - a / 24) ≤ to
        omega
    · rcases ih (fun y hy => h y (List.mem_cons_of_mem _ hy)) hb with z | ⟨y, z1, z2⟩
      · exact Or.inl z
      · exact Or.inr ⟨y, List.mem_cons_of_mem _ z1, z2⟩
/-- a penalty comes of a time over the sector -/
theorem uPen_time {r : Nat} (hF : FOK g F) (hr : rgok g r) (hk : k < F) (hp : 0 ≤ uPen g r (k : Int)) (hst : g 4 k 2 = 0) : uB g k (g 5 r 0) ≠ -1 ∧ g 4 k 1 + uB g k (g 5 r 0) + uPen g r (k : Int) ≤ 1440 := by
  have hfr := uFr_le (r := r) hF
  have hr2 := hr
  unfold rgok at hr2
  rcases uPn_tg (en := uEnR g r) (bg := uBgR g r) (S := uSc g r) (to := g 5 r 2) (x := (k : Int)) (l := uLL g r) (T := uT1 g r) (fun y hy => (uLL_time hF hr y hy).2) (fun j hj => uSc_bg hr hj) with z | ⟨y, y1, y2, y3⟩
  · have : uPen g r (k : Int) = -1 := z
    omega
  · obtain ⟨j, j1, j2, j3, j4, j5⟩ := (uKs_mem hfr.1).mp y1
    have hjk : j = k := by omega
    subst hjk
    have e : uTl g r j = if uLst g j = 1 ∧ g 5 r 1 ≤ uLtm g j (g 5 r 0) ∧ uLtm g j (g 5 r 0) < g 5 r 2 then uLtm g j (g 5 r 0) else -1 := rfl
    have hl : uTl g r j = uLtm g j (g 5 r 0) ∧ 0 ≤ uLtm g j (g 5 r 0) := by
      split at e
      · omega
      · omega
    have hb : uB g j (g 5 r 0) ≠ -1 := by
      intro hb
      have : uLtm g j (g 5 r 0) = -1 := by unfold uLtm; rw [if_pos hb]
      omega
    have hm : uLtm g j (g 5 r 0) = g 4 j 1 + uB g j (g 5 r 0) := by
      unfold uLtm
      rw [if_neg hb, if_neg (by omega)]
    have y3 : y / 24 + uPen g r (j : Int) ≤ g 5 r 2 := y3
    exact ⟨hb, by omega⟩
/-- one flight dealt, in the reference's rows -/
theorem g_deals {w : Int} (hn : 24 < n) (hF : FOK v F) (hR : ROK v R) (hk : k < F) (hs : sok v R k) (hl : uLst v k = 1) (hw : w = 0 ∨ w = 1) (h14 : h 6 0 14 = (R : Int)) (h37 : ∀ r, r < R → h 37 0 r = v 5 r 4) (hp : PREF h v R) (b1 : h 21 0 k = v 4 k 1) (b4 : h 24 0 k = v 4 k 4) (b5 : h 25 0 k = v 4 k 5) :
    sX5_deals n (k : Int) w h = some (0, zup (zup h 24 0 k (uNs v w R k)) 25 0 k (uNr v w R k)) := by
  have h24 := hF.2.1
  have hR6 := hR.2.1
  have hf := (hF.2.2 k hk).1
  have hd := uDue_bd (k := (k : Int)) hF (m := R) hR.2.2
  have hu := uRul_bd (g := v) (k := (k : Int)) (m := R)
  have hrd := uRul_due (v := v) (k := (k : Int)) (m := R)
  unfold flok at hf
  refine zT_eqn ?_
  have hj95 : ∀ (x3 x5 t2 : Int), -1 ≤ x3 ∧ x3 ≤ 6 → (x5 = 0 ∨ x5 = 1) → t2 = uNs v w R k → (x5 = 0 → x3 = uNr v w R k) → (x5 = 1 → v 4 k 5 = uNr v w R k) → zT (sX5_deals_j95 n (k : Int) x3 x5 (k : Int) t2 h) (fun z g' => z = 0 ∧ g' = zup (zup h 24 0 k (uNs v w R k)) 25 0 k (uNr v w R k)) := by
    intro x3 x5 t2 q0 q1 q2 q3 q4
    unfold sX5_deals_j95 sX5_deals_j116
    simp only [Int.toNat_natCast]
    refine zT_ix (by omega) (zT_st (zT_eq (by omega) (fun c => ?_) (fun c => ?_)))
    · refine zT_ix (by omega) (zT_st (zT_some ⟨rfl, ?_⟩))
      rw [q2, q3 c]
    · refine zT_ix (by omega) (zT_ix (by omega) (zT_st (zT_some ⟨rfl, ?_⟩)))
      have : zup h 24 0 k t2 25 0 k = uNr v w R k := by
        simp [zup_rd]
        rw [b5]
        exact q4 (by omega)
      rw [this, q2]
  have hj72 : ∀ (x3 x4 t0 : Int), -1 ≤ x3 ∧ x3 ≤ 6 → (t0 = 0 ∨ t0 = 1) → (t0 = 0 → x4 = uNs v w R k ∧ x3 = uNr v w R k) → (t0 = 1 → v 4 k 4 = uNs v w R k ∧ v 4 k 5 = uNr v w R k) → zT (sX5_deals_j72 n (k : Int) x3 x4 t0 h) (fun z g' => z = 0 ∧ g' = zup (zup h 24 0 k (uNs v w R k)) 25 0 k (uNr v w R k)) := by
    intro x3 x4 t0 q0 q1 q2 q3
    unfold sX5_deals_j72
    simp only [Int.toNat_natCast]
    refine zT_eq (by omega) (fun c => ?_) (fun c => ?_)
    · exact hj95 x3 t0 x4 q0 q1 (q2 c).1 (fun _ => (q2 c).2) (fun z => by omega)
    · exact zT_ix (by omega) (hj95 x3 t0 _ q0 q1 (by rw [b4]; exact (q3 (by omega)).1) (fun z => absurd z c) (fun z => (q3 z).2))
  have es : uNs v w R k = if uDue v (k : Int) R = 0 then -1 else if w ≠ 0 ∨ v 4 k 4 = -1 ∨ v 4 k 1 + uDue v (k : Int) R ≤ v 4 k 4 then v 4 k 1 + uDue v (k : Int) R else v 4 k 4 := by
    unfold uNs
    rw [if_pos hl]
  have er : uNr v w R k = if uDue v (k : Int) R = 0 then -1 else if w ≠ 0 ∨ v 4 k 4 = -1 ∨ v 4 k 1 + uDue v (k : Int) R ≤ v 4 k 4 then uRul v (k : Int) R else v 4 k 5 := by
    unfold uNr
    rw [if_pos hl]
  have hby := f_dueBy (n := n) (h := h) (m := R) (k := k) hn hF (by omega) (by omega) hR.2.2 h37 hp
  have hof := f_dueOf (n := n) (h := h) (m := R) (k := k) hn hF (by omega) (by omega) hR.2.2 h37 hp
  unfold sX5_deals
  rw [h14]
  refine zT_bde hby ?_
  unfold sX5_deals_j35 sX5_deals_j71
  simp only [Int.toNat_natCast]
  refine zT_eq (by omega) (fun c => ?_) (fun c => ?_)
  · have hd0 : uDue v (k : Int) R = 0 := by
      rcases hrd with z | ⟨r, z1, z2, z3, z4⟩ <;> omega
    rw [if_pos hd0] at es er
    refine zT_eqT (by omega) (hj72 _ _ 0 (by omega) (Or.inl rfl) (fun _ => ⟨es.symm, by rw [er]; exact c⟩) (fun z => by omega))
  · have hd0 : uDue v (k : Int) R ≠ 0 := by
      rcases hrd with z | ⟨r, z1, z2, z3, z4⟩ <;> omega
    rw [if_neg hd0] at es er
    clear hrd
    refine zT_ix (by omega) (zT_let ?_)
    rw [h14]
    refine zT_bde hof ?_
    rw [b1]
    refine zT_eqF (by omega) ?_
    have hgive : (w ≠ 0 ∨ v 4 k 4 = -1 ∨ v 4 k 1 + uDue v (k : Int) R ≤ v 4 k 4) → zT (sX5_deals_j72 n (k : Int) (uRul v (k : Int) R) (v 4 k 1 + uDue v (k : Int) R) 0 h) (fun z g' => z = 0 ∧ g' = zup (zup h 24 0 k (uNs v w R k)) 25 0 k (uNr v w R k)) := by
      intro q
      rw [if_pos q] at es er
      exact hj72 _ _ 0 (by omega) (Or.inl rfl) (fun _ => ⟨es.symm, er.symm⟩) (fun z => by omega)
    refine zT_eq (by omega) (fun c1 => ?_) (fun c1 => ?_)
    · refine zT_ix (by omega) (zT_eq (by omega) (fun c2 => ?_) (fun c2 => ?_))
      · exact hgive (by omega)
      · refine zT_ix (by omega) (zT_le (by omega) (fun c3 => ?_) (fun c3 => ?_))
        · exact hgive (by omega)
        · rw [if_neg (by omega)] at es er
          exact hj72 _ _ 1 (by omega) (Or.inr rfl) (fun z => by omega) (fun _ => ⟨es.symm, er.symm⟩)
    · exact hgive (Or.inl c1)
theorem g_deal_run {w : Int} {h0 : zG} (hn : 24 < n) (hI : INV v F R) (hw : w = 0 ∨ w = 1) (hr : FREF h0 v F) (hg : GREF h0 v R) (hp : PREF h0 v R) : ∀ (d k f : Nat) (h : zG), k + d = F → d < f → (∀ a b c, ¬ ((a = 24 ∨ a = 25) ∧ b = 0 ∧ c < k) → h a b c = h0 a b c) → (∀ j, j < k → h 24 0 j = uNs v w R j ∧ h 25 0 j = uNr v w R j) →
    zT (sX5_deal_run n f 0 w (uSum (uNd v w R) k) (k : Int) h) (fun z h' => z = uSum (uNd v w R) F ∧ (∀ a b c, ¬ ((a = 24 ∨ a = 25) ∧ b = 0 ∧ c < F) → h' a b c = h0 a b c) ∧ (∀ j, j < F → h' 24 0 j = uNs v w R j ∧ h' 25 0 j = uNr v w R j)) := by
  obtain ⟨hF, hR, hS⟩ := hI
  have h24 := hF.2.1
  intro d
  induction d with
  | zero =>
    intro k f h hk hf hfr hv
    obtain ⟨f, rfl⟩ : ∃ f', f = f' + 1 := ⟨f - 1, by omega⟩
    have e : h 6 0 1 = (F : Int) := by rw [hfr 6 0 1 (by omega)]; exact hr.1
    rw [qsX5_deal_run0]
    unfold sX5_deal_h17
    have hkF : k = F := by omega
    subst hkF
    exact zT_ltF (by omega) (zT_some ⟨rfl, hfr, hv⟩)
  | succ d ih =>
    intro k f h hk hf hfr hv
    obtain ⟨f, rfl⟩ : ∃ f', f = f' + 1 := ⟨f - 1, by omega⟩
    have hkF : k < F := by omega
    have e : h 6 0 1 = (F : Int) := by rw [hfr 6 0 1 (by omega)]; exact hr.1
    obtain ⟨b0, b1, b2, b3, b4, b5, b6, b7, b8, b9⟩ := (hr.2 k hkF).1
    have c21 : h 21 0 k = v 4 k 1 := by rw [hfr 21 0 k (by omega)]; exact b1
    have c22 : h 22 0 k = v 4 k 2 := by rw [hfr 22 0 k (by omega)]; exact b2
    have c24 : h 24 0 k = v 4 k 4 := by rw [hfr 24 0 k (by omega)]; exact b4
    have c25 : h 25 0 k = v 4 k 5 := by rw [hfr 25 0 k (by omega)]; exact b5
    have c29 : h 29 0 k = v 4 k 3 := by rw [hfr 29 0 k (by omega)]; exact b9
    have hfk := (hF.2.2 k hkF).1
    have hsk := hS k hkF
    have hf2 := hfk
    unfold flok at hf2
    have hnb := uNs_bd (w := w) hF hR hfk
    have es : uSum (uNd v w R) (k + 1) = uSum (uNd v w R) k + uNd v w R k := rfl
    have ih2 := fun h' => ih (k + 1) f h' (by omega) (by omega)
    rw [es] at ih2
    have hskip : uLst v k ≠ 1 → uNd v w R k = 0 → zT (sX5_deal_run n f 0 w (uSum (uNd v w R) k) ((k : Int) + 1) h) (fun z h' => z = uSum (uNd v w R) F ∧ (∀ a b c, ¬ ((a = 24 ∨ a = 25) ∧ b = 0 ∧ c < F) → h' a b c = h0 a b c) ∧ (∀ j, j < F → h' 24 0 j = uNs v w R j ∧ h' 25 0 j = uNr v w R j)) := by
      intro hnl h0d
      have := ih2 h (fun a b c q => hfr a b c (by omega)) (fun j hj => by
        by_cases cj : j = k
        · rw [cj]
          unfold uNs uNr
          rw [if_neg hnl, if_neg hnl]
          exact ⟨c24, c25⟩
        · exact hv j (by omega))
      rw [h0d, Int.add_zero] at this
      exact this
    rw [qsX5_deal_run0]
    unfold sX5_deal_h17 sX5_deal_j77
    simp only [Int.toNat_natCast]
    refine zT_ltT (by omega) (zT_ix (by omega) (zT_eq (by omega) (fun c => ?_) (fun c => ?_)))
    · refine zT_ix (by omega) (zT_eq (by omega) (fun c2 => ?_) (fun c2 => ?_))
      · have hl : uLst v k = 1 := by unfold uLst; rw [if_pos (by omega)]
        have hpk : PREF h v R := fun r q1 q2 i hi => by rw [hfr 41 0 _ (by omega)]; exact hp r q1 q2 i hi
        refine zT_bde (g_deals (w := w) hn hF hR hkF hsk hl hw (by rw [hfr 6 0 14 (by omega)]; exact hg.1) (fun r q => by rw [hfr 37 0 r (by omega)]; exact (hg.2 r q).2.2.2.2) hpk c21 c24 c25) ?_
        generalize hh2 : zup (zup h 24 0 k (uNs v w R k)) 25 0 k (uNr v w R k) = h2
        have o2 : ∀ a b c, ¬ ((a = 24 ∨ a = 25) ∧ b = 0 ∧ c = k) → h2 a b c = h a b c := fun a b c q => by rw [← hh2, zup_rd, if_neg (by omega), zup_rd, if_neg (by omega)]
        have v24 : h2 24 0 k = uNs v w R k := by rw [← hh2]; simp [zup_rd]
        have v25 : h2 25 0 k = uNr v w R k := by rw [← hh2]; simp [zup_rd]
        have v21 : h2 21 0 k = v 4 k 1 := by rw [o2 21 0 k (by omega)]; exact c21
        have ed : uNd v w R k = if uNs v w R k = -1 then 0 else uNs v w R k - v 4 k 1 := by unfold uNd; rw [if_pos (by omega)]
        have hnext := ih2 h2 (fun a b c q => by rw [o2 a b c (by omega)]; exact hfr a b c (by omega)) (fun j hj => by
          by_cases cj : j = k
          · rw [cj]
            exact ⟨v24, v25⟩
          · rw [o2 24 0 j (by omega), o2 25 0 j (by omega)]
            exact hv j (by omega))
        rw [ed] at hnext
        refine zT_ix (by omega) ?_
        rw [v24, v21]
        refine zT_eq (by omega) (fun c3 => ?_) (fun c3 => ?_)
        · rw [if_pos c3] at hnext
          exact zT_let (zT_let hnext)
        · rw [if_neg c3] at hnext
          exact zT_ix (by omega) (zT_ix (by omega) (zT_let (zT_let hnext)))
      · refine zT_let (hskip (by unfold uLst; rw [if_neg (by omega)]; decide) ?_)
        have hnl : uLst v k ≠ 1 := by unfold uLst; rw [if_neg (by omega)]; decide
        unfold uNd uNs
        rw [if_neg hnl, if_pos (by omega), if_pos (hsk.2 (by omega) (by omega))]
    · refine zT_let (hskip (by unfold uLst; rw [if_neg (by omega)]; decide) ?_)
      unfold uNd
      rw [if_neg (by omega)]
theorem case19w {w : Int} (hw : w = 0 ∨ w = 1) (hr : REL g) : ∃ g', zbd (sX4_deal 4000 w g) (fun r1 g => zbd (sX5_deal 4000 w g) (fun r2 g => zeq r1 r2 (some g) (none))) = some g' ∧ REL g' := by
  obtain ⟨F, R, hI, hRf⟩ := hr
  obtain ⟨i1, i2, i3⟩ := id hI
  have h24 := i1.2.1
  have hR6 := i2.2.1
  obtain ⟨r1, g1, e1, rfl, p1, p2⟩ := t_deal (n := 4000) (w := w) (by decide) i1 i2 hw
  have hf : REF g1 g F R := hRf.rows (fun a b c q => p1 a b c (by omega))
  obtain ⟨f1, f2, f3, f4, f5, f6⟩ := hf
  have href : zT (sX5_deal 4000 w g1) (fun z g2 => z = uSum (uNd g w R) F ∧ (∀ a b c, ¬ (((a = 24 ∨ a = 25) ∧ b = 0 ∧ c < F) ∨ (a = 6 ∧ b = 0 ∧ (c = 0 ∨ 24 ≤ c)) ∨ a = 40 ∨ a = 41) → g2 a b c = g1 a b c) ∧ (∀ j, j < F → g2 24 0 j = uNs g w R j ∧ g2 25 0 j = uNr g w R j)) := by
    unfold sX5_deal
    refine zT_st ?_
    have c6 := CM.up6 (h := g1) (p := 0) (x := 0) (by decide)
    have hr2 := f1.cm c6
    have hg2 := f2.cm c6
    rw [hg2.1]
    refine zT_bdm (g_dealAll (n := 4000) (by decide) i1 (by omega) i2.2.2 hr2 hg2.2) ?_
    rintro - h' ⟨b1, b2⟩
    refine zT_mono (g_deal_run (n := 4000) (w := w) (h0 := h') (by decide) hI hw (hr2.cm b1.cm) (hg2.cm b1.cm) b2 F 0 4000 h' (by omega) (by omega) (fun _ _ _ _ => rfl) (fun j hj => by omega)) ?_
    rintro z g2 ⟨w1, w2, w3⟩
    refine ⟨w1, fun a b c q => ?_, w3⟩
    rw [w2 a b c (by omega), b1 a b c (by omega), zup_rd, if_neg (by omega)]
  obtain ⟨r2, g2, e2, rfl, q1, q2⟩ := href
  have hin : zIn (uSum (uNd g w R) F) := by
    have := uSum_abs (f := uNd g w R) (m := 5000) (n := F) (fun k hk => by
      have hfk := (i1.2.2 k hk).1
      have hnb := uNs_bd (w := w) i1 i2 hfk
      unfold flok at hfk
      unfold uNd
      split
      · split <;> omega
      · omega)
    constructor <;> omega
  refine ⟨g2, ?_, F, R, ?_⟩
  · rw [e1, zbd_e, e2, zbd_e]
    unfold zeq
    rw [if_pos ⟨hin, hin⟩, if_pos rfl]
  · have cl : ∀ a b c, (a = 1 ∨ (a = 4 ∧ c < 10 ∧ c ≠ 4 ∧ c ≠ 5) ∨ a = 5 ∨ a = 14 ∨ a = 15) → g2 a b c = g a b c := fun a b c q => by rw [q1 a b c (by omega), p1 a b c (by omega)]
    have ro : ∀ a c, (20 ≤ a ∧ a ≤ 39) → a ≠ 24 → a ≠ 25 → g2 a 0 c = g1 a 0 c := fun a c z1 z2 z3 => q1 a 0 c (by omega)
    have n4 : ∀ k, k < F → g2 4 k 4 = uNs g w R k := fun k hk => by rw [q1 4 k 4 (by omega)]; exact (p2 k hk).1
    have n5 : ∀ k, k < F → g2 4 k 5 = uNr g w R k := fun k hk => by rw [q1 4 k 5 (by omega)]; exact (p2 k hk).2
    have hst : ∀ k, k < F → g 4 k 2 = 1 → uNs g w R k = g 4 k 4 ∧ uNr g w R k = g 4 k 5 := by
      intro k hk h1
      have hnl : uLst g k ≠ 1 := by unfold uLst; rw [if_neg (by omega)]; decide
      unfold uNs uNr
      rw [if_neg hnl, if_neg hnl]
      exact ⟨rfl, rfl⟩
    have ech : ∀ r k, k < F → uChr g2 r k = uChr g r k := by
      intro r k hk
      by_cases c : g 4 k 2 = 1
      · obtain ⟨z1, z2⟩ := hst k hk c
        unfold uChr uChg uDly
        rw [n4 k hk, n5 k hk, cl 4 k 1 (by omega), cl 4 k 2 (by omega), z1, z2]
      · rw [uCh_wait c, uCh_wait (by rw [cl 4 k 2 (by omega)]; exact c)]
    have eco : ∀ c x k, (x = 0 ∨ x = 1) → k < F → uCoi g2 c x k = uCoi g c x k := by
      intro c x k hx hk
      by_cases cc : g 4 k 2 = 1
      · obtain ⟨z1, z2⟩ := hst k hk cc
        unfold uCoi uLed uChg uOut uDly
        rw [n4 k hk, cl 4 k 0 (by omega), cl 4 k 1 (by omega), cl 4 k 2 (by omega), cl 4 k 6 (by omega), z1]
      · rw [uCo_wait cc hx, uCo_wait (by rw [cl 4 k 2 (by omega)]; exact cc) hx]
    -- what the new slot times are
    have hnew : ∀ k, k < F → (-1 ≤ uNs g w R k ∧ uNs g w R k ≤ 1440) ∧ (-1 ≤ uNr g w R k ∧ uNr g w R k ≤ 5) ∧ (((uNs g w R k = -1 ∧ uNr g w R k = -1) ∨ (g 4 k 1 ≤ uNs g w R k ∧ 0 ≤ uNr g w R k ∧ uNr g w R k < (R : Int) ∧ uB g k (g 5 (uNr g w R k).toNat 0) ≠ -1 ∧ uNs g w R k + uB g k (g 5 (uNr g w R k).toNat 0) ≤ 1440)) ∧ (g 4 k 2 = 0 → g 4 k 3 ≠ 0 → uNs g w R k = -1)) := by
      intro k hk
      obtain ⟨hfk, hbk⟩ := i1.2.2 k hk
      have hsk := i3 k hk
      have hf2 := hfk
      unfold flok at hf2
      have hkeep : uNs g w R k = g 4 k 4 → uNr g w R k = g 4 k 5 → (-1 ≤ uNs g w R k ∧ uNs g w R k ≤ 1440) ∧ (-1 ≤ uNr g w R k ∧ uNr g w R k ≤ 5) ∧ (((uNs g w R k = -1 ∧ uNr g w R k = -1) ∨ (g 4 k 1 ≤ uNs g w R k ∧ 0 ≤ uNr g w R k ∧ uNr g w R k < (R : Int) ∧ uB g k (g 5 (uNr g w R k).toNat 0) ≠ -1 ∧ uNs g w R k + uB g k (g 5 (uNr g w R k).toNat 0) ≤ 1440)) ∧ (g 4 k 2 = 0 → g 4 k 3 ≠ 0 → uNs g w R k = -1)) := by
        intro z1 z2
        rw [z1, z2]
        exact ⟨by omega, by omega, hsk.1, hsk.2⟩
      by_cases hl : uLst g k = 1
      · have hwait : g 4 k 2 = 0 ∧ g 4 k 3 = 0 := by
          unfold uLst at hl
          split at hl
          · rename_i c; exact c
          · cases hl
        have es : uNs g w R k = if uDue g (k : Int) R = 0 then -1 else if w ≠ 0 ∨ g 4 k 4 = -1 ∨ g 4 k 1 + uDue g (k : Int) R ≤ g 4 k 4 then g 4 k 1 + uDue g (k : Int) R else g 4 k 4 := by
          unfold uNs
          rw [if_pos hl]
        have er : uNr g w R k = if uDue g (k : Int) R = 0 then -1 else if w ≠ 0 ∨ g 4 k 4 = -1 ∨ g 4 k 1 + uDue g (k : Int) R ≤ g 4 k 4 then uRul g (k : Int) R else g 4 k 5 := by
          unfold uNr
          rw [if_pos hl]
        by_cases c1 : uDue g (k : Int) R = 0
        · rw [if_pos c1] at es er
          rw [es, er]
          exact ⟨by omega, by omega, Or.inl ⟨rfl, rfl⟩, fun _ _ => rfl⟩
        · rw [if_neg c1] at es er
          by_cases c2 : w ≠ 0 ∨ g 4 k 4 = -1 ∨ g 4 k 1 + uDue g (k : Int) R ≤ g 4 k 4
          · rw [if_pos c2] at es er
            rcases uRul_due (v := g) (k := (k : Int)) (m := R) with ⟨z1, z2⟩ | ⟨r, z1, z2, z3, z4⟩
            · exact absurd z2 c1
            · obtain ⟨t1, t2⟩ := uPen_time i1 (i2.2.2 r z2) hk (by omega) hwait.1
              have hrs := i2.2.2 r z2
              unfold rgok at hrs
              have hB := uB_bd hbk (s := g 5 r 0) (by omega)
              rw [es, er, z1, Int.toNat_natCast, z3]
              exact ⟨by omega, by omega, Or.inr ⟨by omega, by omega, by omega, t1, by omega⟩, fun _ q => absurd hwait.2 q⟩
          · rw [if_neg c2] at es er
            exact hkeep es er
      · refine hkeep ?_ ?_
        · unfold uNs
          rw [if_neg hl]
        · unfold uNr
          rw [if_neg hl]
    have cf1 : ∀ k p, p < 10 → p ≠ 4 → p ≠ 5 → g2 4 k p = g 4 k p := fun k p z1 z2 z3 => cl 4 k p (by omega)
    refine ⟨⟨⟨by rw [cl 1 0 2 (by omega)]; exact i1.1, h24, fun k hk => ?_⟩, ⟨by rw [cl 1 1 2 (by omega)]; exact i2.1, hR6, fun r hr => ?_⟩, fun k hk => ?_⟩, ⟨⟨by rw [q1 6 0 1 (by omega)]; exact f1.1, fun k hk => ?_⟩, ⟨by rw [q1 6 0 14 (by omega)]; exact f2.1, fun r hr => ?_⟩, fun k z1 z2 => ?_, fun r z1 z2 => ?_, fun r hr => ?_, fun c hc => ?_⟩⟩
    · obtain ⟨z1, z2⟩ := i1.2.2 k hk
      obtain ⟨y1, y2, -⟩ := hnew k hk
      refine ⟨?_, fun s q3 q4 => ?_⟩
      · unfold flok at z1 ⊢
        rw [cf1 k 0 (by decide) (by decide) (by decide), cf1 k 1 (by decide) (by decide) (by decide), cf1 k 2 (by decide) (by decide) (by decide), cf1 k 3 (by decide) (by decide) (by decide), n4 k hk, n5 k hk, cf1 k 6 (by decide) (by decide) (by decide), cf1 k 7 (by decide) (by decide) (by decide), cf1 k 8 (by decide) (by decide) (by decide), cf1 k 9 (by decide) (by decide) (by decide)]
        exact ⟨z1.1, z1.2.1, z1.2.2.1, z1.2.2.2.1, y1, y2, z1.2.2.2.2.2.2⟩
      · rw [cl 14 k s.toNat (by omega), cl 15 k s.toNat (by omega)]
        exact z2 s q3 q4
    · have z := i2.2.2 r hr
      unfold rgok at z ⊢
      rw [cl 5 r 0 (by omega), cl 5 r 1 (by omega), cl 5 r 2 (by omega), cl 5 r 3 (by omega), cl 5 r 4 (by omega)]
      exact z
    · obtain ⟨-, -, y3⟩ := hnew k hk
      unfold sok uB at *
      rw [n4 k hk, n5 k hk, cf1 k 1 (by decide) (by decide) (by decide), cf1 k 2 (by decide) (by decide) (by decide), cf1 k 3 (by decide) (by decide) (by decide), cl 5 _ 0 (by omega), cl 14 k _ (by omega)]
      exact y3
    · obtain ⟨⟨d0, d1, d2, d3, d4, d5, d6, d7, d8, d9⟩, e⟩ := f1.2 k hk
      rw [(q2 k hk).1, (q2 k hk).2, n4 k hk, n5 k hk, cf1 k 0 (by decide) (by decide) (by decide), cf1 k 1 (by decide) (by decide) (by decide), cf1 k 2 (by decide) (by decide) (by decide), cf1 k 3 (by decide) (by decide) (by decide), cf1 k 6 (by decide) (by decide) (by decide), cf1 k 7 (by decide) (by decide) (by decide), cf1 k 8 (by decide) (by decide) (by decide), cf1 k 9 (by decide) (by decide) (by decide)]
      rw [ro 20 k (by decide) (by decide) (by decide), ro 21 k (by decide) (by decide) (by decide), ro 22 k (by decide) (by decide) (by decide), ro 23 k (by decide) (by decide) (by decide), ro 26 k (by decide) (by decide) (by decide), ro 27 k (by decide) (by decide) (by decide), ro 28 k (by decide) (by decide) (by decide), ro 29 k (by decide) (by decide) (by decide)]
      refine ⟨⟨d0, d1, d2, d3, rfl, rfl, d6, d7, d8, d9⟩, fun s z1 z2 => ?_⟩
      rw [cl 14 k s.toNat (by omega), cl 15 k s.toNat (by omega), ro 30 _ (by decide) (by decide) (by decide), ro 31 _ (by decide) (by decide) (by decide)]
      exact e s z1 z2
    · have z := f2.2 r hr
      unfold RREF at z ⊢
      rw [cl 5 r 0 (by omega), cl 5 r 1 (by omega), cl 5 r 2 (by omega), cl 5 r 3 (by omega), cl 5 r 4 (by omega), ro 32 r (by decide) (by decide) (by decide), ro 33 r (by decide) (by decide) (by decide), ro 34 r (by decide) (by decide) (by decide), ro 35 r (by decide) (by decide) (by decide), ro 37 r (by decide) (by decide) (by decide)]
      exact z
    · have z := f3 k z1 z2
      rw [ro 22 k (by decide) (by decide) (by decide), ro 26 k (by decide) (by decide) (by decide), ro 28 k (by decide) (by decide) (by decide), ro 29 k (by decide) (by decide) (by decide)]
      refine ⟨z.1, fun s z3 z4 => ?_⟩
      rw [ro 31 _ (by decide) (by decide) (by decide)]
      exact z.2 s z3 z4
    · rw [ro 37 r (by decide) (by decide) (by decide)]
      exact f4 r z1 z2
    · rw [ro 36 r (by decide) (by decide) (by decide), f5 r hr]
      exact uSum_congr (fun k hk => (ech _ k hk).symm)
    · obtain ⟨z1, z2⟩ := f6 c hc
      rw [ro 38 c (by decide) (by decide) (by decide), ro 39 c (by decide) (by decide) (by decide), z1, z2]
      exact ⟨uSum_congr (fun k hk => (eco _ _ k (Or.inl rfl) hk).symm), uSum_congr (fun k hk => (eco _ _ k (Or.inr rfl) hk).symm)⟩
theorem case19 (hr : REL g) (h1 : zIn a1) : ∃ g', sLc19 4000 a1 a2 a3 a4 g = some g' ∧ REL g' := by
  unfold sLc19
  by_cases c : a1 = 0
  · have e0 : ∀ {α : Type} (x y : Option α), zeq a1 0 x y = x := fun x y => by unfold zeq; rw [if_pos ⟨h1, by decide⟩, if_pos c]
    simp only [e0]
    exact case19w (Or.inl rfl) hr
  · have e0 : ∀ {α : Type} (x y : Option α), zeq a1 0 x y = y := fun x y => by unfold zeq; rw [if_pos ⟨h1, by decide⟩, if_neg c]
    simp only [e0]
    exact case19w (Or.inr rfl) hr
end DE

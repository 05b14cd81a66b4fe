/-! the law's methods: a deal, and the day's checks -/
section LAW2
variable {g0 g g1 g2 : zG} {F R n k : Nat}
theorem uNd_bd {w : Int} (hI : INV g F R) : ∀ m, m ≤ F → -120000 ≤ uSum (uNd g w R) m ∧ uSum (uNd g w R) m ≤ 120000 := by
  intro m hm
  have h24 := hI.1.2.1
  have := uSum_abs (f := uNd g w R) (m := 5000) (n := m) (fun k hk => by
    have hfk := (hI.1.2.2 k (by omega)).1
    have hnb := uNs_bd (w := w) hI.1 hI.2.1 hfk
    unfold flok at hfk
    unfold uNd
    split
    · split <;> omega
    · omega)
  omega
/-- behind the deal: the flight that was asked for -/
theorem u_dealt197 {w : Int} (hn : 3000 < n) (hI1 : INV g1 F R) (hI2 : INV g2 F R) (hk : k < F) (hw : w = 0 ∨ w = 1) (hD : DF g1 g2) (h5 : ∀ r p, r < R → g2 5 r p = g1 5 r p) (h4 : g2 4 k 4 = uNs g1 w R k ∧ g2 4 k 5 = uNr g1 w R k) {K : Nat → Int → Int → Int → Int → Int → Int → Int → Int → Int → Int → zG → Option (Int × zG)} :
    zT (sL_isDealt_j197 n K w (k : Int) (g1 4 k 4) (g1 4 k 5) (uDue g1 (k : Int) R) (uLst g1 k) (uSum (uNd g1 w R) F) (uSum (uNd g1 w R) F) 1 g2) (fun z g' => z = 1 ∧ KS R g2 g') := by
  have hsum := uNd_bd (w := w) hI1 F (Nat.le_refl F)
  have hf1 := (hI1.1.2.2 k hk).1
  have hf2 := (hI2.1.2.2 k hk).1
  have hdu := uDue_rng (k := (k : Int)) hI1
  unfold flok at hf1 hf2
  have e1 : g2 4 k 1 = g1 4 k 1 := hD.f (by decide)
  unfold sL_isDealt_j197 sL_isDealt_j283
  refine b_flightIs hI2 KS.rf hk (by omega) ?_
  rw [uFis2]
  have hL := uLst_bd (g := g1) (k := k)
  refine zT_eq (by omega) (fun c => ?_) (fun c => ?_)
  · have e4 : g2 4 k 4 = g1 4 k 4 := by rw [h4.1]; unfold uNs; rw [if_neg (by omega)]
    have e5 : g2 4 k 5 = g1 4 k 5 := by rw [h4.2]; unfold uNr; rw [if_neg (by omega)]
    refine zT_eqF (by omega) (zT_eqT (by omega) (zT_eqT (by omega) (b_flightIs hI2 KS.rf hk (by omega) ?_)))
    rw [uFis3]
    exact zT_eqT (by omega) (zT_bo (by omega) (zT_some ⟨rfl, KS.rf⟩))
  · have hl : uLst g1 k = 1 := by omega
    have es : g2 4 k 4 = if uDue g1 (k : Int) R = 0 then -1 else if w ≠ 0 ∨ g1 4 k 4 = -1 ∨ g1 4 k 1 + uDue g1 (k : Int) R ≤ g1 4 k 4 then g1 4 k 1 + uDue g1 (k : Int) R else g1 4 k 4 := by
      rw [h4.1]
      unfold uNs
      rw [if_pos hl]
    have er : g2 4 k 5 = if uDue g1 (k : Int) R = 0 then -1 else if w ≠ 0 ∨ g1 4 k 4 = -1 ∨ g1 4 k 1 + uDue g1 (k : Int) R ≤ g1 4 k 4 then uRul g1 (k : Int) R else g1 4 k 5 := by
      rw [h4.2]
      unfold uNr
      rw [if_pos hl]
    refine b_flightIs hI2 KS.rf hk (by omega) ?_
    rw [uFis1, e1]
    refine zT_let ?_
    -- the due is 0
    have h284z : uDue g1 (k : Int) R = 0 → zT (sL_isDealt_j284 n K (k : Int) (g1 4 k 4) (g1 4 k 5) (uDue g1 (k : Int) R) (uSum (uNd g1 w R) F) (uSum (uNd g1 w R) F) 1 (g2 4 k 4) (g1 4 k 1 + uDue g1 (k : Int) R) 0 g2) (fun z g' => z = 1 ∧ KS R g2 g') := by
      intro hz
      rw [if_pos hz] at es
      unfold sL_isDealt_j284 sL_isDealt_j361
      exact zT_eqF (by omega) (zT_eqT (by omega) (zT_eqT (by omega) (zT_eqT (by omega) (zT_bo (by omega) (zT_some ⟨rfl, KS.rf⟩)))))
    -- it is dealt anew
    have h284n : uDue g1 (k : Int) R ≠ 0 → (w ≠ 0 ∨ g1 4 k 4 = -1 ∨ g1 4 k 1 + uDue g1 (k : Int) R ≤ g1 4 k 4) → zT (sL_isDealt_j284 n K (k : Int) (g1 4 k 4) (g1 4 k 5) (uDue g1 (k : Int) R) (uSum (uNd g1 w R) F) (uSum (uNd g1 w R) F) 1 (g2 4 k 4) (g1 4 k 1 + uDue g1 (k : Int) R) 0 g2) (fun z g' => z = 1 ∧ KS R g2 g') := by
      intro hz hc
      rw [if_neg hz, if_pos hc] at es er
      unfold sL_isDealt_j284 sL_isDealt_j361
      refine zT_eqF (by omega) (zT_eqT (by omega) (zT_eqF (by omega) (zT_eqT (by omega) (zT_eqT (by omega) (b_flightIs hI2 KS.rf hk (by omega) ?_)))))
      rw [uFis3, er]
      rcases uRul_due (g := g1) (k := (k : Int)) (m := R) with ⟨z1, z2⟩ | ⟨r, z1, z2, z3, z4⟩
      · exact absurd z2 hz
      · rw [z1]
        refine b_penalty hn hI2 KS.rf hk z2 (fun g3 h3 => ?_)
        rw [uPen_df hD (fun p => h5 r p z2), ← z3]
        exact zT_eqT (by omega) (zT_bo (by omega) (zT_some ⟨rfl, h3⟩))
    refine zT_le (by omega) (fun c1 => h284z (by omega)) (fun c1 => ?_)
    refine zT_eq (by omega) (fun c2 => ?_) (fun c2 => h284n (by omega) (Or.inl c2))
    refine zT_eq (by omega) (fun c3 => h284n (by omega) (Or.inr (Or.inl c3))) (fun c3 => ?_)
    refine zT_lt (by omega) (fun c4 => ?_) (fun c4 => h284n (by omega) (Or.inr (Or.inr c4)))
    rw [if_neg (by omega), if_neg (by omega)] at es er
    unfold sL_isDealt_j284 sL_isDealt_j361
    refine zT_eqF (by omega) (zT_eqT (by omega) (zT_eqF (by omega) (zT_eqF (by omega) (zT_eqT (by omega) (b_flightIs hI2 KS.rf hk (by omega) ?_)))))
    rw [uFis3]
    exact zT_eqT (by omega) (zT_bo (by omega) (zT_some ⟨rfl, KS.rf⟩))
theorem u_dealt_run {w : Int} (hn : 3000 < n) (hI1 : INV g1 F R) (hI2 : INV g2 F R) (hk : k < F) (hw : w = 0 ∨ w = 1) (hD : DF g1 g2) (h5 : ∀ r p, r < R → g2 5 r p = g1 5 r p) (h4 : ∀ j, j < F → g2 4 j 4 = uNs g1 w R j ∧ g2 4 j 5 = uNr g1 w R j) (hd : g2 17 0 0 = (F : Int)) : ∀ (d j f : Nat), j + d = F → d < f →
    zT (sL_isDealt_run n f 0 w (k : Int) (g1 4 k 4) (g1 4 k 5) (uDue g1 (k : Int) R) (uLst g1 k) (uSum (uNd g1 w R) F) (uSum (uNd g1 w R) j) 1 (j : Int) g2) (fun z g' => z = 1 ∧ KS R g2 g') := by
  have h24 := hI1.1.2.1
  have e0 : g2 17 0 (0 : Int).toNat = (F : Int) := hd
  intro d
  induction d with
  | zero =>
    intro j f hj hf
    obtain ⟨f, rfl⟩ : ∃ f', f = f' + 1 := ⟨f - 1, by omega⟩
    have : j = F := by omega
    subst this
    rw [qsL_isDealt_run0]
    unfold sL_isDealt_h79
    refine zT_ix (by omega) ?_
    rw [e0]
    exact zT_ltF (by omega) (u_dealt197 hn hI1 hI2 hk hw hD h5 (h4 k hk))
  | succ d ih =>
    intro j f hj hf
    obtain ⟨f, rfl⟩ : ∃ f', f = f' + 1 := ⟨f - 1, by omega⟩
    have hjF : j < F := by omega
    have hsj := hI2.2.2 j hjF
    have hfj := (hI2.1.2.2 j hjF).1
    unfold flok at hfj
    have e1 : g2 4 j 1 = g1 4 j 1 := hD.f (by decide)
    have e2 : g2 4 j 2 = g1 4 j 2 := hD.f (by decide)
    have hend : zT (sL_isDealt_j184 n (sL_isDealt_run n f) w (k : Int) (g1 4 k 4) (g1 4 k 5) (uDue g1 (k : Int) R) (uLst g1 k) (uSum (uNd g1 w R) F) (uSum (uNd g1 w R) (j + 1)) (j : Int) g2) (fun z g' => z = 1 ∧ KS R g2 g') := by
      unfold sL_isDealt_j184 sL_isDealt_j189
      exact zT_let (ih (j + 1) f (by omega) (by omega))
    have hnd : uSum (uNd g1 w R) (j + 1) = uSum (uNd g1 w R) j + uNd g1 w R j := rfl
    have hx : uNd g1 w R j = if g2 4 j 2 = 0 then (if g2 4 j 4 = -1 then 0 else g2 4 j 4 - g2 4 j 1) else 0 := by
      rw [e1, e2, (h4 j hjF).1]
      rfl
    have h133 : ∀ t, t = uNd g1 w R j → zT (sL_isDealt_j133 n (sL_isDealt_run n f) w (k : Int) (g1 4 k 4) (g1 4 k 5) (uDue g1 (k : Int) R) (uLst g1 k) (uSum (uNd g1 w R) F) (j : Int) (g2 4 j 4) (uSum (uNd g1 w R) j) t g2) (fun z g' => z = 1 ∧ KS R g2 g') := by
      intro t ht
      unfold sL_isDealt_j133 sL_isDealt_j147
      refine zT_let ?_
      rw [ht, ← hnd]
      refine zT_eq (by omega) (fun c => ?_) (fun c => ?_)
      · refine b_flightIs hI2 KS.rf hjF (by omega) ?_
        rw [uFis3]
        unfold sL_isDealt_j163
        have : g2 4 j 5 = -1 := by
          rcases hsj.1 with z | z
          · exact z.2
          · omega
        exact zT_eqT (by omega) (zT_eqT (by omega) (zT_eqT (by omega) hend))
      · refine b_flightIs hI2 KS.rf hjF (by omega) ?_
        rw [uFis3]
        unfold sL_isDealt_j163
        have hz : 0 ≤ g2 4 j 5 ∧ g2 4 j 1 ≤ g2 4 j 4 := by
          rcases hsj.1 with z | z
          · omega
          · exact ⟨z.2.1, z.1⟩
        refine zT_eqF (by omega) (zT_eqT (by omega) (zT_eqF (by omega) (b_flightIs hI2 KS.rf hjF (by omega) ?_)))
        rw [uFis1]
        exact zT_ltF (by omega) hend
    rw [qsL_isDealt_run0]
    unfold sL_isDealt_h79 sL_isDealt_j132
    refine zT_ix (by omega) ?_
    rw [e0]
    refine zT_ltT (by omega) (zT_eqF (by omega) (b_flightIs hI2 KS.rf hjF (by omega) (b_flightIs hI2 KS.rf hjF (by omega) ?_)))
    rw [uFis2, uFis0]
    refine zT_eq (by omega) (fun c1 => ?_) (fun c1 => ?_)
    · rw [if_pos c1] at hx
      refine zT_eq (by omega) (fun c2 => ?_) (fun c2 => ?_)
      · rw [if_pos c2] at hx
        exact h133 0 hx.symm
      · rw [if_neg c2] at hx
        refine b_flightIs hI2 KS.rf hjF (by omega) ?_
        rw [uFis1]
        exact h133 _ hx.symm
    · rw [if_neg c1] at hx
      exact h133 0 hx.symm
theorem u_isDealt {w : Int} (hn : 3000 < n) (hI : INV g F R) (hk : k < F) (hw : w = 0 ∨ w = 1) (hd : g 17 0 0 = (F : Int)) : zT (sL_isDealt n w (k : Int) g) (fun z g' => z = 1 ∧ INV g' F R ∧ D3 g g') := by
  have h24 := hI.1.2.1
  have hfk := (hI.1.2.2 k hk).1
  unfold flok at hfk
  unfold sL_isDealt sL_isDealt_j46
  refine b_flightIs hI KS.rf hk (by omega) (b_flightIs hI KS.rf hk (by omega) (b_due hn hI KS.rf hk (fun g1 h1 => ?_)))
  have hI1 := hI.ks h1
  have hdu := uDue_rng (k := (k : Int)) hI
  have h47 : ∀ c, c = uLst g k → zT (sL_isDealt_j47 n (sL_isDealt_run n 30) w (k : Int) (g 4 k 4) (g 4 k 5) (uDue g (k : Int) R) c g1) (fun z g' => z = 1 ∧ INV g' F R ∧ D3 g g') := by
    intro c hc
    have hdue := (h1.due (x := (k : Int))).1
    unfold sL_isDealt_j47 sL_isDealt_j74
    refine zT_bdm (t_dealI hn hI1 hw) ?_
    rintro z g2 ⟨rfl, hI2, hD2, hDF, h5, h4⟩
    refine b_dueAnew hn hI2 KS.rf hk (fun g3 h3 => ?_)
    rw [(uDue_df hDF (fun r _ => h5 r)).1, hdue]
    refine zT_eqT (by omega) ?_
    have hI3 := hI2.ks h3
    -- the day behind the deal, as the question left it
    have hDF3 : DF g1 g3 := fun a b p q => by rw [h3 a b p (by omega)]; exact hDF a b p q
    have hr : ∀ r p, r < R → g3 5 r p = g1 5 r p := fun r p q => by rw [h3.rg q]; exact h5 r p
    have h43 : ∀ j, j < F → g3 4 j 4 = uNs g1 w R j ∧ g3 4 j 5 = uNr g1 w R j := fun j hj => by
      rw [h3.f (by decide), h3.f (by decide)]
      exact h4 j hj
    have hd3 : g3 17 0 0 = (F : Int) := by rw [h3.d, hD2, h1.d, hd]
    rw [← hdue, hc, ← h1.cf.lst, ← h1.f (k := k) (p := 4) (by decide), ← h1.f (k := k) (p := 5) (by decide)]
    refine zT_mono (u_dealt_run hn hI1 hI3 hk hw hDF3 hr h43 hd3 F 0 30 (by omega) (by omega)) ?_
    rintro z g4 ⟨rfl, h6⟩
    exact ⟨rfl, hI3.ks h6, (h1.d3.tr hD2).tr (h3.d3.tr h6.d3)⟩
  refine b_flightIs hI h1 hk (by omega) ?_
  rw [uFis0, uFis2, uFis3]
  refine zT_eq (by omega) (fun c1 => ?_) (fun c1 => h47 0 (by unfold uLst; rw [if_neg (by omega)]))
  refine b_flightIs hI h1 hk (by omega) ?_
  rw [uFis7]
  by_cases c2 : g 4 k 3 = 0
  · rw [if_pos c2]
    exact zT_eqT (by omega) (h47 1 (by unfold uLst; rw [if_pos ⟨c1, c2⟩]))
  · rw [if_neg c2]
    exact zT_eqF (by omega) (h47 0 (by unfold uLst; rw [if_neg (by omega)]))
/-! the day -/
theorem uChs_bd (hI : INV g F R) : ∀ r : Int, -34560 ≤ uSum (uChr g r) F ∧ uSum (uChr g r) F ≤ 34560 := by
  intro r
  have h24 := hI.1.2.1
  have := uSum_abs (f := uChr g r) (m := 1440) (n := F) (fun k hk => by
    have := uChg_bd (hI.1.2.2 k hk).1
    unfold uChr
    split <;> omega)
  omega
theorem uCos_bd (hI : INV g F R) {w : Int} (hw : w = 1 ∨ w = 2) : ∀ c : Int, 0 ≤ uSum (uCoi g c w) F ∧ uSum (uCoi g c w) F ≤ 24 := by
  intro c
  have h24 := hI.1.2.1
  have := uSum_bound (f := uCoi g c w) (m := 1) (n := F) (fun k hk => by
    have := uOut_bd (g := g) (k := k)
    unfold uCoi uLed
    split
    · rcases hw with rfl | rfl
      · rw [if_neg (by decide), if_pos rfl]
        omega
      · rw [if_neg (by decide), if_neg (by decide)]
        split <;> omega
    · omega)
  omega
theorem u_day115 {x3 : Int} (hn : 3000 < n) (hI : INV g0 F R) (h : KS R g0 g) (hk : k < F) (h3 : x3 = uSum (fun q : Nat => uSum (uChr g0 (q : Int)) F) R) : ∀ (d c f : Nat), c + d = 4 → d < f →
    zT (sL_isDay_run n f 1 (k : Int) x3 (uSum (fun c : Nat => uSum (uCoi g0 (c : Int) 0) F) c) (uSum (fun c : Nat => uSum (uCoi g0 (c : Int) 2) F - uSum (uCoi g0 (c : Int) 1) F) c) (c : Int) g) (fun z g' => z = 1 ∧ KS R g0 g') := by
  have hR6 := hI.2.1.2.1
  intro d
  induction d with
  | zero =>
    intro c f hc hf
    obtain ⟨f, rfl⟩ : ∃ f', f = f' + 1 := ⟨f - 1, by omega⟩
    have : c = 4 := by omega
    subst this
    have hfk := (hI.1.2.2 k hk).1
    unfold flok at hfk
    have hdu := uDue_rng (k := (k : Int)) hI
    have hle := uDue_le hI hk
    have hall := uAll_in (g := g0) (F := F) (m := R) hI.1 hI.2.1.2.2
    have b1 := uSum_abs (f := fun q : Nat => uSum (uChr g0 (q : Int)) F) (m := 34560) (n := R) (fun q _ => uChs_bd hI (q : Int))
    have b2 := uSum_bound (f := fun c : Nat => uSum (uCoi g0 (c : Int) 2) F - uSum (uCoi g0 (c : Int) 1) F) (m := 24) (n := 4) (fun c _ => by
      have z1 := uCos_bd hI (Or.inl rfl) (c : Int)
      have z2 := uCos_bd hI (Or.inr rfl) (c : Int)
      have z3 := uGone (g := g0) (F := F) (c := (c : Int))
      show 0 ≤ uSum (uCoi g0 (c : Int) 2) F - uSum (uCoi g0 (c : Int) 1) F ∧ uSum (uCoi g0 (c : Int) 2) F - uSum (uCoi g0 (c : Int) 1) F ≤ 24
      omega)
    rw [qsL_isDay_run1]
    unfold sL_isDay_h115 sL_isDay_j222 sL_isDay_j214
    rw [← uCharged hI, ← h3]
    have hx3 : zIn x3 := by
      rw [h3]
      constructor <;> omega
    generalize uSum (fun c : Nat => uSum (uCoi g0 (c : Int) 2) F - uSum (uCoi g0 (c : Int) 1) F) 4 = x5 at b2 ⊢
    refine zT_ltF (by omega) (zT_eqT ⟨rfl, hx3, hx3⟩ (zT_ltF (by omega) (b_due hn hI h hk (fun g1 h1 => b_dueAnew hn hI h1 hk (fun g2 h2 => zT_eqT (by omega) (b_due hn hI h2 hk (fun g3 h3 => b_allDue hn hI h3 (fun g4 h4 => zT_leT ⟨hle, by omega, hall⟩ ?_))))))))
    refine b_flightIs hI h4 hk (by omega) ?_
    rw [uFis0]
    refine zT_eq (by omega) (fun c1 => b_flightIs hI h4 hk (by omega) ?_) (fun c1 => b_due hn hI h4 hk (fun g5 h5 => ?_))
    · rw [uFis7]
      by_cases c2 : g0 4 k 3 = 0
      · rw [if_pos c2]
        exact zT_eqT (by omega) (zT_bo (by omega) (zT_some ⟨rfl, h4⟩))
      · rw [if_neg c2]
        refine zT_eqF (by omega) (b_due hn hI h4 hk (fun g5 h5 => ?_))
        rw [uDue_not hI hk (by unfold uLst; rw [if_neg (by omega)])]
        exact zT_eqT (by omega) (zT_bo (by omega) (zT_some ⟨rfl, h5⟩))
    · rw [uDue_not hI hk (by unfold uLst; rw [if_neg (by omega)])]
      exact zT_eqT (by omega) (zT_bo (by omega) (zT_some ⟨rfl, h5⟩))
  | succ d ih =>
    intro c f hc hf
    obtain ⟨f, rfl⟩ : ∃ f', f = f' + 1 := ⟨f - 1, by omega⟩
    rw [qsL_isDay_run1]
    unfold sL_isDay_h115
    refine zT_ltT (by omega) (b_companyIs (by omega) hI h (by omega) (by omega) (zT_let (b_companyIs (by omega) hI h (by omega) (by omega) (b_companyIs (by omega) hI h (by omega) (by omega) (zT_let (zT_let ?_))))))
    exact ih (c + 1) f (by omega) (by omega)
theorem u_day5 (hn : 3000 < n) (hI : INV g0 F R) (hk : k < F) (hd : g0 17 0 1 = (R : Int)) : ∀ (d q f : Nat) (g : zG), KS R g0 g → q + d = R → d + 6 < f →
    zT (sL_isDay_run n f 0 (k : Int) (uSum (fun q : Nat => uSum (uChr g0 (q : Int)) F) q) (q : Int) 0 0 g) (fun z g' => z = 1 ∧ KS R g0 g') := by
  have hR6 := hI.2.1.2.1
  have h24 := hI.1.2.1
  intro d
  induction d with
  | zero =>
    intro q f g h hq hf
    obtain ⟨f, rfl⟩ : ∃ f', f = f' + 1 := ⟨f - 1, by omega⟩
    have e0 : g 17 0 (1 : Int).toNat = (R : Int) := (h.d (p := 1)).trans hd
    rw [qsL_isDay_run0]
    unfold sL_isDay_h5
    refine zT_ix (by omega) ?_
    rw [e0]
    refine zT_ltF (by omega) ?_
    exact u_day115 hn hI h hk (by rw [show q = R from by omega]) 4 0 f (by omega) (by omega)
  | succ d ih =>
    intro q f g h hq hf
    obtain ⟨f, rfl⟩ : ∃ f', f = f' + 1 := ⟨f - 1, by omega⟩
    have hqR : q < R := by omega
    have e0 : g 17 0 (1 : Int).toNat = (R : Int) := (h.d (p := 1)).trans hd
    obtain ⟨w0, w2, w3, w4, w5, w6, w1⟩ := uRis_free (g := g0) (F := F) (r := q)
    have hfr := uFr_le (r := q) hI.1
    have l1 : (uLF g0 q).length ≤ 24 := Nat.le_trans uKeys_len hfr.1
    have l2 : (uLL g0 q).length ≤ 24 := Nat.le_trans uKeys_len hfr.1
    have hsl := uSc_le (hI.2.1.2.2 q hqR)
    have hfree := uFree_nn (g := g0) (r := q)
    obtain ⟨n1, n2⟩ := uNo_bds (g := g0) (r := q)
    rw [qsL_isDay_run0]
    unfold sL_isDay_h5
    refine zT_ix (by omega) ?_
    rw [e0]
    refine zT_ltT (by omega) (b_regulationIs hn hI h hqR (by omega) (fun g1 h1 => zT_let (b_regulationIs hn hI h1 hqR (by omega) (fun g2 h2 => b_regulationIs hn hI h2 hqR (by omega) (fun g3 h3 => zT_let ?_)))))
    rw [w6, w1, w0]
    refine zT_ltF (by omega) (b_regulationIs hn hI h3 hqR (by omega) (fun g4 h4 => b_regulationIs hn hI h4 hqR (by omega) (fun g5 h5 => b_regulationIs hn hI h5 hqR (by omega) (fun g6 h6 => ?_))))
    rw [w2, w3, w4]
    refine zT_leT (by omega) (b_regulationIs hn hI h6 hqR (by omega) (fun g7 h7 => b_regulationIs hn hI h7 hqR (by omega) (fun g8 h8 => ?_)))
    rw [w3, w4]
    refine zT_ltF (by omega) (zT_let ?_)
    exact ih (q + 1) f g8 h8 (by omega) (by omega)
theorem u_isDay (hn : 3000 < n) (hI : INV g F R) (hk : k < F) (hd : g 17 0 1 = (R : Int)) : zT (sL_isDay n (k : Int) g) (fun z g' => z = 1 ∧ KS R g g') := by
  have hR6 := hI.2.1.2.1
  unfold sL_isDay
  exact u_day5 hn hI hk hd R 0 30 g KS.rf (by omega) (by omega)
end LAW2

/-! the reference's dealing, whole; dues -/
section RD2
variable {v : zG} {F n r : Nat}
theorem uKs_pos {t : Nat → Int} (hF : F ≤ 24) : ∀ y ∈ uKs t F, -1 < y := by
  intro y hy
  obtain ⟨k, h1, h2, h3, h4, h5⟩ := (uKs_mem hF).mp hy
  omega
theorem g_dealt2 (hn : 3000 < n) (hF : FOK v F) (hr7 : r < 7) (hrg : rgok v r) : ∀ (rest pre : List Int) (f : Nat) (T : Nat → Bool) (h : zG), FREF h v F → RREF h v r → h 6 0 24 = (uSc v r : Int) → uTak h (uSc v r) T → uKs (uTf v r) F = pre ++ rest → rest.length + 30 < f →
    zT (sX5_dealt_run n f 2 (r : Int) (uHd rest) h) (fun _ h' => FM r h h' ∧ h' 6 0 24 = h 6 0 24 ∧ h' 6 0 26 = h 6 0 26 + (rest.length : Int) ∧ h' 6 0 27 = h 6 0 27 + ((uKs (uTl v r) F).length : Int) ∧ h' 6 0 28 = h 6 0 28 + uNo (uDl (uEnR v r) (uSc v r) (uDT (uEnR v r) (uSc v r) T rest) (uKs (uTl v r) F)) ∧ h' 6 0 25 = h 6 0 25 - ((rest.length : Int) - uNo (uDl (uEnR v r) (uSc v r) T rest)) - (((uKs (uTl v r) F).length : Int) - uNo (uDl (uEnR v r) (uSc v r) (uDT (uEnR v r) (uSc v r) T rest) (uKs (uTl v r) F))) ∧ ∀ k : Nat, k < 24 → h' 41 0 (24 * r + k) = uPn (uEnR v r) (uBgR v r) (uSc v r) (v 5 r 2) (uDT (uEnR v r) (uSc v r) T rest) (uKs (uTl v r) F) (k : Int) (h 41 0 (24 * r + k))) := by
  have h24 := hF.2.1
  have hsl := uSc_le hrg
  have hrg2 := hrg
  unfold rgok at hrg2
  intro rest
  induction rest with
  | nil =>
    intro pre f T h hr hg hS hT hl hf
    obtain ⟨f, rfl⟩ : ∃ f', f = f' + 1 := ⟨f - 1, by omega⟩
    have hll : (uKs (uTl v r) F).length ≤ F := uKeys_len
    rw [qsX5_dealt_run2]
    unfold sX5_dealt_h112
    refine zT_eqT (by show (-1 : Int) = -1 ∧ _; decide) ?_
    have hnx := f_nextOf (n := n) (x := 0) (key := -1) (pre := []) (rest := uKs (uTl v r) F) (h := h) (by omega) hF hr hg hr7 hrg (Or.inl rfl) (by omega) rfl (fun z hz => by cases hz) (uKs_pos h24)
    refine zT_bde hnx ?_
    refine zT_mono (g_dealt3 hn hF hr7 hrg (uKs (uTl v r) F) [] f T h hr hg hS hT rfl (by omega)) ?_
    rintro - h' ⟨b1, b2, b3, b4, b5, b6, b7⟩
    refine ⟨b1, b2, ?_, b4, b5, ?_, b7⟩
    · rw [b3]; show _ = _ + 0; omega
    · have eT : uDT (uEnR v r) (uSc v r) T [] = T := rfl
      have eN : uNo (uDl (uEnR v r) (uSc v r) T []) = 0 := rfl
      have e0 : (([] : List Int).length : Int) = 0 := rfl
      rw [b6, eN, e0, eT]
      omega
  | cons y rest ih =>
    intro pre f T h hr hg hS hT hl hf
    obtain ⟨f, rfl⟩ : ∃ f', f = f' + 1 := ⟨f - 1, by omega⟩
    obtain ⟨k, k1, k2, k3, k4, k5, k6, k7, k8⟩ := uKey_bd h24 (fun k => uTf_bd hrg) hl
    have hl2 : uKs (uTf v r) F = (pre ++ [y]) ++ rest := by rw [hl]; simp
    have hhd : uHd (y :: rest) = (k : Int) := k4
    have hf3 : rest.length + 30 < f := by simp at hf; omega
    have et : uTx v r 1 k = y / 24 := by rw [k5]; rfl
    rw [hhd, qsX5_dealt_run2]
    unfold sX5_dealt_h112
    refine zT_eqF (by omega) (zT_bde (f_timeOf2 k1 hF hr hg hr7 hrg (Or.inr rfl)) (zT_st ?_))
    rw [et]
    have c1 : CM h (zup h 6 0 26 (h 6 0 26 + 1)) := CM.up6 (by decide)
    have htk := g_takes (n := n) (t := y / 24) (h := zup h 6 0 26 (h 6 0 26 + 1)) hn (hg.cm c1) hr7 hrg (by simp [zup_rd]; exact hS) (fun j hj => by simp [zup_rd]; exact hT j hj) (by omega)
    generalize ho : uTk (uEnR v r) T (y / 24) (uSc v r) 0 = o at htk
    refine zT_bde htk ?_
    have fm : FM r h (uTaken (zup h 6 0 26 (h 6 0 26 + 1)) o) := (FM.up6 (by decide)).tr FM.tk
    generalize hh3 : uTaken (zup h 6 0 26 (h 6 0 26 + 1)) o = h3 at fm ⊢
    have hcm := fm.cm
    have e24 : h3 6 0 24 = h 6 0 24 := by rw [← hh3, uTaken_o (by omega)]; simp [zup_rd]
    have e26 : h3 6 0 26 = h 6 0 26 + 1 := by rw [← hh3, uTaken_o (by omega)]; simp [zup_rd]
    have e27 : h3 6 0 27 = h 6 0 27 := by rw [← hh3, uTaken_o (by omega)]; simp [zup_rd]
    have e28 : h3 6 0 28 = h 6 0 28 := by rw [← hh3, uTaken_o (by omega)]; simp [zup_rd]
    have e25 : h3 6 0 25 = h 6 0 25 - (1 - uN1 o) := by rw [← hh3, uTaken_25]; simp [zup_rd]
    have e41 : ∀ i : Nat, h3 41 0 i = h 41 0 i := fun i => by rw [← hh3, uTaken_o (by omega)]; simp [zup_rd]
    have hT3 : uTak h3 (uSc v r) (uPut T o) := by
      rw [← hh3]
      exact uTak.tk (fun j hj => by simp [zup_rd]; exact hT j hj)
    have hnx := f_nextOf (n := n) (x := 1) (key := 24 * (y / 24) + (k : Int)) (pre := pre ++ [y]) (rest := rest) (h := h3) (by omega) hF (hr.cm hcm) (hg.cm hcm) hr7 hrg (Or.inr rfl) (by omega) hl2 (fun z hz => by have := k7 z hz; omega) (fun z hz => by have := k8 z hz; omega)
    refine zT_bde hnx ?_
    refine zT_mono (ih (pre ++ [y]) f (uPut T o) h3 (hr.cm hcm) (hg.cm hcm) (by rw [e24]; exact hS) hT3 hl2 hf3) ?_
    rintro - h' ⟨b1, b2, b3, b4, b5, b6, b7⟩
    have hlen : ((y :: rest).length : Int) = (rest.length : Int) + 1 := by simp
    have hdt : uDT (uEnR v r) (uSc v r) T (y :: rest) = uDT (uEnR v r) (uSc v r) (uPut T o) rest := by
      show uDT _ _ (uPut T (uTk (uEnR v r) T (y / 24) (uSc v r) 0)) rest = _
      rw [ho]
    have hno : uNo (uDl (uEnR v r) (uSc v r) T (y :: rest)) = uN1 o + uNo (uDl (uEnR v r) (uSc v r) (uPut T o) rest) := by
      show uNo (uTk (uEnR v r) T (y / 24) (uSc v r) 0 :: uDl _ _ (uPut T (uTk (uEnR v r) T (y / 24) (uSc v r) 0)) rest) = _
      rw [ho]
      exact uNo_cons
    rw [hdt, hno, hlen]
    refine ⟨fm.tr b1, by rw [b2, e24], by rw [b3, e26]; omega, by rw [b4, e27], by rw [b5, e28], by rw [b6, e25]; omega, fun i hi => ?_⟩
    rw [b7 i hi, e41]
/-- what a dealing leaves -/
def uDealt (v : zG) (r : Nat) (h h' : zG) : Prop := FM r h h' ∧ h' 6 0 24 = (uSc v r : Int) ∧ h' 6 0 25 = (uSc v r : Int) - (((uLF v r).length : Int) - uNo (uO1 v r)) - (((uLL v r).length : Int) - uNo (uO2 v r)) ∧ h' 6 0 26 = ((uLF v r).length : Int) ∧ h' 6 0 27 = ((uLL v r).length : Int) ∧ h' 6 0 28 = uNo (uO2 v r) ∧ ∀ k : Nat, k < 24 → h' 41 0 (24 * r + k) = uPen v r (k : Int)
theorem g_dealt1 {h0 : zG} (hn : 3000 < n) (hF : FOK v F) (hr7 : r < 7) (hrg : rgok v r) (h4 : v 5 r 4 = 0) : ∀ (d j f : Nat) (h : zG), j + d = 24 → d + 60 < f → FM r h0 h → FREF h v F → RREF h v r → h 6 0 24 = (uSc v r : Int) → h 6 0 25 = (uSc v r : Int) → h 6 0 26 = 0 → h 6 0 27 = 0 → h 6 0 28 = 0 → uTak h (uSc v r) (fun _ => false) → (∀ i, i < j → h 41 0 (24 * r + i) = -1) →
    zT (sX5_dealt_run n f 1 (r : Int) (j : Int) h) (fun _ h' => uDealt v r h0 h') := by
  have h24 := hF.2.1
  intro d
  induction d with
  | zero =>
    intro j f h hj hf fm hr hg e24 e25 e26 e27 e28 hT hp
    obtain ⟨f, rfl⟩ : ∃ f', f = f' + 1 := ⟨f - 1, by omega⟩
    have hlf : (uKs (uTf v r) F).length ≤ F := uKeys_len
    rw [qsX5_dealt_run1]
    unfold sX5_dealt_h80
    refine zT_ltF (by omega) ?_
    have hnx := f_nextOf (n := n) (x := 1) (key := -1) (pre := []) (rest := uKs (uTf v r) F) (h := h) (by omega) hF hr hg hr7 hrg (Or.inr rfl) (by omega) rfl (fun z hz => by cases hz) (uKs_pos h24)
    refine zT_bde hnx ?_
    refine zT_mono (g_dealt2 hn hF hr7 hrg (uKs (uTf v r) F) [] f (fun _ => false) h hr hg e24 hT rfl (by omega)) ?_
    rintro - h' ⟨b1, b2, b3, b4, b5, b6, b7⟩
    have eF : uFr v r = F := by unfold uFr; rw [if_pos h4, hF.1]; omega
    have elf : uLF v r = uKs (uTf v r) F := by unfold uLF; rw [eF]
    have ell : uLL v r = uKs (uTl v r) F := by unfold uLL; rw [eF]
    unfold uDealt uO1 uO2 uPen uT1
    rw [elf, ell]
    refine ⟨fm.tr b1, by rw [b2, e24], by rw [b6, e25], by rw [b3, e26]; omega, by rw [b4, e27]; omega, by rw [b5, e28]; omega, fun k hk => ?_⟩
    rw [b7 k hk, hp k (by omega)]
  | succ d ih =>
    intro j f h hj hf fm hr hg e24 e25 e26 e27 e28 hT hp
    obtain ⟨f, rfl⟩ : ∃ f', f = f' + 1 := ⟨f - 1, by omega⟩
    rw [qsX5_dealt_run1]
    unfold sX5_dealt_h80
    refine zT_ltT (by omega) (zT_ix (by omega) (zT_st (zT_let ?_)))
    rw [show (24 * (r : Int) + (j : Int)).toNat = 24 * r + j from by omega]
    have f1 : FM r h (zup h 41 0 (24 * r + j) (-1)) := FM.up41 (by omega)
    refine ih (j + 1) f _ (by omega) (by omega) (fm.tr f1) (hr.cm f1.cm) (hg.cm f1.cm) ?_ ?_ ?_ ?_ ?_ (fun i hi => ?_) (fun i hi => ?_)
    · simp [zup_rd]; exact e24
    · simp [zup_rd]; exact e25
    · simp [zup_rd]; exact e26
    · simp [zup_rd]; exact e27
    · simp [zup_rd]; exact e28
    · simp [zup_rd]; exact hT i hi
    · by_cases c : i = j
      · simp [zup_rd, c]
      · simp [zup_rd, c]
        exact hp i (by omega)
theorem g_dealt0 {h0 : zG} (hn : 3000 < n) (hF : FOK v F) (hr7 : r < 7) (hrg : rgok v r) (h4 : v 5 r 4 = 0) : ∀ (d j f : Nat) (h : zG), j + d = uSc v r → d + 100 < f → FM r h0 h → FREF h v F → RREF h v r → h 6 0 24 = (j : Int) → (∀ i, i < j → h 40 0 i = 0) →
    zT (sX5_dealt_run n f 0 (r : Int) 0 h) (fun _ h' => uDealt v r h0 h') := by
  have hsl := uSc_le hrg
  have hrg2 := hrg
  unfold rgok at hrg2
  have eS : uSc v r = uS (v 5 r 1) (v 5 r 2) (v 5 r 3) := by unfold uSc; rw [if_pos h4]
  intro d
  -- behind the last slot
  have hend : ∀ (f : Nat) (h : zG), 100 < f + 1 → FM r h0 h → FREF h v F → RREF h v r → h 6 0 24 = (uSc v r : Int) → (∀ i, i < uSc v r → h 40 0 i = 0) → zT (sX5_dealt_j55 n (sX5_dealt_run n f) (r : Int) h) (fun _ h' => uDealt v r h0 h') := by
    intro f h hf fm hr hg e24 hz
    unfold sX5_dealt_j55
    refine zT_st (zT_st (zT_st (zT_st ?_)))
    generalize hh2 : zup (zup (zup (zup h 6 0 25 (h 6 0 24)) 6 0 26 0) 6 0 27 0) 6 0 28 0 = h2
    have f2 : FM r h h2 := by
      rw [← hh2]
      exact (((FM.up6 (by decide)).tr (FM.up6 (by decide))).tr (FM.up6 (by decide))).tr (FM.up6 (by decide))
    refine g_dealt1 hn hF hr7 hrg h4 24 0 f h2 (by omega) (by omega) (fm.tr f2) (hr.cm f2.cm) (hg.cm f2.cm) ?_ ?_ ?_ ?_ ?_ (fun i hi => ?_) (fun i hi => by omega)
    · rw [← hh2]; simp [zup_rd]; exact e24
    · rw [← hh2]; simp [zup_rd]; exact e24
    · rw [← hh2]; simp [zup_rd]
    · rw [← hh2]; simp [zup_rd]
    · rw [← hh2]; simp [zup_rd]
    · rw [← hh2]; simp [zup_rd]; exact hz i hi
  induction d with
  | zero =>
    intro j f h hj hf fm hr hg e24 hz
    obtain ⟨f, rfl⟩ : ∃ f', f = f' + 1 := ⟨f - 1, by omega⟩
    have hjS : j = uSc v r := by omega
    rw [qsX5_dealt_run0]
    unfold sX5_dealt_h5
    simp only [Int.toNat_natCast]
    have k3 := hg.2.2.2.1
    have k2 := hg.2.2.1
    have hE := hend f h (by omega) fm hr hg (by omega) (fun i hi => hz i (by omega))
    refine zT_ix (by omega) (zT_le (by omega) (fun c => hE) (fun c => ?_))
    have eb := f_begin (j := (j : Int)) hg hr7 hrg (by omega) (by omega)
    have hbg := uBg_ge (fr := v 5 r 1) (rt := v 5 r 3) (by omega) (j := j)
    have hi := uS_iff (fr := v 5 r 1) (to := v 5 r 2) (rt := v 5 r 3) (by omega) (j := j)
    rw [e24]
    refine zT_bde eb (zT_ix (by omega) (zT_ltF ?_ hE))
    rw [Int.toNat_natCast]
    unfold uBgR
    omega
  | succ d ih =>
    intro j f h hj hf fm hr hg e24 hz
    obtain ⟨f, rfl⟩ : ∃ f', f = f' + 1 := ⟨f - 1, by omega⟩
    obtain ⟨hp, -⟩ := uSc_pos hrg (by omega)
    rw [qsX5_dealt_run0]
    unfold sX5_dealt_h5
    simp only [Int.toNat_natCast]
    have k3 := hg.2.2.2.1
    have k2 := hg.2.2.1
    refine zT_ix (by omega) (zT_leF (by omega) ?_)
    have eb := f_begin (j := (j : Int)) hg hr7 hrg (by omega) (by omega)
    have hbg := uBg_ge (fr := v 5 r 1) (rt := v 5 r 3) (by omega) (j := j)
    have hi := (uS_iff (fr := v 5 r 1) (to := v 5 r 2) (rt := v 5 r 3) (by omega) (j := j)).mpr (by omega)
    rw [e24]
    refine zT_bde eb (zT_ix (by omega) (zT_ltT ?_ ?_))
    · rw [Int.toNat_natCast]
      unfold uBgR
      omega
    · refine zT_bo (by omega) (zT_ix (by omega) (zT_st (zT_st ?_)))
      simp only [e24, Int.toNat_natCast]
      have f1 : FM r h (zup (zup h 40 0 j 0) 6 0 24 (zup h 40 0 j 0 6 0 24 + 1)) := FM.up40.tr (FM.up6 (by decide))
      refine ih (j + 1) f _ (by omega) (by omega) (fm.tr f1) (hr.cm f1.cm) (hg.cm f1.cm) ?_ (fun i hi => ?_)
      · simp [zup_rd]
        omega
      · by_cases c : i = j
        · simp [zup_rd, c]
        · simp [zup_rd, c]
          exact hz i (by omega)
theorem g_dealt {h : zG} (hn : 3000 < n) (hF : FOK v F) (hr7 : r < 7) (hrg : rgok v r) (h4 : v 5 r 4 = 0) (hr : FREF h v F) (hg : RREF h v r) : zT (sX5_dealt n (r : Int) h) (fun _ h' => uDealt v r h h') := by
  have hsl := uSc_le hrg
  unfold sX5_dealt
  refine zT_st ?_
  have f1 : FM r h (zup h 6 0 24 0) := FM.up6 (by decide)
  exact g_dealt0 hn hF hr7 hrg h4 (uSc v r) 0 n _ (by omega) (by omega) f1 (hr.cm f1.cm) (hg.cm f1.cm) (by simp [zup_rd]) (fun i hi => by omega)
/-- but what dealings write nothing has changed -/
def FA (h h' : zG) : Prop := ∀ k j p, ¬ ((k = 6 ∧ j = 0 ∧ 24 ≤ p) ∨ k = 40 ∨ k = 41) → h' k j p = h k j p
theorem FA.rf {h : zG} : FA h h := fun _ _ _ _ => rfl
theorem FA.tr {h h1 h2 : zG} (a : FA h h1) (b : FA h1 h2) : FA h h2 := fun k j p c => (b k j p c).trans (a k j p c)
theorem FM.fa {h h' : zG} (a : FM r h h') : FA h h' := fun k j p c => a k j p (by omega)
theorem FA.cm {h h' : zG} (a : FA h h') : CM h h' := fun k j p c => a k j p (by omega)
/-- the penalties lie there -/
def PREF (h v : zG) (m : Nat) : Prop := ∀ r, r < m → v 5 r 4 = 0 → ∀ k : Nat, k < 24 → h 41 0 (24 * r + k) = uPen v r (k : Int)
theorem g_dealAll_run {h0 : zG} {m : Nat} (hn : 3000 < n) (hF : FOK v F) (hm : m ≤ 7) (hrg : ∀ r, r < m → rgok v r) : ∀ (d j f : Nat) (h : zG), j + d = m → d < f → FA h0 h → FREF h v F → (∀ r, r < m → RREF h v r) → PREF h v j →
    zT (sX5_dealAll_run n f 0 (m : Int) (j : Int) h) (fun _ h' => FA h0 h' ∧ PREF h' v m) := by
  intro d
  induction d with
  | zero =>
    intro j f h hj hf fa hr hg hp
    obtain ⟨f, rfl⟩ : ∃ f', f = f' + 1 := ⟨f - 1, by omega⟩
    rw [qsX5_dealAll_run0]
    unfold sX5_dealAll_h2
    have hjm : j = m := by omega
    subst hjm
    exact zT_ltF (by omega) (zT_some ⟨fa, hp⟩)
  | succ d ih =>
    intro j f h hj hf fa hr hg hp
    obtain ⟨f, rfl⟩ : ∃ f', f = f' + 1 := ⟨f - 1, by omega⟩
    have hgj := hg j (by omega)
    have hrj := hrg j (by omega)
    have k7 := hgj.2.2.2.2
    have hrj2 := hrj
    unfold rgok at hrj2
    rw [qsX5_dealAll_run0]
    unfold sX5_dealAll_h2
    simp only [Int.toNat_natCast]
    refine zT_ltT (by omega) (zT_ix (by omega) (zT_eq (by omega) (fun c => ?_) (fun c => ?_)))
    · refine zT_bdm (g_dealt hn hF (by omega) hrj (by omega) hr hgj) ?_
      rintro - h' ⟨b1, -, -, -, -, -, b7⟩
      refine zT_let ?_
      refine ih (j + 1) f h' (by omega) (by omega) (fa.tr b1.fa) (hr.cm b1.cm) (fun r hr => (hg r hr).cm b1.cm) (fun r hr h4 k hk => ?_)
      by_cases cr : r = j
      · rw [cr]
        exact b7 k hk
      · rw [b1 41 0 (24 * r + k) (by omega)]
        exact hp r (by omega) h4 k hk
    · refine zT_let ?_
      refine ih (j + 1) f h (by omega) (by omega) fa hr hg (fun r hr h4 k hk => ?_)
      by_cases cr : r = j
      · rw [cr] at h4
        omega
      · exact hp r (by omega) h4 k hk
theorem g_dealAll {h : zG} {m : Nat} (hn : 3000 < n) (hF : FOK v F) (hm : m ≤ 7) (hrg : ∀ r, r < m → rgok v r) (hr : FREF h v F) (hg : ∀ r, r < m → RREF h v r) : zT (sX5_dealAll n (m : Int) h) (fun _ h' => FA h h' ∧ PREF h' v m) :=
  g_dealAll_run hn hF hm hrg m 0 n h (by omega) (by omega) FA.rf hr hg (fun r hr => by omega)
theorem uPen_ended {k : Int} (h4 : v 5 r 4 ≠ 0) : uPen v r k = -1 := by
  unfold uPen uLL uFr
  rw [if_neg h4]
  rfl
theorem g_dueBy_run {h : zG} {m k : Nat} (hF : FOK v F) (hm : m ≤ 7) (hk : k < 24) (hrg : ∀ r, r < m → rgok v r) (hg : ∀ r, r < m → h 37 0 r = v 5 r 4) (hp : PREF h v m) : ∀ (d j f : Nat), j + d = m → d < f →
    zT (sX5_dueBy_run n f 0 (k : Int) (m : Int) (uRul v (k : Int) j) (uDue v (k : Int) j) (j : Int) h) (fun z h' => z = uRul v (k : Int) m ∧ h' = h) := by
  intro d
  induction d with
  | zero =>
    intro j f hj hf
    obtain ⟨f, rfl⟩ : ∃ f', f = f' + 1 := ⟨f - 1, by omega⟩
    rw [qsX5_dueBy_run0]
    unfold sX5_dueBy_h8
    have hjm : j = m := by omega
    subst hjm
    exact zT_ltF (by omega) (zT_some ⟨rfl, rfl⟩)
  | succ d ih =>
    intro j f hj hf
    obtain ⟨f, rfl⟩ : ∃ f', f = f' + 1 := ⟨f - 1, by omega⟩
    have k7 := hg j (by omega)
    have hrj := hrg j (by omega)
    have hrj2 := hrj
    unfold rgok at hrj2
    have hd := uDue_bd (k := (k : Int)) hF (m := j) (fun r hr => hrg r (by omega))
    have hu := uRul_bd (g := v) (k := (k : Int)) (m := j)
    have hpb := uPen_bd (x := (k : Int)) hF hrj
    have hih := ih (j + 1) f (by omega) (by omega)
    have e1 : uRul v (k : Int) (j + 1) = if uDue v (k : Int) j < uPen v j (k : Int) then (j : Int) else uRul v (k : Int) j := rfl
    have e2 : uDue v (k : Int) (j + 1) = if uDue v (k : Int) j < uPen v j (k : Int) then uPen v j (k : Int) else uDue v (k : Int) j := rfl
    rw [e1, e2] at hih
    rw [qsX5_dueBy_run0]
    unfold sX5_dueBy_h8 sX5_dueBy_j45 sX5_dueBy_j46 sX5_dueBy_j59 sX5_dueBy_j82
    simp only [Int.toNat_natCast]
    have ei : (24 * (j : Int) + (k : Int)).toNat = 24 * j + k := by omega
    simp only [ei]
    refine zT_ltT (by omega) (zT_ix (by omega) (zT_eq (by omega) (fun c => ?_) (fun c => ?_)))
    · have hpj := hp j (by omega) (by omega) k hk
      refine zT_ix (by omega) ?_
      rw [hpj]
      refine zT_le (by omega) (fun c1 => ?_) (fun c1 => ?_)
      · rw [if_neg (by omega), if_neg (by omega)] at hih
        exact zT_eqT (by omega) (zT_eqT (by omega) (zT_let hih))
      · rw [if_pos c1, if_pos c1] at hih
        exact zT_eqF (by omega) (zT_eqF (by omega) (zT_ix (by omega) (zT_let hih)))
    · have hpe := uPen_ended (k := (k : Int)) (v := v) (r := j) (by omega)
      rw [if_neg (by omega), if_neg (by omega)] at hih
      exact zT_eqT (by omega) (zT_eqT (by omega) (zT_let hih))
theorem f_dueBy {h : zG} {m k : Nat} (hn : 24 < n) (hF : FOK v F) (hm : m ≤ 7) (hk : k < 24) (hrg : ∀ r, r < m → rgok v r) (hg : ∀ r, r < m → h 37 0 r = v 5 r 4) (hp : PREF h v m) : sX5_dueBy n (k : Int) (m : Int) h = some (uRul v (k : Int) m, h) :=
  zT_eqn (g_dueBy_run (n := n) hF hm hk hrg hg hp m 0 n (by omega) (by omega))
theorem uRul_due {k : Int} : ∀ {m : Nat}, (uRul v k m = -1 ∧ uDue v k m = 0) ∨ ∃ r : Nat, uRul v k m = (r : Int) ∧ r < m ∧ uDue v k m = uPen v r k ∧ 0 < uDue v k m := by
  intro m
  induction m with
  | zero => exact Or.inl ⟨rfl, rfl⟩
  | succ m ih =>
    have e1 : uRul v k (m + 1) = if uDue v k m < uPen v m k then (m : Int) else uRul v k m := rfl
    have e2 : uDue v k (m + 1) = if uDue v k m < uPen v m k then uPen v m k else uDue v k m := rfl
    rw [e1, e2]
    by_cases c : uDue v k m < uPen v m k
    · rw [if_pos c, if_pos c]
      refine Or.inr ⟨m, rfl, by omega, rfl, ?_⟩
      rcases ih with ⟨a, b⟩ | ⟨r, a, b, d, e⟩ <;> omega
    · rw [if_neg c, if_neg c]
      rcases ih with h | ⟨r, a, b, d⟩
      · exact Or.inl h
      · exact Or.inr ⟨r, a, by omega, d⟩
theorem f_dueOf {h : zG} {m k : Nat} (hn : 24 < n) (hF : FOK v F) (hm : m ≤ 7) (hk : k < 24) (hrg : ∀ r, r < m → rgok v r) (hg : ∀ r, r < m → h 37 0 r = v 5 r 4) (hp : PREF h v m) : sX5_dueOf n (k : Int) (m : Int) h = some (uDue v (k : Int) m, h) := by
  refine zT_eqn ?_
  unfold sX5_dueOf
  refine zT_bde (f_dueBy hn hF hm hk hrg hg hp) ?_
  rcases uRul_due (v := v) (k := (k : Int)) (m := m) with ⟨a, b⟩ | ⟨r, a, b, d, e⟩
  · rw [a, b]
    exact zT_eqT (by decide) (zT_some ⟨rfl, rfl⟩)
  · have h4 : v 5 r 4 = 0 := by
      rcases Int.lt_trichotomy (v 5 r 4) 0 with c | c | c
      · have := uPen_ended (k := (k : Int)) (v := v) (r := r) (by omega)
        omega
      · exact c
      · have := uPen_ended (k := (k : Int)) (v := v) (r := r) (by omega)
        omega
    rw [a]
    refine zT_eqF (by omega) (zT_ix (by omega) (zT_some ⟨?_, rfl⟩))
    rw [show (24 * (r : Int) + (k : Int)).toNat = 24 * r + k from by omega, hp r b h4 k hk, d]
theorem g_sumBy_run {h : zG} {m : Nat} (hn : 24 < n) (hF : FOK v F) (hF1 : h 6 0 1 = (F : Int)) (hm : m ≤ 7) (hrg : ∀ r, r < m → rgok v r) (hg : ∀ r, r < m → h 37 0 r = v 5 r 4) (hp : PREF h v m) : ∀ (d k f : Nat), k + d = F → d < f →
    zT (sX5_sumBy_run n f 0 (m : Int) (uSum (fun j => uDue v (j : Int) m) k) (k : Int) h) (fun z h' => z = uAll v F m ∧ h' = h) := by
  have h24 := hF.2.1
  intro d
  induction d with
  | zero =>
    intro k f hk hf
    obtain ⟨f, rfl⟩ : ∃ f', f = f' + 1 := ⟨f - 1, by omega⟩
    rw [qsX5_sumBy_run0]
    unfold sX5_sumBy_h9
    have hkF : k = F := by omega
    subst hkF
    exact zT_ltF (by omega) (zT_some ⟨rfl, rfl⟩)
  | succ d ih =>
    intro k f hk hf
    obtain ⟨f, rfl⟩ : ∃ f', f = f' + 1 := ⟨f - 1, by omega⟩
    rw [qsX5_sumBy_run0]
    unfold sX5_sumBy_h9
    refine zT_ltT (by omega) (zT_bde (f_dueOf hn hF hm (by omega) hrg hg hp) (zT_let (zT_let ?_)))
    exact ih (k + 1) f (by omega) (by omega)
theorem g_sumBy {h : zG} {m : Nat} (hn : 3000 < n) (hF : FOK v F) (hm : m ≤ 7) (hrg : ∀ r, r < m → rgok v r) (hr : FREF h v F) (hg : ∀ r, r < m → RREF h v r) : zT (sX5_sumBy n (m : Int) h) (fun z h' => z = uAll v F m ∧ FA h h') := by
  unfold sX5_sumBy
  refine zT_bdm (g_dealAll hn hF hm hrg hr hg) ?_
  rintro - h' ⟨b1, b2⟩
  have := g_sumBy_run (n := n) (h := h') (by omega) hF (by rw [b1 6 0 1 (by omega)]; exact hr.1) hm hrg (fun r hr => by rw [b1 37 0 r (by omega)]; exact (hg r hr).2.2.2.2) b2 F 0 n (by omega) (by have := hF.2.1; omega)
  refine zT_mono this ?_
  rintro z h2 ⟨c1, rfl⟩
  exact ⟨c1, b1⟩
end RD2

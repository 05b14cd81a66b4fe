/-! what lasts, and the questions over it -/
def sok (g : zG) (R k : Nat) : Prop := ((g 4 k 4 = -1 ∧ g 4 k 5 = -1) ∨ (g 4 k 1 ≤ g 4 k 4 ∧ 0 ≤ g 4 k 5 ∧ g 4 k 5 < (R : Int) ∧ uB g k (g 5 (g 4 k 5).toNat 0) ≠ -1 ∧ g 4 k 4 + uB g k (g 5 (g 4 k 5).toNat 0) ≤ 1440)) ∧ (g 4 k 2 = 0 → g 4 k 3 ≠ 0 → g 4 k 4 = -1)
def INV (g : zG) (F R : Nat) : Prop := FOK g F ∧ ROK g R ∧ ∀ k, k < F → sok g R k
/-- the state that lasts is the same -/
def KS (R : Nat) (g g' : zG) : Prop := ∀ k j p, (k = 1 ∨ (k = 4 ∧ p < 10) ∨ (k = 5 ∧ j < R) ∨ k = 14 ∨ k = 15 ∨ k = 17) → g' k j p = g k j p
theorem KS.rf {R : Nat} {g : zG} : KS R g g := fun _ _ _ _ => rfl
theorem KS.tr {R : Nat} {g g1 g2 : zG} (a : KS R g g1) (b : KS R g1 g2) : KS R g g2 := fun k j p c => (b k j p c).trans (a k j p c)
section KSS
variable {R F : Nat} {g g' v : zG}
theorem KS.cf (h : KS R g g') : CF g g' := fun k j p c => h k j p (by omega)
theorem KS.rg {r p : Nat} (h : KS R g g') (hr : r < R) : g' 5 r p = g 5 r p := h 5 r p (by omega)
theorem KS.f {k p : Nat} (h : KS R g g') (hp : p < 10) : g' 4 k p = g 4 k p := h 4 k p (by omega)
theorem KS.d {p : Nat} (h : KS R g g') : g' 17 0 p = g 17 0 p := h 17 0 p (by omega)
theorem FS.ks (h : FS g g') : KS R g g' := fun k j p c => h k j p (by omega)
theorem FD.ks (h : FD g g') : KS R g g' := fun k j p c => h k j p (by omega)
theorem FW.ks (h : FW R g g') : KS R g g' := fun k j p c => h k j p (by omega)
theorem uCh_cf {r : Int} {k : Nat} (h : CF g g') : uChr g' r k = uChr g r k := by
  unfold uChr uChg uDly
  rw [h.f (k := k) (p := 1) (by decide), h.f (k := k) (p := 2) (by decide), h.f (k := k) (p := 4) (by decide), h.f (k := k) (p := 5) (by decide)]
theorem uCo_cf {c w : Int} {k : Nat} (h : CF g g') : uCoi g' c w k = uCoi g c w k := by
  unfold uCoi uLed uChg uOut uDly
  rw [h.f (k := k) (p := 0) (by decide), h.f (k := k) (p := 1) (by decide), h.f (k := k) (p := 2) (by decide), h.f (k := k) (p := 4) (by decide), h.f (k := k) (p := 6) (by decide)]
theorem ROK.ks (a : ROK g R) (h : KS R g g') : ROK g' R := by
  refine ⟨by rw [h 1 1 2 (by omega)]; exact a.1, a.2.1, fun r hr => ?_⟩
  have := a.2.2 r hr
  unfold rgok at this ⊢
  rw [h.rg (p := 0) hr, h.rg (p := 1) hr, h.rg (p := 2) hr, h.rg (p := 3) hr, h.rg (p := 4) hr]
  exact this
theorem INV.ks (a : INV g F R) (h : KS R g g') : INV g' F R := by
  obtain ⟨a1, a2, a3⟩ := a
  refine ⟨a1.cf h.cf, a2.ks h, fun k hk => ?_⟩
  have s := a3 k hk
  unfold sok at s ⊢
  have c := h.cf
  rw [c.f (k := k) (p := 1) (by decide), c.f (k := k) (p := 2) (by decide), c.f (k := k) (p := 3) (by decide), c.f (k := k) (p := 4) (by decide), c.f (k := k) (p := 5) (by decide)]
  refine ⟨?_, s.2⟩
  rcases s.1 with s1 | ⟨s1, s2, s3, s4, s5⟩
  · exact Or.inl s1
  · refine Or.inr ⟨s1, s2, s3, ?_⟩
    rw [h.rg (p := 0) (show (g 4 k 5).toNat < R from by omega), c.b]
    exact ⟨s4, s5⟩
theorem CF.dep {k : Nat} (h : CF g g') : uDep g' k = uDep g k := by
  unfold uDep
  rw [h.f (k := k) (p := 1) (by decide), h.f (k := k) (p := 2) (by decide), h.f (k := k) (p := 4) (by decide), h.f (k := k) (p := 6) (by decide)]
theorem CF.tov {k : Nat} {s : Int} (h : CF g g') : uTov g' k s = uTov g k s := by
  unfold uTov
  rw [h.b, h.dep]
theorem CF.lds {k : Nat} {s : Int} (h : CF g g') : uLds g' k s = uLds g k s := by
  unfold uLds
  rw [h.b, h.f (k := k) (p := 2) (by decide)]
theorem CF.fis {k : Nat} {w : Int} (h : CF g g') : uFis g' k w = uFis g k w := by
  unfold uFis
  rw [h.dep, h.f (k := k) (p := 1) (by decide), h.f (k := k) (p := 2) (by decide), h.f (k := k) (p := 3) (by decide), h.f (k := k) (p := 4) (by decide), h.f (k := k) (p := 5) (by decide), h.f (k := k) (p := 7) (by decide), h.f (k := k) (p := 8) (by decide)]
theorem CF.load {s b w : Int} (h : CF g g') : uLoad g' F s b w = uLoad g F s b w := uSum_congr (fun k _ => by
  unfold uWin
  rw [h.lds, h.tov])
theorem CF.isd {k : Nat} {s m : Int} (h : CF g g') : uIsd g' k s m = uIsd g k s m := by
  unfold uIsd
  rw [h.lds, h.tov, h 15 k s.toNat (by omega)]
theorem CF.inside {s m : Int} (h : CF g g') : uInside g' F s m = uInside g F s m := uSum_congr (fun k _ => h.isd)
theorem uMx_congr {f f' : Nat → Int} : ∀ {n : Nat}, (∀ k, k < n → f k = f' k) → uMx f n = uMx f' n := by
  intro n
  induction n with
  | zero => intro _; rfl
  | succ n ih =>
    intro hk
    unfold uMx
    rw [ih (fun k h1 => hk k (by omega)), hk n (by omega)]
theorem CF.peak {s w : Int} (h : CF g g') : uPeak g' F s w = uPeak g F s w := uMx_congr (fun k _ => by
  unfold uPkf
  rw [h.lds, h.tov, h.load])
theorem KS.ris {r : Nat} {w : Int} (h : KS R g g') (hr : r < R) : uRis g' F r w = uRis g F r w := by
  unfold uRis
  have c := h.cf
  have e : ∀ p, g' 5 r p = g 5 r p := fun p => h.rg hr
  rw [uSc_congr e, uLF_congr c e, uLL_congr c e, uO1_congr c e, uO2_congr c e, e 3, uSum_congr (f := uChr g' (r : Int)) (h := uChr g (r : Int)) (fun k _ => uCh_cf c)]
theorem KS.slo {r : Nat} {j : Int} (h : KS R g g') (hr : r < R) : uSlo g' r j = uSlo g r j := by
  unfold uSlo uBgR
  rw [uSc_congr (fun p => h.rg hr), h.rg hr, h.rg hr]
theorem KS.pen {r : Nat} {x : Int} (h : KS R g g') (hr : r < R) : uPen g' r x = uPen g r x := uPen_congr h.cf (fun _ => h.rg hr)
theorem KS.due {x : Int} (h : KS R g g') : uDue g' x R = uDue g x R ∧ uRul g' x R = uRul g x R := uDue_congr h.cf (fun _ hr _ => h.rg hr)
theorem KS.all (h : KS R g g') : uAll g' F R = uAll g F R := uSum_congr (fun _ _ => h.due.1)
end KSS
section BD
variable {g : zG}
theorem uPeak_bd {F : Nat} {s w : Int} : 0 ≤ uPeak g F s w ∧ uPeak g F s w ≤ (F : Int) := ⟨uMx_nn, uMx_le (by omega) (fun k _ => by
  unfold uPkf
  split
  · exact (uLoad_bd).2
  · omega)⟩
theorem uSum_abs {f : Nat → Int} {m : Int} : ∀ {n : Nat}, (∀ k, k < n → -m ≤ f k ∧ f k ≤ m) → -((n : Int) * m) ≤ uSum f n ∧ uSum f n ≤ (n : Int) * m := by
  intro n
  induction n with
  | zero => intro _; simp [uSum]
  | succ n ih =>
    intro hk
    obtain ⟨a1, a2⟩ := ih (fun k h1 => hk k (by omega))
    obtain ⟨b1, b2⟩ := hk n (by omega)
    have e : ((n + 1 : Nat) : Int) * m = (n : Int) * m + m := by
      rw [Int.natCast_add, Int.add_mul]
      simp
    rw [e]
    show -((n : Int) * m + m) ≤ uSum f n + f n ∧ uSum f n + f n ≤ _
    omega
theorem uRis_in {F R r : Nat} {w : Int} (hI : INV g F R) (hr : r < R) : zIn (uRis g F r w) := by
  have h24 := hI.1.2.1
  have hrg := hI.2.1.2.2 r hr
  have hsl := uSc_le hrg
  have hfr := uFr_le (r := r) hI.1
  have l1 : (uLF g r).length ≤ 24 := Nat.le_trans uKeys_len hfr.1
  have l2 : (uLL g r).length ≤ 24 := Nat.le_trans uKeys_len hfr.1
  have n1 : 0 ≤ uNo (uO1 g r) ∧ uNo (uO1 g r) ≤ ((uO1 g r).length : Int) := uNo_bound
  have n2 : 0 ≤ uNo (uO2 g r) ∧ uNo (uO2 g r) ≤ ((uO2 g r).length : Int) := uNo_bound
  have m1 : (uO1 g r).length = (uLF g r).length := uDl_len
  have m2 : (uO2 g r).length = (uLL g r).length := uDl_len
  have hs := uSum_abs (f := uChr g (r : Int)) (m := 1440) (n := F) (fun k hk => by
    have := uChg_bd (hI.1.2.2 k hk).1
    unfold uChr
    split <;> omega)
  unfold rgok at hrg
  show -2147483648 ≤ uRis g F r w ∧ uRis g F r w ≤ 2147483647
  unfold uRis
  split
  · omega
  split
  · omega
  split
  · omega
  split
  · omega
  split
  · omega
  split <;> omega
theorem uPen_in {F R r : Nat} {x : Int} (hI : INV g F R) (hr : r < R) : zIn (uPen g r x) := by
  have := uPen_bd (x := x) hI.1 (hI.2.1.2.2 r hr)
  constructor <;> omega
theorem uDue_in {F R : Nat} {x : Int} (hI : INV g F R) : zIn (uDue g x R) := by
  have := uDue_bd (k := x) hI.1 (m := R) hI.2.1.2.2
  constructor <;> omega
theorem uAll_in {F m : Nat} (hF : FOK g F) (hr : ∀ r, r < m → rgok g r) : zIn (uAll g F m) := by
  have h24 := hF.2.1
  have := uAll_bd hF hr
  constructor <;> omega
end BD
/-! calls that don't throw, and such as are caught -/
section ZB
variable {α : Type} {P : α → zG → Prop}
theorem zT_bne {a : Option ((Nat × Int) × zG)} {f : Int → zG → Option (α × zG)} {x : Int} {g : zG} (e : a = some ((0, x), g)) (h : zT (f x g) P) : zT (zbn a f) P := by
  rw [e]
  exact h
theorem zT_bnm {a : Option ((Nat × Int) × zG)} {f : Int → zG → Option (α × zG)} {x : Int} {Q : zG → Prop} (e : zT a (fun o g => o = (0, x) ∧ Q g)) (h : ∀ g, Q g → zT (f x g) P) : zT (zbn a f) P := by
  obtain ⟨o, g, e1, rfl, q⟩ := e
  rw [e1]
  exact h g q
theorem zT_bke {c1 c2 : Nat} {v1 v2 : zG → Option (α × zG)} {a : Option ((Nat × Int) × zG)} {f : Int → zG → Option (α × zG)} {x : Int} {g : zG} (e : a = some ((0, x), g)) (h : zT (f x g) P) : zT (zbk c1 v1 c2 v2 a f) P := by
  rw [e]
  exact h
theorem zT_bk1 {c c2 : Nat} {v1 v2 : zG → Option (α × zG)} {a : Option ((Nat × Int) × zG)} {f : Int → zG → Option (α × zG)} {x : Int} {g : zG} (e : a = some ((c + 1, x), g)) (h : zT (v1 g) P) : zT (zbk (c + 1) v1 c2 v2 a f) P := by
  rw [e]
  unfold zbk
  show zT (if c + 1 = 0 then f x g else if c + 1 = c + 1 then v1 g else if c + 1 = c2 then v2 g else none) P
  rw [if_neg (by omega), if_pos rfl]
  exact h
theorem zT_bk2 {c c1 : Nat} {v1 v2 : zG → Option (α × zG)} {a : Option ((Nat × Int) × zG)} {f : Int → zG → Option (α × zG)} {x : Int} {g : zG} (e : a = some ((c + 1, x), g)) (hn : c + 1 ≠ c1) (h : zT (v2 g) P) : zT (zbk c1 v1 (c + 1) v2 a f) P := by
  rw [e]
  unfold zbk
  show zT (if c + 1 = 0 then f x g else if c + 1 = c1 then v1 g else if c + 1 = c + 1 then v2 g else none) P
  rw [if_neg (by omega), if_neg hn, if_pos rfl]
  exact h
end ZB
/-! the questions, over what lasts -/
section ASK
variable {α : Type} {P : α → zG → Prop} {f : Int → zG → Option (α × zG)} {g0 g : zG} {F R n : Nat}
theorem b_flightIs {k : Nat} {w : Int} (hI : INV g0 F R) (h : KS R g0 g) (hk : k < F) (hw : 0 ≤ w ∧ w ≤ 7) (hc : zT (f (uFis g0 k w) g) P) : zT (zbn (sX4_flightIs (k : Int) w g) f) P := by
  have h24 := hI.1.2.1
  have e := e_flightIs (x := (k : Int)) (w := w) (hI.ks h).1 (by constructor <;> omega) (by constructor <;> omega)
  rw [if_pos (by omega), if_pos hw, Int.toNat_natCast, h.cf.fis] at e
  exact zT_bne e hc
theorem b_over {k : Nat} {s : Int} (hI : INV g0 F R) (h : KS R g0 g) (hk : k < F) (hs : 0 ≤ s ∧ s < 6) (hc : zT (f (uTov g0 k s) g) P) : zT (zbn (sX4_over (k : Int) s g) f) P := by
  have h24 := hI.1.2.1
  have e := e_over (x := (k : Int)) (s := s) (hI.ks h).1 (by constructor <;> omega) (by constructor <;> omega)
  rw [if_pos (by omega), if_pos hs, Int.toNat_natCast, h.cf.tov] at e
  exact zT_bne e hc
theorem b_load {s b w : Int} (hn : 24 < n) (hI : INV g0 F R) (h : KS R g0 g) (hs : 0 ≤ s ∧ s < 6) (hb : 0 ≤ b ∧ b ≤ 2999 ∧ 1 ≤ w ∧ w ≤ 240) (hc : zT (f (uLoad g0 F s b w) g) P) : zT (zbn (sX4_load n s b w g) f) P := by
  have e := e_load (s := s) (b := b) (w := w) hn (hI.ks h).1 (by constructor <;> omega) (by constructor <;> omega) (by constructor <;> omega)
  rw [if_pos hs, if_pos hb, h.cf.load] at e
  exact zT_bne e hc
theorem b_inside {s m : Int} (hn : 24 < n) (hI : INV g0 F R) (h : KS R g0 g) (hs : 0 ≤ s ∧ s < 6) (hm : 0 ≤ m ∧ m ≤ 2999) (hc : zT (f (uInside g0 F s m) g) P) : zT (zbn (sX4_inside n s m g) f) P := by
  have e := e_inside (s := s) (m := m) hn (hI.ks h).1 (by constructor <;> omega) (by constructor <;> omega)
  rw [if_pos hs, if_pos hm, h.cf.inside] at e
  exact zT_bne e hc
theorem b_peakAnew {s w : Int} (hn : 24 < n) (hI : INV g0 F R) (h : KS R g0 g) (hs : 0 ≤ s ∧ s < 6) (hw : 1 ≤ w ∧ w ≤ 240) (hc : zT (f (uPeak g0 F s w) g) P) : zT (zbn (sX4_peakAnew n s w g) f) P := by
  have e := e_peakAnew (s := s) (w := w) hn (hI.ks h).1 (by constructor <;> omega) (by constructor <;> omega)
  rw [if_pos hs, if_pos hw, h.cf.peak] at e
  exact zT_bne e hc
theorem b_companyIs {c w : Int} (hn : 24 < n) (hI : INV g0 F R) (h : KS R g0 g) (hc0 : 0 ≤ c ∧ c < 4) (hw : 0 ≤ w ∧ w ≤ 2) (hc : zT (f (uSum (uCoi g0 c w) F) g) P) : zT (zbn (sX4_companyIs n c w g) f) P := by
  have e := e_companyIs (c := c) (w := w) hn (hI.ks h).1 (by constructor <;> omega) (by constructor <;> omega)
  rw [if_pos hc0, if_pos hw, uSum_congr (f := uCoi g c w) (h := uCoi g0 c w) (fun k _ => uCo_cf h.cf)] at e
  exact zT_bne e hc
theorem b_slot {r : Nat} {j : Int} (hI : INV g0 F R) (h : KS R g0 g) (hr : r < R) (hj : 0 ≤ j ∧ j ≤ 100000) (hc : zT (f (uSlo g0 r j) g) P) : zT (zbn (sX4_slot (r : Int) j g) f) P := by
  have h6 := hI.2.1.2.1
  have e := e_slot (x := (r : Int)) (j := j) (hI.ks h).2.1 (by constructor <;> omega) (by constructor <;> omega)
  rw [if_pos (by omega), Int.toNat_natCast, h.slo hr] at e
  exact zT_bne e hc
theorem b_peak {s w : Int} (hn : 3000 < n) (hI : INV g0 F R) (h : KS R g0 g) (hs : 0 ≤ s ∧ s < 6) (hw : 1 ≤ w ∧ w ≤ 240) (hc : ∀ g', KS R g0 g' → zT (f (uPeak g0 F s w) g') P) : zT (zbn (sX4_peak n s w g) f) P := by
  refine zT_bnm (Q := fun g' => KS R g0 g') (zT_mono (t_peak (s := s) (w := w) hn (hI.ks h).1 (by constructor <;> omega) (by constructor <;> omega)) (fun o g' a => ⟨?_, h.tr a.2.ks⟩)) hc
  rw [a.1, if_pos hs, if_pos hw, h.cf.peak]
theorem b_regulationIs {r : Nat} {w : Int} (hn : 3000 < n) (hI : INV g0 F R) (h : KS R g0 g) (hr : r < R) (hw : 0 ≤ w ∧ w ≤ 6) (hc : ∀ g', KS R g0 g' → zT (f (uRis g0 F r w) g') P) : zT (zbn (sX4_regulationIs n (r : Int) w g) f) P := by
  have h6 := hI.2.1.2.1
  refine zT_bnm (Q := fun g' => KS R g0 g') (zT_mono (t_regulationIs (x := (r : Int)) (w := w) hn (hI.ks h).1 (hI.ks h).2.1 (by constructor <;> omega) (by constructor <;> omega)) (fun o g' a => ⟨?_, h.tr a.2.ks⟩)) hc
  rw [a.1, if_pos (by omega), if_pos hw, Int.toNat_natCast, h.ris hr]
theorem b_penalty {k r : Nat} (hn : 3000 < n) (hI : INV g0 F R) (h : KS R g0 g) (hk : k < F) (hr : r < R) (hc : ∀ g', KS R g0 g' → zT (f (uPen g0 r (k : Int)) g') P) : zT (zbn (sX4_penalty n (k : Int) (r : Int) g) f) P := by
  have h6 := hI.2.1.2.1
  have h24 := hI.1.2.1
  refine zT_bnm (Q := fun g' => KS R g0 g') (zT_mono (t_penalty (x := (k : Int)) (y := (r : Int)) hn (hI.ks h).1 (hI.ks h).2.1 (by constructor <;> omega) (by constructor <;> omega)) (fun o g' a => ⟨?_, h.tr a.2.ks⟩)) hc
  rw [a.1, if_pos (by omega), Int.toNat_natCast, h.pen hr]
theorem b_due {k : Nat} (hn : 3000 < n) (hI : INV g0 F R) (h : KS R g0 g) (hk : k < F) (hc : ∀ g', KS R g0 g' → zT (f (uDue g0 (k : Int) R) g') P) : zT (zbn (sX4_due n (k : Int) g) f) P := by
  have h24 := hI.1.2.1
  refine zT_bnm (Q := fun g' => KS R g0 g') (zT_mono (t_due (x := (k : Int)) hn (hI.ks h).1 (hI.ks h).2.1 (by constructor <;> omega)) (fun o g' a => ⟨?_, h.tr a.2.ks⟩)) hc
  rw [a.1, if_pos (by omega), h.due.1]
theorem b_dueAnew {k : Nat} (hn : 3000 < n) (hI : INV g0 F R) (h : KS R g0 g) (hk : k < F) (hc : ∀ g', KS R g0 g' → zT (f (uDue g0 (k : Int) R) g') P) : zT (zbn (sX4_dueAnew n (k : Int) g) f) P := by
  have h24 := hI.1.2.1
  refine zT_bnm (Q := fun g' => KS R g0 g') (zT_mono (t_dueAnew (x := (k : Int)) hn (hI.ks h).1 (hI.ks h).2.1 (by constructor <;> omega)) (fun o g' a => ⟨?_, h.tr a.2.ks⟩)) hc
  rw [a.1, if_pos (by omega), h.due.1]
theorem b_allDue (hn : 3000 < n) (hI : INV g0 F R) (h : KS R g0 g) (hc : ∀ g', KS R g0 g' → zT (f (uAll g0 F R) g') P) : zT (zbd (sX4_allDue n g) f) P := by
  refine zT_bdm (t_allDue hn (hI.ks h).1 (hI.ks h).2.1) ?_
  rintro r g' ⟨rfl, a⟩
  rw [h.all]
  exact hc g' (h.tr a.ks)
theorem uAll_more {s a b c : Int} (h : KS R g0 g) : uAll g0 F R ≤ uAll (zRg g R s a b c) F (R + 1) := by
  unfold uAll
  refine uSum_mono (fun j _ => ?_)
  have e1 := (uDue_congr (g := g) (g' := zRg g R s a b c) (k := (j : Int)) (m := R) zRg_cf (fun r hr p => zRg_o (by omega))).1
  have e2 := (h.due (x := (j : Int))).1
  show uDue g0 (j : Int) R ≤ (if uDue (zRg g R s a b c) (j : Int) R < uPen (zRg g R s a b c) R (j : Int) then uPen (zRg g R s a b c) R (j : Int) else uDue (zRg g R s a b c) (j : Int) R)
  rw [e1, e2]
  split <;> omega
theorem b_would {s a b c : Int} (hn : 3000 < n) (hI : INV g0 F R) (h : KS R g0 g) (hs : 0 ≤ s ∧ s < 6) (ht : (0 ≤ a ∧ a ≤ 1439) ∧ (a + 1 ≤ b ∧ b ≤ 1440) ∧ (0 ≤ c ∧ c ≤ 60)) (hc : ∀ x g', uAll g0 F R ≤ x → zIn x → KS R g0 g' → zT (f x g') P) : zT (zbn (sX4_would n s a b c g) f) P := by
  have hI1 := hI.ks h
  obtain ⟨o, g', e1, rfl, a2⟩ := t_would (s := s) (a := a) (b := b) (c := c) hn hI1.1 hI1.2.1 (by constructor <;> omega) (by constructor <;> omega) (by constructor <;> omega) (by constructor <;> omega)
  rw [if_pos hs, if_pos ht] at e1
  refine zT_bne e1 (hc _ g' (uAll_more h) ?_ (h.tr a2.ks))
  refine uAll_in (hI1.1.cf zRg_cf) (fun r hr => ?_)
  by_cases cr : r = R
  · rw [cr]
    exact zRg_ok hs ht
  · have z := hI1.2.1.2.2 r (by omega)
    unfold rgok at z ⊢
    rw [zRg_o (by omega), zRg_o (by omega), zRg_o (by omega), zRg_o (by omega), zRg_o (by omega)]
    exact z
end ASK

/-! peaks by windows -/
theorem uSum_sub {f h : Nat → Int} {n : Nat} : uSum f n - uSum h n = uSum (fun k => f k - h k) n := by
  induction n with
  | zero => rfl
  | succ n ih =>
    show uSum f n + f n - (uSum h n + h n) = uSum (fun k => f k - h k) n + (f n - h n)
    rw [← ih]
    omega
theorem uSum_mono {f h : Nat → Int} {n : Nat} (hk : ∀ k, k < n → f k ≤ h k) : uSum f n ≤ uSum h n := by
  induction n with
  | zero => exact Int.le_refl 0
  | succ n ih =>
    have h1 := ih (fun k h => hk k (by omega))
    have h2 := hk n (by omega)
    show uSum f n + f n ≤ uSum h n + h n
    omega
theorem uSum_zero {f : Nat → Int} {n : Nat} (hk : ∀ k, k < n → f k = 0) : uSum f n = 0 := by
  induction n with
  | zero => rfl
  | succ n ih =>
    show uSum f n + f n = 0
    rw [ih (fun k h => hk k (by omega)), hk n (by omega)]
    rfl
/-- how many keys have a time ahead of a minute -/
def uLc : List Int → Int → Int
  | [], _ => 0
  | y :: l, m => uLc l m + (if y / 24 < m then 1 else 0)
theorem uLc_ins {x m : Int} {l : List Int} : uLc (uIns x l) m = uLc l m + (if x / 24 < m then 1 else 0) := by
  induction l with
  | nil => rfl
  | cons a l ih =>
    unfold uIns
    split
    · show uLc (uIns x l) m + _ = uLc l m + _ + _
      rw [ih]
      omega
    · rfl
theorem uLc_ks {t : Nat → Int} {m : Int} {n : Nat} (hn : n ≤ 24) : uLc (uKs t n) m = uSum (fun k => if 0 ≤ t k ∧ t k < m then 1 else 0) n := by
  induction n with
  | zero => rfl
  | succ n ih =>
    show _ = uSum (fun k => if 0 ≤ t k ∧ t k < m then 1 else 0) n + (if 0 ≤ t n ∧ t n < m then 1 else 0)
    rcases Int.lt_or_le (t n) 0 with c | c
    · rw [uKs_none c, ih (by omega), if_neg (by omega), Int.add_zero]
    · rw [uKs_some c, uLc_ins, ih (by omega), show (24 * t n + (n : Int)) / 24 = t n from by omega]
      by_cases c2 : t n < m
      · rw [if_pos c2, if_pos ⟨c, c2⟩]
      · rw [if_neg c2, if_neg (fun z => c2 z.2)]
theorem uLc_zero {m : Int} : ∀ {l : List Int}, (∀ y ∈ l, m ≤ y / 24) → uLc l m = 0 := by
  intro l
  induction l with
  | nil => intro _; rfl
  | cons a l ih =>
    intro h
    have := h a List.mem_cons_self
    show uLc l m + (if a / 24 < m then 1 else 0) = 0
    rw [ih (fun y hy => h y (List.mem_cons_of_mem _ hy)), if_neg (by omega)]
    rfl
theorem uLc_at {m : Int} : ∀ {l : List Int} {q : Nat}, uSrt l → q ≤ l.length → (∀ q' y, q' < q → l[q']? = some y → y / 24 < m) → (∀ y, l[q]? = some y → m ≤ y / 24) → uLc l m = (q : Int) := by
  intro l
  induction l with
  | nil =>
    intro q _ h _ _
    have : q = 0 := by simpa using h
    rw [this]
    rfl
  | cons a l ih =>
    intro q hs hq h1 h2
    obtain ⟨s1, s2⟩ := List.pairwise_cons.mp hs
    cases q with
    | zero =>
      have ha := h2 a rfl
      rw [uLc_zero]
      · rfl
      · intro y hy
        rcases List.mem_cons.mp hy with rfl | hy
        · exact ha
        · have := s1 y hy
          omega
    | succ q =>
      have ha := h1 0 a (by omega) rfl
      show uLc l m + (if a / 24 < m then 1 else 0) = ((q + 1 : Nat) : Int)
      rw [ih s2 (by simpa using hq) (fun q' y hq' hy => h1 (q' + 1) y (by omega) hy) (fun y hy => h2 y hy), if_pos ha]
      rfl
def uTe (g : zG) (s : Int) (k : Nat) : Int := if uLds g k s = 1 then uTov g k s else -1
theorem t_lineUpE_run {n F : Nat} {s : Int} {g0 : zG} (hn : 24 < n) (hF : FOK g0 F) (hs : 0 ≤ s ∧ s < 6) : ∀ (d k f : Nat) (g : zG), k + d = F → d < f → FL 2 g0 g → LN g 2 (uKs (uTe g0 s) k) → uNg g 2 (uKs (uTe g0 s) k).length →
    zT (sX4_lineUpEntering_run n f 0 s (k : Int) g) (fun _ g' => FL 2 g0 g' ∧ LN g' 2 (uKs (uTe g0 s) F)) := by
  obtain ⟨hF1, hF2, hF3⟩ := hF
  intro d
  induction d with
  | zero =>
    intro k f g hk hf hN h0 n0
    obtain ⟨f, rfl⟩ : ∃ f', f = f' + 1 := ⟨f - 1, by omega⟩
    have e : g 1 0 2 = (F : Int) := by rw [hN.fn.cs.n]; exact hF1
    rw [qsX4_lineUpEntering_run0]
    unfold sX4_lineUpEntering_h9
    have hkF : k = F := by omega
    subst hkF
    exact zT_ltF (by omega) (zT_some ⟨hN, h0⟩)
  | succ d ih =>
    intro k f g hk hf hN h0 n0
    obtain ⟨f, rfl⟩ : ∃ f', f = f' + 1 := ⟨f - 1, by omega⟩
    have e : g 1 0 2 = (F : Int) := by rw [hN.fn.cs.n]; exact hF1
    have hc := hN.fn.cs
    obtain ⟨hf0, hb0⟩ := hF3 k (by omega)
    have hfk := hc.fok hf0
    have hbk := hc.bok hb0
    have hT := uTov_bd hf0 hb0 hs
    have hL := uLds_bd (g := g) (k := k) (s := s)
    have el := hc.lds (k := k) (s := s)
    have et := hc.tov (k := k) (s := s)
    rw [qsX4_lineUpEntering_run0]
    unfold sX4_lineUpEntering_h9
    simp only [Int.toNat_natCast]
    refine zT_ltT (by omega) (zT_li (by omega) ?_)
    refine zT_bde (e_loads hfk hbk hs) ?_
    refine zT_eq (by omega) (fun c => ?_) (fun c => ?_)
    · refine zT_let ?_
      have ht : uTe g0 s k < 0 := by unfold uTe; rw [if_neg (by omega)]; decide
      exact ih (k + 1) f g (by omega) (by omega) hN (by rw [uKs_none ht]; exact h0) (by rw [uKs_none ht]; exact n0)
    · refine zT_bde (e_timeOver hfk hbk hs) ?_
      have h1 : uLds g0 k s = 1 := by omega
      have h2 := uTov_nn hf0 hb0 hs (uLds_one.mp h1).2
      have ht : uTe g0 s k = uTov g k s := by unfold uTe; rw [if_pos h1, et]
      rw [← ht]
      refine zT_bdm (t_addKs hn (by omega) (by omega) (fun j hj => by
        obtain ⟨a, b⟩ := hF3 j (by omega)
        have := uTov_bd a b hs
        unfold uTe
        split <;> omega) h0 n0) ?_
      rintro q g' ⟨a1, a2, a3⟩
      refine zT_let ?_
      exact ih (k + 1) f g' (by omega) (by omega) (hN.tr a2) a1 a3
theorem t_lineUpE {n F : Nat} {s : Int} {g0 : zG} (hn : 24 < n) (hF : FOK g0 F) (hs : 0 ≤ s ∧ s < 6) : zT (sX4_lineUpEntering n s g0) (fun _ g' => FL 2 g0 g' ∧ LN g' 2 (uKs (uTe g0 s) F)) := by
  unfold sX4_lineUpEntering sX2_clear
  refine zT_bd (zT_st (zT_some ?_))
  have h1 : FL 2 g0 (zup g0 3 2 4 0) := FL.up (Or.inl rfl)
  have h := t_lineUpE_run (n := n) hn (hF.cs h1.fn.cs) hs F 0 n (zup g0 3 2 4 0) (by omega) (by have := hF.2.1; omega) FL.rf ⟨by simp [zup_rd, uKeys], fun p y hy => by simp [uKeys] at hy⟩ (fun p hp => by simp [uKeys] at hp)
  refine zT_mono h ?_
  rintro - g' ⟨a1, a2⟩
  refine ⟨h1.tr a1, ?_⟩
  have e : uTe (zup g0 3 2 4 0) s = uTe g0 s := by
    funext k
    unfold uTe
    rw [h1.fn.cs.lds, h1.fn.cs.tov]
  rw [e] at a2
  exact a2
theorem uLoad_win {g : zG} {F : Nat} {s b w : Int} (hF : FOK g F) (hs : 0 ≤ s ∧ s < 6) (hw : 0 ≤ w) : uLc (uKs (uTe g s) F) (b + w) - uLc (uKs (uTe g s) F) b = uLoad g F s b w := by
  rw [uLc_ks hF.2.1, uLc_ks hF.2.1, uSum_sub]
  refine uSum_congr (fun k hk => ?_)
  obtain ⟨hf, hb⟩ := hF.2.2 k hk
  unfold uTe uWin
  by_cases c : uLds g k s = 1
  · have := uTov_nn hf hb hs (uLds_one.mp c).2
    simp only [if_pos c]
    by_cases c1 : uTov g k s < b
    · rw [if_pos (by omega), if_pos (by omega), if_neg (by omega)]
      rfl
    · by_cases c2 : uTov g k s < b + w
      · rw [if_pos (by omega), if_neg (by omega), if_pos (by omega)]
        rfl
      · rw [if_neg (by omega), if_neg (by omega), if_neg (by omega)]
        rfl
  · simp only [if_neg c]
    rw [if_neg (by omega), if_neg (by omega), if_neg (fun z => c z.1)]
    rfl
theorem t_peak_run {n F : Nat} {s w : Int} {g : zG} (hn : 24 < n) (hF : FOK g F) (hs : 0 ≤ s ∧ s < 6) (hw : 1 ≤ w ∧ w ≤ 240) {l : List Int} (hl : LN g 2 l) (el : l = uKs (uTe g s) F) : ∀ (d b f p q : Nat), b + d = 3000 → d < f → p ≤ l.length → q ≤ l.length → (∀ q' y, q' < p → l[q']? = some y → y / 24 < (b : Int)) → (∀ q' y, q' < q → l[q']? = some y → y / 24 < (b : Int) + w) →
    zT (sX4_peak_run n f 0 w (p : Int) (q : Int) (uMx (fun b => uLoad g F s (b : Int) w) b) (b : Int) g) (fun o g' => o = (0, uMx (fun b => uLoad g F s (b : Int) w) 3000) ∧ g' = g) := by
  have hlen : l.length ≤ 24 := by rw [el]; exact Nat.le_trans uKeys_len hF.2.1
  have hkb : uKb l := by
    rw [el]
    refine uKb_ks hF.2.1 (fun k hk => ?_)
    obtain ⟨a, b⟩ := hF.2.2 k hk
    have := uTov_bd a b hs
    unfold uTe
    split <;> omega
  have hsr : uSrt l := by rw [el]; exact uKs_srt hF.2.1
  intro d
  induction d with
  | zero =>
    intro b f p q hb hf hp hq h1 h2
    obtain ⟨f, rfl⟩ : ∃ f', f = f' + 1 := ⟨f - 1, by omega⟩
    rw [qsX4_peak_run0]
    unfold sX4_peak_h28
    have hb3 : b = 3000 := by omega
    subst hb3
    exact zT_leF (by omega) (zT_some ⟨rfl, rfl⟩)
  | succ d ih =>
    intro b f p q hb hf hp hq h1 h2
    obtain ⟨f, rfl⟩ : ∃ f', f = f' + 1 := ⟨f - 1, by omega⟩
    rw [qsX4_peak_run0]
    unfold sX4_peak_h28
    refine zT_leT (by omega) ?_
    refine zT_bdm (t_countAheadOf hn hl hkb hlen (by omega) hp h1) ?_
    rintro z1 g1 ⟨rfl, p', rfl, b1, b2, b3⟩
    refine zT_bdm (t_countAheadOf hn hl hkb hlen (by omega) hq h2) ?_
    rintro z2 g2 ⟨rfl, q', rfl, c1, c2, c3⟩
    have ep := uLc_at hsr b1 b2 b3
    have eq := uLc_at hsr c1 c2 c3
    have hwin := uLoad_win (b := (b : Int)) hF hs (w := w) (by omega)
    rw [← el, ep, eq] at hwin
    have hlb := uLoad_bd (g := g2) (F := F) (s := s) (b := (b : Int)) (w := w)
    have hm0 := uMx_nn (f := fun b : Nat => uLoad g2 F s (b : Int) w) (m := b)
    have hm1 := uMx_le (f := fun b : Nat => uLoad g2 F s (b : Int) w) (m := b) (b := (F : Int)) (by omega) (fun j _ => (uLoad_bd).2)
    have hF24 := hF.2.1
    refine zT_ri (by omega) (zT_ri (by omega) (zT_let (zT_let ?_)))
    rw [hwin]
    exact ih (b + 1) f p' q' (by omega) (by omega) b1 c1 (fun j y hj hy => by have := b2 j y hj hy; omega) (fun j y hj hy => by have := c2 j y hj hy; omega)
theorem uExMin {f t : Nat → Int} : ∀ {n : Nat}, (∀ k, k < n → f k ≠ 1) ∨ ∃ k, k < n ∧ f k = 1 ∧ ∀ j, j < n → f j = 1 → t k ≤ t j := by
  intro n
  induction n with
  | zero => exact Or.inl (fun k hk => by omega)
  | succ n ih =>
    by_cases c : f n = 1
    · right
      rcases ih with h | ⟨k, h1, h2, h3⟩
      · refine ⟨n, by omega, c, fun j hj hfj => ?_⟩
        by_cases cj : j = n
        · rw [cj]; omega
        · exact absurd hfj (h j (by omega))
      · by_cases ct : t k ≤ t n
        · refine ⟨k, by omega, h2, fun j hj hfj => ?_⟩
          by_cases cj : j = n
          · rw [cj]; exact ct
          · exact h3 j (by omega) hfj
        · refine ⟨n, by omega, c, fun j hj hfj => ?_⟩
          by_cases cj : j = n
          · rw [cj]; omega
          · have := h3 j (by omega) hfj
            omega
    · rcases ih with h | ⟨k, h1, h2, h3⟩
      · left
        intro k hk
        by_cases ck : k = n
        · rw [ck]; exact c
        · exact h k (by omega)
      · right
        refine ⟨k, by omega, h2, fun j hj hfj => ?_⟩
        by_cases cj : j = n
        · rw [cj] at hfj
          exact absurd hfj c
        · exact h3 j (by omega) hfj
theorem uPeak_win {g : zG} {F : Nat} {s w : Int} (hF : FOK g F) (hs : 0 ≤ s ∧ s < 6) (hw : 0 ≤ w) : uMx (fun b => uLoad g F s (b : Int) w) 3000 = uPeak g F s w := by
  refine Int.le_antisymm ?_ ?_
  · refine uMx_le uMx_nn (fun b hb => ?_)
    rcases uExMin (f := uWin g s (b : Int) w) (t := fun k => uTov g k s) (n := F) with h | ⟨k, h1, h2, h3⟩
    · have : uLoad g F s (b : Int) w = 0 := uSum_zero (fun k hk => by
        have := h k hk
        unfold uWin at this ⊢
        split
        · rename_i c
          rw [if_pos c] at this
          exact absurd rfl this
        · rfl)
      rw [this]
      exact uMx_nn
    · have hk2 : uLds g k s = 1 ∧ (b : Int) ≤ uTov g k s ∧ uTov g k s < b + w := by
        unfold uWin at h2
        split at h2
        · rename_i c; exact c
        · cases h2
      have hge := uMx_ge (f := uPkf g F s w) h1
      have e : uPkf g F s w k = uLoad g F s (uTov g k s) w := by unfold uPkf; rw [if_pos hk2.1]
      rw [e] at hge
      refine Int.le_trans (uSum_mono (fun j hj => ?_)) hge
      by_cases c : uWin g s (b : Int) w j = 1
      · have h4 := h3 j hj c
        rw [c]
        unfold uWin at c ⊢
        split at c
        · rename_i c5
          rw [if_pos ⟨c5.1, h4, by omega⟩]
          decide
        · cases c
      · have : uWin g s (b : Int) w j = 0 := by
          unfold uWin at c ⊢
          split
          · rename_i c5
            rw [if_pos c5] at c
            exact absurd rfl c
          · rfl
        rw [this]
        unfold uWin
        split <;> decide
  · refine uMx_le uMx_nn (fun k hk => ?_)
    obtain ⟨hf, hb⟩ := hF.2.2 k hk
    unfold uPkf
    split
    · rename_i c
      have h1 := uTov_nn hf hb hs (uLds_one.mp c).2
      have h2 := uTov_bd hf hb hs
      have := uMx_ge (f := fun b : Nat => uLoad g F s (b : Int) w) (m := 3000) (k := (uTov g k s).toNat) (by omega)
      rw [show (((uTov g k s).toNat : Nat) : Int) = uTov g k s from by omega] at this
      exact this
    · exact uMx_nn
theorem t_peak {n F : Nat} {s w : Int} {g : zG} (hn : 3000 < n) (hF : FOK g F) (hs : zIn s) (hw : zIn w) : zT (sX4_peak n s w g) (fun o g' => o = (if 0 ≤ s ∧ s < 6 then (if 1 ≤ w ∧ w ≤ 240 then (0, uPeak g F s w) else (2, 0)) else (1, 0)) ∧ FD g g') := by
  unfold sX4_peak
  have e1 := e_checkSector (g := g) hs
  by_cases c1 : 0 ≤ s ∧ s < 6
  · rw [if_pos c1] at e1 ⊢
    refine zT_bxe e1 ?_
    have e2 := e_checkRange (g := g) (x := w) (a := 1) (b := 240) hw (by decide) (by decide)
    by_cases c2 : 1 ≤ w ∧ w ≤ 240
    · rw [if_pos c2] at e2 ⊢
      refine zT_bxe e2 ?_
      refine zT_bdm (t_lineUpE (n := n) (by omega) hF c1) ?_
      rintro - g1 ⟨a1, a2⟩
      have hcs := a1.fn.cs
      have hF1 := hF.cs hcs
      have ete : uTe g1 s = uTe g s := by
        funext k
        unfold uTe
        rw [hcs.lds, hcs.tov]
      have := t_peak_run (n := n) (F := F) (s := s) (w := w) (g := g1) (by omega) hF1 c1 c2 (l := uKs (uTe g s) F) a2 (by rw [ete]) 3000 0 n 0 0 (by omega) (by omega) (Nat.zero_le _) (Nat.zero_le _) (fun q' y h => by omega) (fun q' y h => by omega)
      refine zT_mono this ?_
      rintro o g2 ⟨b1, rfl⟩
      refine ⟨?_, a1.fn.fd⟩
      rw [b1, uPeak_win hF1 c1 (by omega)]
      have : uPeak g2 F s w = uPeak g F s w := by
        have e3 : ∀ b, uLoad g2 F s b w = uLoad g F s b w := by
          intro b
          refine uSum_congr (fun k hk => ?_)
          unfold uWin
          rw [hcs.lds, hcs.tov]
        have e4 : uPkf g2 F s w = uPkf g F s w := by
          funext k
          unfold uPkf
          rw [hcs.lds, hcs.tov, e3]
        unfold uPeak
        rw [e4]
      rw [this]
    · rw [if_neg c2] at e2 ⊢
      exact zT_bxt e2 ⟨rfl, FD.rf⟩
  · rw [if_neg c1] at e1 ⊢
    exact zT_bxt e1 ⟨rfl, FD.rf⟩
/-! what is asked of the regulations -/
def uRis (g : zG) (F r : Nat) (w : Int) : Int := if w = 0 then (uSc g r : Int) else if w = 1 then (uSc g r : Int) - (((uLF g r).length : Int) - uNo (uO1 g r)) - (((uLL g r).length : Int) - uNo (uO2 g r)) else if w = 2 then ((uLF g r).length : Int) else if w = 3 then ((uLL g r).length : Int) else if w = 4 then uNo (uO2 g r) else if w = 5 then g 5 r 3 else uSum (uChr g (r : Int)) F
theorem t_regulationIs {n F R : Nat} {x w : Int} {g : zG} (hn : 3000 < n) (hF : FOK g F) (hR : ROK g R) (hx : zIn x) (hw : zIn w) : zT (sX4_regulationIs n x w g) (fun o g' => o = (if 0 ≤ x ∧ x < (R : Int) then (if 0 ≤ w ∧ w ≤ 6 then (0, uRis g F x.toNat w) else (2, 0)) else (1, 0)) ∧ FD g g') := by
  unfold sX4_regulationIs
  have e1 := e_regulationAt hR.1 hR.2.1 hx
  have hR6 := hR.2.1
  by_cases c1 : 0 ≤ x ∧ x < (R : Int)
  · rw [if_pos c1] at e1 ⊢
    refine zT_bxe e1 ?_
    have e2 := e_checkRange (g := g) (x := w) (a := 0) (b := 6) hw (by decide) (by decide)
    by_cases c2 : 0 ≤ w ∧ w ≤ 6
    · rw [if_pos c2] at e2 ⊢
      refine zT_bxe e2 ?_
      refine zT_bdm (t_dealOut hn hF (hR.2.2 x.toNat (by omega))) ?_
      rintro - g1 ⟨a1, a2, a3, a4, a5, a6, -⟩
      have hc := a1.cs
      have ech := e_charged (n := n) (g := g1) (r := x) (by omega) (hF.cs hc) (by omega)
      have e5 : uSum (uChr g1 x) F = uSum (uChr g ((x.toNat : Nat) : Int)) F := by
        refine uSum_congr (fun k hk => ?_)
        unfold uChr uChg uDly
        rw [hc.f (k := k) (p := 5) (by decide), hc.f (k := k) (p := 4) (by decide), hc.f (k := k) (p := 2) (by decide), hc.f (k := k) (p := 1) (by decide), show ((x.toNat : Nat) : Int) = x from by omega]
      repeat' first
        | (refine zT_bde ech ?_)
        | (with_reducible refine zT_ltT ?_ ?_; · omega)
        | (with_reducible refine zT_ltF ?_ ?_; · omega)
        | (with_reducible refine zT_lt ?_ (fun _ => ?_) (fun _ => ?_); · omega)
        | (with_reducible refine zT_leT ?_ ?_; · omega)
        | (with_reducible refine zT_leF ?_ ?_; · omega)
        | (with_reducible refine zT_le ?_ (fun _ => ?_) (fun _ => ?_); · omega)
        | (with_reducible refine zT_eqT ?_ ?_; · omega)
        | (with_reducible refine zT_eqF ?_ ?_; · omega)
        | (with_reducible refine zT_eq ?_ (fun _ => ?_) (fun _ => ?_); · omega)
        | (with_reducible refine zT_ix ?_ ?_; · omega)
        | (with_reducible refine zT_li ?_ ?_; · omega)
        | (with_reducible refine zT_bo ?_ ?_; · omega)
        | (with_reducible refine zT_ri ?_ ?_; · omega)
        | (with_reducible refine zT_dv ?_ ?_; · omega)
        | (with_reducible refine zT_let ?_)
      all_goals refine zT_some ⟨?_, a1⟩
      all_goals unfold uRis
      · rw [if_pos (by omega), a2]
      · rw [if_neg (by omega), if_pos (by omega), a6]
      · rw [if_neg (by omega), if_neg (by omega), if_pos (by omega), a3]
      · rw [if_neg (by omega), if_neg (by omega), if_neg (by omega), if_pos (by omega), a4]
      · rw [if_neg (by omega), if_neg (by omega), if_neg (by omega), if_neg (by omega), if_pos (by omega), a5]
      · rw [if_neg (by omega), if_neg (by omega), if_neg (by omega), if_neg (by omega), if_neg (by omega), if_pos (by omega), hc.g5]
      · rw [if_neg (by omega), if_neg (by omega), if_neg (by omega), if_neg (by omega), if_neg (by omega), if_neg (by omega), e5]
    · rw [if_neg c2] at e2 ⊢
      exact zT_bxt e2 ⟨rfl, FD.rf⟩
  · rw [if_neg c1] at e1 ⊢
    exact zT_bxt e1 ⟨rfl, FD.rf⟩
def uSlo (g : zG) (r : Nat) (j : Int) : Int := if j < (uSc g r : Int) then uBgR g r j.toNat else -1
theorem e_slot {R : Nat} {x j : Int} {g : zG} (hR : ROK g R) (hx : zIn x) (hj : zIn j) : sX4_slot x j g = some (if 0 ≤ x ∧ x < (R : Int) ∧ 0 ≤ j then (0, uSlo g x.toNat j) else (1, 0), g) := by
  refine zT_eqn ?_
  unfold sX4_slot
  have e1 := e_regulationAt hR.1 hR.2.1 hx
  by_cases c1 : 0 ≤ x ∧ x < (R : Int)
  · rw [if_pos c1] at e1
    refine zT_bxe e1 ?_
    have hr := hR.2.2 x.toNat (by omega)
    have hsl := uSc_le hr
    refine zT_lt (by omega) (fun c => ?_) (fun c => ?_)
    · exact zT_some ⟨by rw [if_neg (by omega)], rfl⟩
    · refine zT_bde (e_slotCount hr) ?_
      rw [if_pos (by omega)]
      refine zT_lt (by omega) (fun d => ?_) (fun d => ?_)
      · have hp := uSc_pos hr (by omega)
        refine zT_bde (e_slotBegin hr hp.1 (by omega)) (zT_some ⟨?_, rfl⟩)
        unfold uSlo
        rw [if_pos d]
        rfl
      · refine zT_some ⟨?_, rfl⟩
        unfold uSlo
        rw [if_neg (by omega)]
  · rw [if_neg c1] at e1
    exact zT_bxt e1 ⟨by rw [if_neg (by omega)], rfl⟩
theorem t_penalty {n F R : Nat} {x y : Int} {g : zG} (hn : 3000 < n) (hF : FOK g F) (hR : ROK g R) (hx : zIn x) (hy : zIn y) : zT (sX4_penalty n x y g) (fun o g' => o = (if (0 ≤ x ∧ x < (F : Int)) ∧ (0 ≤ y ∧ y < (R : Int)) then (0, uPen g y.toNat x) else (1, 0)) ∧ FD g g') := by
  unfold sX4_penalty
  have e1 := e_flightAt hF hx
  have hF24 := hF.2.1
  by_cases c1 : 0 ≤ x ∧ x < (F : Int)
  · rw [if_pos c1] at e1
    refine zT_bxe e1 ?_
    have e2 := e_regulationAt (g := g) hR.1 hR.2.1 hy
    by_cases c2 : 0 ≤ y ∧ y < (R : Int)
    · rw [if_pos c2] at e2
      refine zT_bxe e2 ?_
      refine zT_bdm (t_dealOut hn hF (hR.2.2 y.toNat (by omega))) ?_
      rintro - g1 ⟨a1, -, -, -, -, -, a7⟩
      refine zT_bde (a7 g1 (fun _ _ _ _ => rfl) x (by omega) (by omega)) (zT_some ⟨?_, a1⟩)
      rw [if_pos ⟨c1, c2⟩]
    · rw [if_neg c2] at e2
      exact zT_bxt e2 ⟨by rw [if_neg (fun z => c2 z.2)], FD.rf⟩
  · rw [if_neg c1] at e1
    exact zT_bxt e1 ⟨by rw [if_neg (fun z => c1 z.1)], FD.rf⟩
/-! what one more would do -/
/-- but what a reckoning writes and regulation R nothing has changed -/
def FW (R : Nat) (g g' : zG) : Prop := ∀ k j p, ¬ (k = 2 ∨ k = 3 ∨ (10 ≤ k ∧ k ≤ 13) ∨ (k = 4 ∧ 10 ≤ p) ∨ (k = 5 ∧ j = R)) → g' k j p = g k j p
theorem zRg_o {g : zG} {n : Nat} {a b c d : Int} {k j p : Nat} (h : ¬ (k = 5 ∧ j = n)) : zRg g n a b c d k j p = g k j p := by
  unfold zRg
  by_cases c1 : j = n
  · rw [if_pos c1, if_neg (fun z => h ⟨z, c1⟩)]
  · rw [if_neg c1]
theorem zRg_cf {g : zG} {n : Nat} {a b c d : Int} : CF g (zRg g n a b c d) := fun k j p h => zRg_o (by omega)
theorem zRg_ok {g : zG} {n : Nat} {s a b c : Int} (hs : 0 ≤ s ∧ s < 6) (h : (0 ≤ a ∧ a ≤ 1439) ∧ (a + 1 ≤ b ∧ b ≤ 1440) ∧ (0 ≤ c ∧ c ≤ 60)) : rgok (zRg g n s a b c) n := by
  unfold rgok zRg
  simp
  omega
theorem FOK.cf {g g' : zG} {F : Nat} (h : FOK g F) (c : CF g g') : FOK g' F := by
  refine ⟨by rw [c 1 0 2 (Or.inl ⟨rfl, rfl⟩)]; exact h.1, h.2.1, fun k hk => ?_⟩
  obtain ⟨h1, h2⟩ := h.2.2 k hk
  refine ⟨?_, fun s a b => ?_⟩
  · unfold flok at h1 ⊢
    rw [c.f (k := k) (p := 0) (by decide), c.f (k := k) (p := 1) (by decide), c.f (k := k) (p := 2) (by decide), c.f (k := k) (p := 3) (by decide), c.f (k := k) (p := 4) (by decide), c.f (k := k) (p := 5) (by decide), c.f (k := k) (p := 6) (by decide), c.f (k := k) (p := 7) (by decide), c.f (k := k) (p := 8) (by decide), c.f (k := k) (p := 9) (by decide)]
    exact h1
  · rw [c 14 k s.toNat (by omega), c 15 k s.toNat (by omega)]
    exact h2 s a b
theorem t_would {n F R : Nat} {s a b c : Int} {g : zG} (hn : 3000 < n) (hF : FOK g F) (hR : ROK g R) (hs : zIn s) (ha : zIn a) (hb : zIn b) (hc : zIn c) :
    zT (sX4_would n s a b c g) (fun o g' => o = (if 0 ≤ s ∧ s < 6 then (if (0 ≤ a ∧ a ≤ 1439) ∧ (a + 1 ≤ b ∧ b ≤ 1440) ∧ (0 ≤ c ∧ c ≤ 60) then (0, uAll (zRg g R s a b c) F (R + 1)) else (2, 0)) else (1, 0)) ∧ FW R g g') := by
  unfold sX4_would
  have e1 := e_checkSector (g := g) hs
  have hR6 := hR.2.1
  by_cases c1 : 0 ≤ s ∧ s < 6
  · rw [if_pos c1] at e1 ⊢
    refine zT_bxe e1 ?_
    have e2 := e_checkTerm (g := g) ha hb hc
    by_cases c2 : (0 ≤ a ∧ a ≤ 1439) ∧ (a + 1 ≤ b ∧ b ≤ 1440) ∧ (0 ≤ c ∧ c ≤ 60)
    · rw [if_pos c2] at e2 ⊢
      refine zT_bxe e2 ?_
      refine zT_bdm (t_reckonDues hn hF hR) ?_
      rintro - g1 ⟨a1, a2⟩
      have hcs := a1.cs
      have hR1 : g1 1 1 2 = (R : Int) := by rw [hcs.n]; exact hR.1
      unfold zWdT
      rw [if_pos (by omega), hR1, Int.toNat_natCast]
      have hF2 : FOK (zRg g1 R s a b c) F := (hF.cs hcs).cf zRg_cf
      have e12 : ∀ j p, zRg g1 R s a b c 4 j p = g1 4 j p := fun j p => zRg_o (by omega)
      refine zT_bdm (t_reckonPen (n := n) (num := (R : Int)) hn hF2 (zRg_ok c1 c2) (fun k hk => by
        rw [e12, (a2 k hk).1]
        exact uDue_bd hF (fun r hr => hR.2.2 r hr))) ?_
      rintro - g3 ⟨b1, b2⟩
      refine zT_bde (e_sumOfDues (by omega) (hF2.cs b1.cs)) (zT_some ⟨?_, fun k j p h => ?_⟩)
      · congr 1
        refine uSum_congr (fun k hk => ?_)
        rw [(b2 k hk).1, e12, (a2 k hk).1]
        have h3 : uPen (zRg g1 R s a b c) R (k : Int) = uPen (zRg g R s a b c) R (k : Int) := by
          refine uPen_congr (fun x j p hx => ?_) (fun p => ?_)
          · rw [zRg_o (by omega), zRg_o (by omega)]
            exact hcs x j p (by omega)
          · unfold zRg
            simp
        have h4 := (uDue_congr (k := (k : Int)) (m := R) (zRg_cf (g := g) (n := R) (a := s) (b := a) (c := b) (d := c)) (fun r hr p => zRg_o (by omega))).1
        show _ = (if uDue (zRg g R s a b c) (k : Int) R < uPen (zRg g R s a b c) R (k : Int) then uPen (zRg g R s a b c) R (k : Int) else uDue (zRg g R s a b c) (k : Int) R)
        rw [h3, h4]
      · rw [b1 k j p (by omega), zRg_o (by omega)]
        exact a1 k j p (by omega)
    · rw [if_neg c2] at e2 ⊢
      exact zT_bxt e2 ⟨rfl, fun _ _ _ _ => rfl⟩
  · rw [if_neg c1] at e1 ⊢
    exact zT_bxt e1 ⟨rfl, fun _ _ _ _ => rfl⟩

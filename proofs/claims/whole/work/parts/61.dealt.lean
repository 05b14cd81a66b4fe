/-! the reference's dealing -/
section RD
variable {h v : zG} {F n r : Nat}
theorem uNo_cons {o : Option Nat} {l : List (Option Nat)} : uNo (o :: l) = uN1 o + uNo l := by
  cases o with
  | none => exact Int.add_comm (uNo l) 1
  | some j => exact (Int.zero_add (uNo l)).symm
def uTx (v : zG) (r : Nat) (x : Int) : Nat → Int := if x = 0 then uTl v r else uTf v r
theorem uTx_bd {x : Int} {k : Nat} (hrg : rgok v r) : -1 ≤ uTx v r x k ∧ uTx v r x k < 1440 := by
  unfold uTx
  split
  · exact uTl_bd hrg
  · exact uTf_bd hrg
theorem f_timeOf2 {k : Nat} {x : Int} (hk : k < F) (hF : FOK v F) (hr : FREF h v F) (hg : RREF h v r) (hr7 : r < 7) (hrg : rgok v r) (hx : x = 0 ∨ x = 1) : sX5_timeOf (r : Int) (k : Int) x h = some (uTx v r x k, h) := by
  rw [f_timeOf hk hF hr hg hr7 hrg hx]
  unfold uTx
  split <;> rfl
/-- the found one is the first behind the key, of the first j -/
def uFnd (t : Nat → Int) (key : Int) (j : Nat) (z : Int) : Prop := (z = -1 ∧ ∀ k, k < j → 0 ≤ t k → 24 * t k + (k : Int) ≤ key) ∨ ∃ f : Nat, z = (f : Int) ∧ f < j ∧ 0 ≤ t f ∧ key < 24 * t f + (f : Int) ∧ ∀ k, k < j → 0 ≤ t k → key < 24 * t k + (k : Int) → 24 * t f + (f : Int) ≤ 24 * t k + (k : Int)
theorem g_nextOf_run {x key : Int} (hF : FOK v F) (hr : FREF h v F) (hg : RREF h v r) (hr7 : r < 7) (hrg : rgok v r) (hx : x = 0 ∨ x = 1) (hkey : -1 ≤ key ∧ key ≤ 100000) : ∀ (d j f : Nat) (z : Int), j + d = F → d < f → uFnd (uTx v r x) key j z →
    zT (sX5_nextOf_run n f 0 (r : Int) key x z (j : Int) h) (fun z' h' => h' = h ∧ uFnd (uTx v r x) key F z') := by
  have hr1 := hr.1
  have h24 := hF.2.1
  intro d
  induction d with
  | zero =>
    intro j f z hj hf hz
    obtain ⟨f, rfl⟩ : ∃ f', f = f' + 1 := ⟨f - 1, by omega⟩
    rw [qsX5_nextOf_run0]
    unfold sX5_nextOf_h6
    have hjF : j = F := by omega
    subst hjF
    exact zT_ltF (by omega) (zT_some ⟨rfl, hz⟩)
  | succ d ih =>
    intro j f z hj hf hz
    obtain ⟨f, rfl⟩ : ∃ f', f = f' + 1 := ⟨f - 1, by omega⟩
    have hb := uTx_bd (x := x) (k := j) hrg
    have hzb : -1 ≤ z ∧ z < 24 := by
      rcases hz with ⟨a, -⟩ | ⟨g, a, b, -⟩ <;> omega
    have hnot : (0 ≤ uTx v r x j → 24 * uTx v r x j + (j : Int) ≤ key) → uFnd (uTx v r x) key (j + 1) z := by
      intro hn
      rcases hz with ⟨a, b⟩ | ⟨g, a, b, c, e, i⟩
      · refine Or.inl ⟨a, fun k hk ht => ?_⟩
        by_cases ck : k = j
        · rw [ck] at ht ⊢; exact hn ht
        · exact b k (by omega) ht
      · refine Or.inr ⟨g, a, by omega, c, e, fun k hk ht hkk => ?_⟩
        by_cases ck : k = j
        · rw [ck] at ht hkk
          have := hn ht
          omega
        · exact i k (by omega) ht hkk
    rw [qsX5_nextOf_run0]
    unfold sX5_nextOf_h6 sX5_nextOf_j47 sX5_nextOf_j48 sX5_nextOf_j74 sX5_nextOf_j79 sX5_nextOf_j81
    refine zT_ltT (by omega) (zT_bde (f_timeOf2 (by omega) hF hr hg hr7 hrg hx) ?_)
    refine zT_eq (by omega) (fun c => ?_) (fun c => ?_)
    · refine zT_eqT (by omega) (zT_let ?_)
      exact ih (j + 1) f z (by omega) (by omega) (hnot (fun ht => by omega))
    · refine zT_le (by omega) (fun c1 => ?_) (fun c1 => ?_)
      · refine zT_eqT (by omega) (zT_let ?_)
        exact ih (j + 1) f z (by omega) (by omega) (hnot (fun ht => c1))
      · refine zT_eqF (by omega) ?_
        refine zT_eq (by omega) (fun c2 => ?_) (fun c2 => ?_)
        · refine zT_let ?_
          refine ih (j + 1) f (j : Int) (by omega) (by omega) (Or.inr ⟨j, rfl, by omega, by omega, by omega, fun k hk ht hkk => ?_⟩)
          by_cases ck : k = j
          · rw [ck]; omega
          · rcases hz with ⟨a, b⟩ | ⟨g, a, b, e, i, l⟩
            · have := b k (by omega) ht
              omega
            · omega
        · rcases hz with ⟨a, b⟩ | ⟨g, rfl, b, e, i, l⟩
          · exact absurd a c2
          · refine zT_bde (f_timeOf2 (by omega) hF hr hg hr7 hrg hx) ?_
            have hbg := uTx_bd (x := x) (k := g) hrg
            refine zT_lt (by omega) (fun c3 => ?_) (fun c3 => ?_)
            · refine zT_let ?_
              refine ih (j + 1) f (j : Int) (by omega) (by omega) (Or.inr ⟨j, rfl, by omega, by omega, by omega, fun k hk ht hkk => ?_⟩)
              by_cases ck : k = j
              · rw [ck]; omega
              · have := l k (by omega) ht hkk
                omega
            · refine zT_let ?_
              refine ih (j + 1) f (g : Int) (by omega) (by omega) (Or.inr ⟨g, rfl, by omega, e, i, fun k hk ht hkk => ?_⟩)
              by_cases ck : k = j
              · rw [ck]; omega
              · exact l k (by omega) ht hkk
def uHd (l : List Int) : Int := match l with
  | [] => -1
  | y :: _ => y % 24
/-- the next one along the sorted row -/
theorem f_nextOf {x key : Int} {pre rest : List Int} (hn : 24 < n) (hF : FOK v F) (hr : FREF h v F) (hg : RREF h v r) (hr7 : r < 7) (hrg : rgok v r) (hx : x = 0 ∨ x = 1) (hkey : -1 ≤ key ∧ key ≤ 100000) (hl : uKs (uTx v r x) F = pre ++ rest) (h1 : ∀ y ∈ pre, y ≤ key) (h2 : ∀ y ∈ rest, key < y) : sX5_nextOf n (r : Int) key x h = some (uHd rest, h) := by
  refine zT_eqn ?_
  have h24 := hF.2.1
  have hrun := g_nextOf_run (n := n) hF hr hg hr7 hrg hx hkey F 0 n (-1) (by omega) (by omega) (Or.inl ⟨rfl, fun k hk => by omega⟩)
  refine zT_mono hrun ?_
  rintro z h' ⟨rfl, hz⟩
  refine ⟨?_, rfl⟩
  have hsr : uSrt (pre ++ rest) := by rw [← hl]; exact uKs_srt h24
  have hmem := fun y => (uKs_mem (t := uTx v r x) (n := F) h24 (y := y))
  rw [hl] at hmem
  cases rest with
  | nil =>
    rcases hz with ⟨a, b⟩ | ⟨g, a, b, c, e, i⟩
    · exact a
    · have := h1 (24 * uTx v r x g + (g : Int)) (by
        have := (hmem (24 * uTx v r x g + (g : Int))).mpr ⟨g, b, c, rfl, by omega, by omega⟩
        simpa using this)
      omega
  | cons y rest =>
    obtain ⟨k, k1, k2, k3, k4, k5⟩ := (hmem y).mp (by simp)
    have hky := h2 y List.mem_cons_self
    show z = y % 24
    rcases hz with ⟨a, b⟩ | ⟨g, a, b, c, e, i⟩
    · have := b k k1 k2
      omega
    · have h3 := i k k1 k2 (by omega)
      have h4 := (hmem (24 * uTx v r x g + (g : Int))).mpr ⟨g, b, c, rfl, by omega, by omega⟩
      have h5 : y ≤ 24 * uTx v r x g + (g : Int) := by
        rcases List.mem_append.mp h4 with h4 | h4
        · have := h1 _ h4
          omega
        · rcases List.mem_cons.mp h4 with h4 | h4
          · omega
          · have := (List.pairwise_cons.mp (List.pairwise_append.mp hsr).2.1).1 _ h4
            omega
      omega
theorem f_begin {j : Int} (hg : RREF h v r) (hr7 : r < 7) (hrg : rgok v r) (hp : 0 < v 5 r 3) (hj : 0 ≤ j ∧ j ≤ 1441) : sX5_begin (r : Int) j h = some (uBgR v r j.toNat, h) := by
  obtain ⟨g0, g1, g2, g3, -⟩ := hg
  unfold rgok at hrg
  refine zT_eqn ?_
  unfold sX5_begin
  simp only [Int.toNat_natCast]
  repeat' first
    | (with_reducible refine zT_ltT ?_ ?_; · omega)
    | (with_reducible refine zT_ltF ?_ ?_; · omega)
    | (with_reducible refine zT_lt ?_ (fun _ => ?_) (fun _ => ?_); · omega)
    | (with_reducible refine zT_leT ?_ ?_; · omega)
    | (with_reducible refine zT_leF ?_ ?_; · omega)
    | (with_reducible refine zT_le ?_ (fun _ => ?_) (fun _ => ?_); · omega)
    | (with_reducible refine zT_eqT ?_ ?_; · omega)
    | (with_reducible refine zT_eqF ?_ ?_; · omega)
    | (with_reducible refine zT_eq ?_ (fun _ => ?_) (fun _ => ?_); · omega)
    | (with_reducible refine zT_ix ?_ ?_; · omega)
    | (with_reducible refine zT_li ?_ ?_; · omega)
    | (with_reducible refine zT_bo ?_ ?_; · omega)
    | (with_reducible refine zT_ri ?_ ?_; · omega)
    | (with_reducible refine zT_dv ?_ ?_; · omega)
    | (with_reducible refine zT_let ?_)
  refine zT_some ⟨?_, rfl⟩
  rw [g1, g3]
  exact uBg_tdiv hj.1
theorem f_ending {j : Nat} (hg : RREF h v r) (hr7 : r < 7) (hrg : rgok v r) (hS : h 6 0 24 = (uSc v r : Int)) (hj : j < uSc v r) : sX5_ending (r : Int) (j : Int) h = some (uEnR v r j, h) := by
  have hsl := uSc_le hrg
  obtain ⟨hp, hp4⟩ := uSc_pos hrg (by omega)
  have e := uEn_ref (fr := v 5 r 1) (to := v 5 r 2) (rt := v 5 r 3) hp (j := j)
  have eS : uSc v r = uS (v 5 r 1) (v 5 r 2) (v 5 r 3) := by unfold uSc; rw [if_pos hp4]
  refine zT_eqn ?_
  unfold sX5_ending
  simp only [Int.toNat_natCast]
  refine zT_lt (by omega) (fun c => ?_) (fun c => ?_)
  · refine zT_bde (f_begin hg hr7 hrg hp (by omega)) (zT_some ⟨?_, rfl⟩)
    unfold uEnR
    rw [← e, if_pos (by omega)]
    unfold uBgR
    rw [show ((j : Int) + 1).toNat = j + 1 from by omega]
  · refine zT_ix (by omega) (zT_some ⟨?_, rfl⟩)
    unfold uEnR
    rw [← e, if_neg (by omega)]
    exact hg.2.2.1
/-- the rows of slots that are taken -/
def uTak (h : zG) (S : Nat) (T : Nat → Bool) : Prop := ∀ j, j < S → h 40 0 j = if T j = true then 1 else 0
def uTaken (h : zG) (o : Option Nat) : zG := match o with
  | none => h
  | some j => zup (zup h 40 0 j 1) 6 0 25 (h 6 0 25 - 1)
theorem g_takes_run {t : Int} {T : Nat → Bool} (hg : RREF h v r) (hr7 : r < 7) (hrg : rgok v r) (hS : h 6 0 24 = (uSc v r : Int)) (hT : uTak h (uSc v r) T) (ht : -1 ≤ t ∧ t ≤ 3000) : ∀ (d j f : Nat), j + d = uSc v r → d < f →
    zT (sX5_takes_run n f 0 (r : Int) t (j : Int) h) (fun z h' => z = uOi (uTk (uEnR v r) T t d j) ∧ h' = uTaken h (uTk (uEnR v r) T t d j)) := by
  have hsl := uSc_le hrg
  have hrg2 := hrg
  unfold rgok at hrg2
  intro d
  induction d with
  | zero =>
    intro j f hj hf
    obtain ⟨f, rfl⟩ : ∃ f', f = f' + 1 := ⟨f - 1, by omega⟩
    rw [qsX5_takes_run0]
    unfold sX5_takes_h2
    exact zT_ltF (by omega) (zT_some ⟨rfl, rfl⟩)
  | succ d ih =>
    intro j f hj hf
    obtain ⟨f, rfl⟩ : ∃ f', f = f' + 1 := ⟨f - 1, by omega⟩
    have hTj := hT j (by omega)
    have hih := ih (j + 1) f (by omega) (by omega)
    have e : uTk (uEnR v r) T t (d + 1) j = if T j = false ∧ t < uEnR v r j then some j else uTk (uEnR v r) T t d (j + 1) := rfl
    have hen : -100 ≤ uEnR v r j ∧ uEnR v r j ≤ 1440 := by
      obtain ⟨hp, hp4⟩ := uSc_pos hrg (by omega)
      have := uBg_ge (fr := v 5 r 1) (rt := v 5 r 3) hp (j := j + 1)
      unfold uEnR uEn
      omega
    rw [e]
    rw [qsX5_takes_run0]
    unfold sX5_takes_h2
    simp only [Int.toNat_natCast]
    refine zT_ltT (by omega) (zT_ix (by omega) ?_)
    cases hc : T j with
    | true =>
      rw [hc, if_pos rfl] at hTj
      refine zT_eqF (by omega) (zT_let ?_)
      rw [if_neg (fun z => by cases z.1)]
      exact hih
    | false =>
      rw [hc, if_neg (by decide)] at hTj
      refine zT_eqT (by omega) (zT_bde (f_ending hg hr7 hrg hS (by omega)) ?_)
      refine zT_le (by omega) (fun c => ?_) (fun c => ?_)
      · refine zT_let ?_
        rw [if_neg (fun z => by omega)]
        exact hih
      · rw [if_pos ⟨rfl, c⟩]
        refine zT_bo (by omega) (zT_ix (by omega) (zT_st (zT_st (zT_some ⟨rfl, ?_⟩))))
        simp [uTaken, zup_rd]
theorem g_takes {t : Int} {T : Nat → Bool} (hn : 3000 < n) (hg : RREF h v r) (hr7 : r < 7) (hrg : rgok v r) (hS : h 6 0 24 = (uSc v r : Int)) (hT : uTak h (uSc v r) T) (ht : -1 ≤ t ∧ t ≤ 3000) : sX5_takes n (r : Int) t h = some (uOi (uTk (uEnR v r) T t (uSc v r) 0), uTaken h (uTk (uEnR v r) T t (uSc v r) 0)) := by
  have hsl := uSc_le hrg
  exact zT_eqn (g_takes_run (n := n) hg hr7 hrg hS hT ht (uSc v r) 0 n (by omega) (by omega))
/-- but what a dealing of regulation r writes nothing has changed -/
def FM (r : Nat) (h h' : zG) : Prop := ∀ k j p, ¬ ((k = 6 ∧ j = 0 ∧ 24 ≤ p) ∨ k = 40 ∨ (k = 41 ∧ j = 0 ∧ 24 * r ≤ p ∧ p < 24 * r + 24)) → h' k j p = h k j p
theorem FM.rf : FM r h h := fun _ _ _ _ => rfl
theorem FM.tr {h1 h2 : zG} (a : FM r h h1) (b : FM r h1 h2) : FM r h h2 := fun k j p c => (b k j p c).trans (a k j p c)
theorem FM.cm {h' : zG} (a : FM r h h') : CM h h' := fun k j p c => a k j p (by omega)
theorem FM.up6 {p : Nat} {x : Int} (hp : 24 ≤ p) : FM r h (zup h 6 0 p x) := fun a b c hc => by rw [zup_rd, if_neg (fun z => by omega)]
theorem FM.up40 {p : Nat} {x : Int} : FM r h (zup h 40 0 p x) := fun a b c hc => by rw [zup_rd, if_neg (fun z => by omega)]
theorem FM.up41 {p : Nat} {x : Int} (hp : 24 * r ≤ p ∧ p < 24 * r + 24) : FM r h (zup h 41 0 p x) := fun a b c hc => by rw [zup_rd, if_neg (fun z => by omega)]
theorem FM.tk {o : Option Nat} : FM r h (uTaken h o) := by
  cases o with
  | none => exact FM.rf
  | some j => exact FM.up40.tr (FM.up6 (by decide))
theorem uTak.tk {S : Nat} {T : Nat → Bool} {o : Option Nat} (hT : uTak h S T) : uTak (uTaken h o) S (uPut T o) := by
  cases o with
  | none => exact hT
  | some i =>
    intro j hj
    have := hT j hj
    show zup (zup h 40 0 i 1) 6 0 25 (h 6 0 25 - 1) 40 0 j = if (j == i || T j) = true then 1 else 0
    by_cases c : j = i
    · simp [zup_rd, c]
    · simp [zup_rd, c]
      exact this
theorem uTaken_25 {o : Option Nat} : uTaken h o 6 0 25 = h 6 0 25 - (1 - uN1 o) := by
  cases o with
  | none => show h 6 0 25 = h 6 0 25 - (1 - 1); omega
  | some j => simp [uTaken, zup_rd, uN1]
theorem uTaken_o {o : Option Nat} {k j p : Nat} (hk : ¬ (k = 40 ∨ (k = 6 ∧ p = 25))) : uTaken h o k j p = h k j p := by
  cases o with
  | none => rfl
  | some i =>
    show zup (zup h 40 0 i 1) 6 0 25 (h 6 0 25 - 1) k j p = _
    rw [zup_rd, if_neg (by omega), zup_rd, if_neg (by omega)]
theorem uKey_bd {t : Nat → Int} {pre rest : List Int} {y : Int} (hF : F ≤ 24) (hb : ∀ k, -1 ≤ t k ∧ t k < 1440) (hl : uKs t F = pre ++ y :: rest) : ∃ k : Nat, k < F ∧ 0 ≤ t k ∧ y = 24 * t k + (k : Int) ∧ y % 24 = (k : Int) ∧ y / 24 = t k ∧ t k < 1440 ∧ (∀ z ∈ pre ++ [y], z ≤ y) ∧ (∀ z ∈ rest, y < z) := by
  have hs : uSrt (pre ++ y :: rest) := by rw [← hl]; exact uKs_srt hF
  obtain ⟨k, h1, h2, h3, h4, h5⟩ := (uKs_mem hF).mp (show y ∈ uKs t F from by rw [hl]; simp)
  obtain ⟨-, p2, p3⟩ := List.pairwise_append.mp hs
  refine ⟨k, h1, h2, h3, h4, h5, (hb k).2, fun z hz => ?_, (List.pairwise_cons.mp p2).1⟩
  rcases List.mem_append.mp hz with hz | hz
  · exact Int.le_of_lt (p3 z hz y List.mem_cons_self)
  · simp at hz
    omega
/-- the second loop: those that are listed -/
theorem g_dealt3 (hn : 3000 < n) (hF : FOK v F) (hr7 : r < 7) (hrg : rgok v r) : ∀ (rest pre : List Int) (f : Nat) (T : Nat → Bool) (h : zG), FREF h v F → RREF h v r → h 6 0 24 = (uSc v r : Int) → uTak h (uSc v r) T → uKs (uTl v r) F = pre ++ rest → rest.length < f →
    zT (sX5_dealt_run n f 3 (r : Int) (uHd rest) h) (fun _ h' => FM r h h' ∧ h' 6 0 24 = h 6 0 24 ∧ h' 6 0 26 = h 6 0 26 ∧ h' 6 0 27 = h 6 0 27 + (rest.length : Int) ∧ h' 6 0 28 = h 6 0 28 + uNo (uDl (uEnR v r) (uSc v r) T rest) ∧ h' 6 0 25 = h 6 0 25 - ((rest.length : Int) - uNo (uDl (uEnR v r) (uSc v r) T rest)) ∧ ∀ k : Nat, k < 24 → h' 41 0 (24 * r + k) = uPn (uEnR v r) (uBgR v r) (uSc v r) (v 5 r 2) T rest (k : Int) (h 41 0 (24 * r + k))) := by
  have h24 := hF.2.1
  have hsl := uSc_le hrg
  have hrg2 := hrg
  unfold rgok at hrg2
  intro rest
  induction rest with
  | nil =>
    intro pre f T h hr hg hS hT hl hf
    obtain ⟨f, rfl⟩ : ∃ f', f = f' + 1 := ⟨f - 1, by omega⟩
    rw [qsX5_dealt_run3]
    unfold sX5_dealt_h166
    refine zT_eqT (by show (-1 : Int) = -1 ∧ _; decide) (zT_some ⟨FM.rf, rfl, rfl, ?_, ?_, ?_, fun k hk => rfl⟩)
    · show _ = _ + 0; omega
    · show _ = _ + 0; omega
    · show _ = _ - (0 - 0); omega
  | cons y rest ih =>
    intro pre f T h hr hg hS hT hl hf
    obtain ⟨f, rfl⟩ : ∃ f', f = f' + 1 := ⟨f - 1, by omega⟩
    obtain ⟨k, k1, k2, k3, k4, k5, k6, k7, k8⟩ := uKey_bd h24 (fun k => uTl_bd hrg) hl
    have hl2 : uKs (uTl v r) F = (pre ++ [y]) ++ rest := by rw [hl]; simp
    generalize ho : uTk (uEnR v r) T (y / 24) (uSc v r) 0 = o
    have hdl : uDl (uEnR v r) (uSc v r) T (y :: rest) = o :: uDl (uEnR v r) (uSc v r) (uPut T o) rest := by
      show uTk (uEnR v r) T (y / 24) (uSc v r) 0 :: uDl _ _ (uPut T (uTk (uEnR v r) T (y / 24) (uSc v r) 0)) rest = _
      rw [ho]
    have hno : uNo (uDl (uEnR v r) (uSc v r) T (y :: rest)) = uN1 o + uNo (uDl (uEnR v r) (uSc v r) (uPut T o) rest) := by
      rw [hdl]
      exact uNo_cons
    have hpn : ∀ (x d : Int), uPn (uEnR v r) (uBgR v r) (uSc v r) (v 5 r 2) T (y :: rest) x d = if y % 24 = x then uTg (uBgR v r) (v 5 r 2) (y / 24) o - y / 24 else uPn (uEnR v r) (uBgR v r) (uSc v r) (v 5 r 2) (uPut T o) rest x d := by
      intro x d
      show (if y % 24 = x then uTg (uBgR v r) (v 5 r 2) (y / 24) (uTk (uEnR v r) T (y / 24) (uSc v r) 0) - y / 24 else uPn _ _ _ _ (uPut T (uTk (uEnR v r) T (y / 24) (uSc v r) 0)) rest x d) = _
      rw [ho]
    have hhd : uHd (y :: rest) = (k : Int) := k4
    have hf3 : rest.length < f := by simp at hf; omega
    -- what follows behind the target
    have htail : ∀ (w : Int), w = uN1 o → ∀ (tg : Int), tg = uTg (uBgR v r) (v 5 r 2) (y / 24) o → ∀ h2 : zG, h2 = zup (uTaken h o) 6 0 27 (uTaken h o 6 0 27 + 1) → zT (sX5_dealt_j252 n (sX5_dealt_run n f) (r : Int) (k : Int) (uTx v r 0 k) tg (h2 6 0 28) w h2) (fun _ h' => FM r h h' ∧ h' 6 0 24 = h 6 0 24 ∧ h' 6 0 26 = h 6 0 26 ∧ h' 6 0 27 = h 6 0 27 + ((y :: rest).length : Int) ∧ h' 6 0 28 = h 6 0 28 + uNo (uDl (uEnR v r) (uSc v r) T (y :: rest)) ∧ h' 6 0 25 = h 6 0 25 - (((y :: rest).length : Int) - uNo (uDl (uEnR v r) (uSc v r) T (y :: rest))) ∧ ∀ k : Nat, k < 24 → h' 41 0 (24 * r + k) = uPn (uEnR v r) (uBgR v r) (uSc v r) (v 5 r 2) T (y :: rest) (k : Int) (h 41 0 (24 * r + k))) := by
      intro w hw tg htg h2 hh2
      unfold sX5_dealt_j252
      refine zT_st (zT_ix (by omega) (zT_st ?_))
      have et : uTx v r 0 k = y / 24 := by rw [k5]; rfl
      have ei : (24 * (r : Int) + (k : Int)).toNat = 24 * r + k := by omega
      rw [ei]
      generalize hh3 : zup (zup h2 6 0 28 (h2 6 0 28 + w)) 41 0 (24 * r + k) (tg - uTx v r 0 k) = h3
      have fm : FM r h h3 := by
        rw [← hh3, hh2]
        exact ((FM.tk.tr (FM.up6 (by decide))).tr (FM.up6 (by decide))).tr (FM.up41 (by omega))
      have hcm := fm.cm
      have e27 : h3 6 0 27 = h 6 0 27 + 1 := by
        rw [← hh3, hh2]
        simp [zup_rd, uTaken_o]
      have e28 : h3 6 0 28 = h 6 0 28 + uN1 o := by
        rw [← hh3, hh2, hw]
        simp [zup_rd, uTaken_o]
      have e25 : h3 6 0 25 = h 6 0 25 - (1 - uN1 o) := by
        rw [← hh3, hh2]
        simp [zup_rd]
        exact uTaken_25
      have e24 : h3 6 0 24 = h 6 0 24 := by
        rw [← hh3, hh2]
        simp [zup_rd, uTaken_o]
      have e26 : h3 6 0 26 = h 6 0 26 := by
        rw [← hh3, hh2]
        simp [zup_rd, uTaken_o]
      have e41 : ∀ i : Nat, h3 41 0 (24 * r + i) = if i = k then tg - y / 24 else h 41 0 (24 * r + i) := by
        intro i
        rw [← hh3, hh2, et]
        simp [zup_rd, uTaken_o]
      have hT3 : uTak h3 (uSc v r) (uPut T o) := by
        intro j hj
        rw [← hh3, hh2]
        simp only [zup_rd]
        rw [if_neg (by omega), if_neg (by omega), if_neg (by omega)]
        exact hT.tk j hj
      have hnx := f_nextOf (n := n) (x := 0) (key := 24 * uTx v r 0 k + (k : Int)) (pre := pre ++ [y]) (rest := rest) (h := h3) (by omega) hF (hr.cm hcm) (hg.cm hcm) hr7 hrg (Or.inl rfl) (by rw [et]; omega) hl2 (fun z hz => by have := k7 z hz; rw [et]; omega) (fun z hz => by have := k8 z hz; rw [et]; omega)
      refine zT_bde hnx ?_
      refine zT_mono (ih (pre ++ [y]) f (uPut T o) h3 (hr.cm hcm) (hg.cm hcm) (by rw [e24]; exact hS) hT3 hl2 hf3) ?_
      rintro - h' ⟨b1, b2, b3, b4, b5, b6, b7⟩
      have hlen : ((y :: rest).length : Int) = (rest.length : Int) + 1 := by simp
      refine ⟨fm.tr b1, by rw [b2, e24], by rw [b3, e26], by rw [b4, e27, hlen]; omega, by rw [b5, e28, hno]; omega, by rw [b6, e25, hno, hlen]; omega, fun i hi => ?_⟩
      rw [b7 i hi, e41, hpn]
      by_cases ci : i = k
      · rw [if_pos ci, if_pos (by omega), uPn_out]
        · rw [htg]
        · intro z hz
          have hs : z ∈ uKs (uTl v r) F := by rw [hl]; simp [hz]
          have hs2 : y ∈ uKs (uTl v r) F := by rw [hl]; simp
          intro hzz
          have := uSrt_num (t := uTl v r) (l := []) h24 hs hs2 (by omega)
          have := k8 z hz
          omega
      · rw [if_neg ci, if_neg (by omega)]
    rw [hhd, qsX5_dealt_run3]
    unfold sX5_dealt_h166
    refine zT_eqF (by omega) (zT_bde (f_timeOf2 k1 hF hr hg hr7 hrg (Or.inl rfl)) ?_)
    have et : uTx v r 0 k = y / 24 := by rw [k5]; rfl
    have htk := g_takes (n := n) (t := uTx v r 0 k) hn hg hr7 hrg hS hT (by rw [et]; omega)
    rw [et, ho] at htk
    rw [← et] at htk
    refine zT_bde htk ?_
    have hcm : CM h (uTaken h o) := (FM.tk (r := r)).cm
    have hg2 := hg.cm hcm
    simp only [Int.toNat_natCast]
    cases o with
    | none =>
      refine zT_eqT (by show (-1 : Int) = -1 ∧ _; decide) (zT_ix (by omega) ?_)
      unfold sX5_dealt_j224
      refine zT_st (zT_eqT (by show (-1 : Int) = -1 ∧ _; decide) ?_)
      exact htail 1 rfl _ hg2.2.2.1 _ rfl
    | some j =>
      obtain ⟨t1, t2, t3, t4⟩ := uTk_some ho
      obtain ⟨hp, hp4⟩ := uSc_pos hrg (by omega)
      have hbg := uBg_ge (fr := v 5 r 1) (rt := v 5 r 3) hp (j := j)
      have hj : uOi (some j) = (j : Int) := rfl
      rw [hj]
      refine zT_eqF (by omega) ?_
      have eb := f_begin (j := (j : Int)) hg2 hr7 hrg hp (by omega)
      rw [Int.toNat_natCast] at eb
      have hbv : uBgR v r j = uBg (v 5 r 1) (v 5 r 3) j := rfl
      refine zT_bde eb ?_
      unfold sX5_dealt_j224
      refine zT_le (by rw [et, hbv]; omega) (fun c => ?_) (fun c => ?_)
      · refine zT_st (zT_eqF (by omega) ?_)
        refine htail 0 rfl _ ?_ _ rfl
        show _ = max (y / 24) (uBgR v r j)
        omega
      · refine zT_bde eb (zT_st (zT_eqF (by omega) ?_))
        refine htail 0 rfl _ ?_ _ rfl
        show _ = max (y / 24) (uBgR v r j)
        omega
end RD

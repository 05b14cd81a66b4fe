/-! found anew: by slots, by windows -/
theorem uDT_app {en : Nat → Int} {S : Nat} {b : List Int} : ∀ {a : List Int} {T : Nat → Bool}, uDT en S T (a ++ b) = uDT en S (uDT en S T a) b := by
  intro a
  induction a with
  | nil => intro T; rfl
  | cons y a ih => intro T; exact ih
theorem uPn_none {en bg : Nat → Int} {S : Nat} {to k d : Int} {U : Nat → Bool} : ∀ {l : List Int} {q : Nat} {y : Int}, (∀ i, i < S → ∀ z ∈ l, U i = true ∨ en i ≤ z / 24) → l[q]? = some y → y % 24 = k → (∀ q' y', q' < q → l[q']? = some y' → y' % 24 ≠ k) → uPn en bg S to U l k d = to - y / 24 := by
  intro l
  induction l with
  | nil => intro q y _ h; simp at h
  | cons a l ih =>
    intro q y hU h1 h2 h3
    have hn : uTk en U (a / 24) S 0 = none := uTk_no (fun i _ hi => hU i (by omega) a List.mem_cons_self)
    unfold uPn
    rw [hn]
    cases q with
    | zero =>
      have h1 : some a = some y := h1
      cases h1
      rw [if_pos h2]
      rfl
    | succ q =>
      rw [if_neg (h3 0 a (by omega) rfl)]
      exact ih (fun i hi z hz => hU i hi z (List.mem_cons_of_mem _ hz)) h1 h2 (fun q' y' hq hy => h3 (q' + 1) y' (by omega) hy)
theorem t_bySlots_run {n r S q : Nat} {fr to rt x y : Int} {lf ll : List Int} {g : zG} {T1 : Nat → Bool} {v : Int} (hrg : rgok g r) (e1 : g 5 r 1 = fr) (e2 : g 5 r 2 = to) (e3 : g 5 r 3 = rt) (eS : g 2 0 2 = (S : Int)) (hS : S ≤ 1440) (hrt : 0 < S → 0 < rt) (l0 : LN g 0 lf) (l1 : LN g 1 ll) (hl0 : lf.length ≤ 24) (hl1 : ll.length ≤ 24) (s0 : uSrt lf) (s1 : uSrt ll) (k0 : uKb lf) (k1 : uKb ll) (hT1 : T1 = uDT (uEn fr to rt) S (fun _ => false) lf) (hy : ll[q]? = some y) (hyk : y % 24 = x) (hq : ∀ q' y', q' < q → ll[q']? = some y' → y' % 24 ≠ x) : ∀ (d j f : Nat) (fp fq lp lr : List Int), j + d = S → d < f → lf = fp ++ fq → ll = lp ++ lr → lp.length ≤ q →
    (∀ i, i < j → ∀ z ∈ fq, uDT (uEn fr to rt) S (fun _ => false) fp i = true ∨ uEn fr to rt i ≤ z / 24) → (∀ i, j ≤ i → uDT (uEn fr to rt) S (fun _ => false) fp i = false) →
    (∀ i, i < j → ∀ z ∈ lr, uDT (uEn fr to rt) S T1 lp i = true ∨ uEn fr to rt i ≤ z / 24) → (∀ i, j ≤ i → uDT (uEn fr to rt) S T1 lp i = T1 i) → v = uPn (uEn fr to rt) (uBg fr rt) S to (uDT (uEn fr to rt) S T1 lp) lr x (-1) →
    zT (sX0_penaltyBySlots_run n f 0 r (q : Int) (y / 24) (fp.length : Int) (lp.length : Int) (j : Int) g) (fun z g' => z = v ∧ g' = g) := by
  have hr2 := hrg
  unfold rgok at hr2
  have hinc : ∀ q : Nat, ((q : Nat) : Int) + 1 = ((q + 1 : Nat) : Int) := fun q => by omega
  have hsn : ∀ (a : List Int) (z : Int), ((a.length : Nat) : Int) + 1 = ((a ++ [z]).length : Int) := fun a z => by simp
  have hyb := k1 y (List.mem_of_getElem? hy)
  have hyl := (List.getElem?_eq_some_iff.mp hy).1
  intro d
  induction d with
  | zero =>
    intro j f fp fq lp lr hj hf ef el hlq cA cB cC cD cE
    obtain ⟨f, rfl⟩ : ∃ f', f = f' + 1 := ⟨f - 1, by omega⟩
    rw [qsX0_penaltyBySlots_run0]
    unfold sX0_penaltyBySlots_h44
    refine zT_ltF (by rw [eS]; omega) (zT_some ⟨?_, rfl⟩)
    have hy2 : lr[q - lp.length]? = some y := by
      rw [el, List.getElem?_append_right hlq] at hy
      exact hy
    rw [cE, e2, uPn_none (fun i hi z hz => cC i (by omega) z hz) hy2 hyk (fun q' y' h1 h2 => hq (lp.length + q') y' (by omega) (by
      rw [el, List.getElem?_append_right (by omega), show lp.length + q' - lp.length = q' from by omega]
      exact h2))]
  | succ d ih =>
    intro j f fp fq lp lr hj hf ef el hlq cA cB cC cD cE
    obtain ⟨f, rfl⟩ : ∃ f', f = f' + 1 := ⟨f - 1, by omega⟩
    have hjS : j < S := by omega
    have hbg := uBg_ge (fr := fr) (rt := rt) (hrt (by omega)) (j := j + 1)
    have hbg0 := uBg_ge (fr := fr) (rt := rt) (hrt (by omega)) (j := j)
    have hen : -100 ≤ uEn fr to rt j ∧ uEn fr to rt j ≤ 1440 := by unfold uEn; omega
    have ee := e_slotEnd (g := g) (r := r) (j := (j : Int)) hrg (by rw [e3]; exact hrt (by omega)) (by omega)
    rw [e1, e2, e3, Int.toNat_natCast] at ee
    rw [qsX0_penaltyBySlots_run0]
    unfold sX0_penaltyBySlots_h44
    refine zT_ltT (by rw [eS]; omega) (zT_bde ee ?_)
    -- those that are listed
    have hlisted : (∀ z ∈ fq, uEn fr to rt j ≤ z / 24) → sX2_canTake 0 (fp.length : Int) (uEn fr to rt j) g = some (0, g) → zT (zbd (sX2_canTake 0 (fp.length : Int) (uEn fr to rt j) g) (fun r2 g => zeq r2 0 (zbd (sX2_canTake 1 (lp.length : Int) (uEn fr to rt j) g) (fun r3 g => zeq r3 0 (zlet ((j : Int) + 1) (fun v4 => (sX0_penaltyBySlots_run n f 0 r (q : Int) (y / 24) (fp.length : Int) (lp.length : Int) v4 g))) (zeq (lp.length : Int) (q : Int) (zbd (sX3_slotBegin r (j : Int) g) (fun r7 g => zri 0 (zri (r7 - (y / 24)) (some (max 0 (r7 - (y / 24)), g))))) (zlet ((lp.length : Int) + 1) (fun v5 => zlet ((j : Int) + 1) (fun v6 => (sX0_penaltyBySlots_run n f 0 r (q : Int) (y / 24) (fp.length : Int) v5 v6 g))))))) (zlet ((fp.length : Int) + 1) (fun v8 => zlet ((j : Int) + 1) (fun v9 => (sX0_penaltyBySlots_run n f 0 r (q : Int) (y / 24) v8 (lp.length : Int) v9 g)))))) (fun z g' => z = v ∧ g' = g) := by
      intro hno ec0
      have hT1j : T1 j = false := by
        rw [hT1, ef, uDT_app, uDT_not hno]
        exact cB j (Nat.le_refl j)
      refine zT_bde ec0 (zT_eqT (by omega) ?_)
      have cA' : ∀ i, i < j + 1 → ∀ z ∈ fq, uDT (uEn fr to rt) S (fun _ => false) fp i = true ∨ uEn fr to rt i ≤ z / 24 := by
        intro i hi z hz
        rcases Nat.lt_or_ge i j with c | c
        · exact cA i c z hz
        · have : i = j := by omega
          rw [this]
          exact Or.inr (hno z hz)
      have cB' : ∀ i, j + 1 ≤ i → uDT (uEn fr to rt) S (fun _ => false) fp i = false := fun i hi => cB i (by omega)
      cases lr with
      | nil =>
        have : ll.length = lp.length := by rw [el]; simp
        have := (List.getElem?_eq_some_iff.mp hy).1
        omega
      | cons z lr =>
        have hz : ll[lp.length]? = some z := by rw [el, List.getElem?_append_right (Nat.le_refl _), Nat.sub_self]; rfl
        have hzl := (List.getElem?_eq_some_iff.mp hz).1
        have hge : ∀ z' ∈ lr, z / 24 ≤ z' / 24 := by
          intro z' hz'
          rw [el] at s1
          have := (List.pairwise_cons.mp (List.pairwise_append.mp s1).2.1).1 z' hz'
          omega
        have ec := e_canTake (en := uEn fr to rt j) l1 k1 hl1 hz (by omega)
        by_cases c : z / 24 < uEn fr to rt j
        · rw [if_pos c] at ec
          refine zT_bde ec (zT_eqF (by omega) ?_)
          have hUj : uDT (uEn fr to rt) S T1 lp j = false := by rw [cD j (Nat.le_refl j)]; exact hT1j
          have htk : uTk (uEn fr to rt) (uDT (uEn fr to rt) S T1 lp) (z / 24) S 0 = some j := uTk_at (Nat.zero_le j) (by omega) hUj c (fun i _ hi => cC i hi z List.mem_cons_self)
          refine zT_eq (by omega) (fun c2 => ?_) (fun c2 => ?_)
          · have hzy : z = y := by
              have : lp.length = q := by omega
              rw [this] at hz
              rw [hz] at hy
              exact Option.some.inj hy
            have eb := e_slotBegin (g := g) (r := r) (j := (j : Int)) hrg (by rw [e3]; exact hrt (by omega)) (by omega)
            rw [e1, e3, Int.toNat_natCast] at eb
            refine zT_bde eb (zT_ri (by omega) (zT_ri (by omega) (zT_some ⟨?_, rfl⟩)))
            rw [cE]
            unfold uPn
            rw [if_pos (by rw [hzy]; exact hyk), htk, hzy]
            show max 0 (uBg fr rt j - y / 24) = max (y / 24) (uBg fr rt j) - y / 24
            omega
          · refine zT_let (zT_let ?_)
            rw [hsn lp z, hinc]
            have hput : uDT (uEn fr to rt) S T1 (lp ++ [z]) = uPut (uDT (uEn fr to rt) S T1 lp) (some j) := by rw [uDT_snoc, htk]
            refine ih (j + 1) f fp fq (lp ++ [z]) lr (by omega) (by omega) ef (by rw [el]; simp) (by simp; omega) cA' cB' (fun i hi z' hz' => ?_) (fun i hi => ?_) ?_
            · rw [hput]
              rcases Nat.lt_or_ge i j with c3 | c3
              · rcases cC i c3 z' (List.mem_cons_of_mem _ hz') with h | h
                · exact Or.inl (by simp [uPut, h])
                · exact Or.inr h
              · have : i = j := by omega
                exact Or.inl (by simp [uPut, this])
            · rw [hput]
              show (i == j || uDT (uEn fr to rt) S T1 lp i) = T1 i
              rw [cD i (by omega)]
              have : (i == j) = false := by simp; omega
              rw [this]
              rfl
            · rw [cE, hput]
              have hzx := hq lp.length z (by omega) hz
              show uPn _ _ S to _ (z :: lr) x (-1) = _
              unfold uPn
              rw [if_neg hzx, htk]
              cases lr <;> rfl
        · rw [if_neg c] at ec
          refine zT_bde ec (zT_eqT (by omega) (zT_let ?_))
          rw [hinc]
          refine ih (j + 1) f fp fq lp (z :: lr) (by omega) (by omega) ef el hlq cA' cB' (fun i hi z' hz' => ?_) (fun i hi => cD i (by omega)) cE
          rcases Nat.lt_or_ge i j with c3 | c3
          · exact cC i c3 z' hz'
          · have : i = j := by omega
            rw [this]
            refine Or.inr ?_
            rcases List.mem_cons.mp hz' with rfl | hz'
            · omega
            · have := hge z' hz'
              omega
    cases hfq : fq with
    | nil =>
      subst hfq
      have hfl : lf.length = fp.length := by rw [ef]; simp
      exact hlisted (fun z hz => by cases hz) (e_canTakeNo l0 hl0 (by omega))
    | cons z fq' =>
      subst hfq
      have hz : lf[fp.length]? = some z := by rw [ef, List.getElem?_append_right (Nat.le_refl _), Nat.sub_self]; rfl
      have hge : ∀ z' ∈ fq', z / 24 ≤ z' / 24 := by
        intro z' hz'
        rw [ef] at s0
        have := (List.pairwise_cons.mp (List.pairwise_append.mp s0).2.1).1 z' hz'
        omega
      have hzl := (List.getElem?_eq_some_iff.mp hz).1
      have ec := e_canTake (en := uEn fr to rt j) l0 k0 hl0 hz (by omega)
      by_cases c : z / 24 < uEn fr to rt j
      · rw [if_pos c] at ec
        refine zT_bde ec (zT_eqF (by omega) (zT_let (zT_let ?_)))
        have htk : uTk (uEn fr to rt) (uDT (uEn fr to rt) S (fun _ => false) fp) (z / 24) S 0 = some j := uTk_at (Nat.zero_le j) (by omega) (cB j (Nat.le_refl j)) c (fun i _ hi => cA i hi z List.mem_cons_self)
        have hput : uDT (uEn fr to rt) S (fun _ => false) (fp ++ [z]) = uPut (uDT (uEn fr to rt) S (fun _ => false) fp) (some j) := by rw [uDT_snoc, htk]
        have hT1j : T1 j = true := by
          rw [hT1, ef, show fp ++ z :: fq' = (fp ++ [z]) ++ fq' from by simp, uDT_app]
          refine uDT_mono ?_
          rw [hput]
          simp [uPut]
        rw [hsn fp z, hinc]
        refine ih (j + 1) f (fp ++ [z]) fq' lp lr (by omega) (by omega) (by rw [ef]; simp) el hlq (fun i hi z' hz' => ?_) (fun i hi => ?_) (fun i hi z' hz' => ?_) (fun i hi => cD i (by omega)) cE
        · rw [hput]
          rcases Nat.lt_or_ge i j with c3 | c3
          · rcases cA i c3 z' (List.mem_cons_of_mem _ hz') with h | h
            · exact Or.inl (by simp [uPut, h])
            · exact Or.inr h
          · have : i = j := by omega
            exact Or.inl (by simp [uPut, this])
        · rw [hput]
          show (i == j || uDT (uEn fr to rt) S (fun _ => false) fp i) = false
          rw [cB i (by omega)]
          simp
          omega
        · rcases Nat.lt_or_ge i j with c3 | c3
          · exact cC i c3 z' hz'
          · have : i = j := by omega
            rw [this]
            refine Or.inl ?_
            rw [cD j (Nat.le_refl j)]
            exact hT1j
      · rw [if_neg c] at ec
        refine hlisted (fun z' hz' => ?_) ec
        rcases List.mem_cons.mp hz' with rfl | hz'
        · omega
        · have := hge z' hz'
          omega
theorem t_bySlots {n r F : Nat} {x : Int} {g0 : zG} (hn : 3000 < n) (hF : FOK g0 F) (hr : rgok g0 r) (hx : 0 ≤ x ∧ x < 24) : zT (sX0_penaltyBySlots n r x g0) (fun z g' => z = uPen g0 r x ∧ FD g0 g') := by
  have hsl := uSc_le hr
  have hsp := uSc_pos hr
  have hfr := uFr_le (r := r) hF
  have hlf : (uLF g0 r).length ≤ 24 := Nat.le_trans uKeys_len hfr.1
  have hll : (uLL g0 r).length ≤ 24 := Nat.le_trans uKeys_len hfr.1
  have hkf : uKb (uLF g0 r) := uKb_ks hfr.1 (fun k _ => by have := uTf_bd (k := k) hr; omega)
  have hkl : uKb (uLL g0 r) := uKb_ks hfr.1 (fun k _ => by have := uTl_bd (k := k) hr; omega)
  unfold sX0_penaltyBySlots
  refine zT_bdm (t_lineUp (by omega) hF hr) ?_
  rintro - g1 ⟨a1, a2, a3, a4, a5, a6⟩
  have c1 := a1.cs
  refine zT_bdm (t_placeOf (by omega) a4 hll hx) ?_
  rintro z g2 ⟨rfl, ⟨rfl, hz⟩ | ⟨q, y, rfl, hy, hyk, hq⟩⟩
  · refine zT_eqT (by omega) (zT_some ⟨?_, a1⟩)
    unfold uPen
    rw [uPn_out hz]
  · have hql := (List.getElem?_eq_some_iff.mp hy).1
    refine zT_eqF (by omega) (zT_bde (e_timeAt a4 hll hy) ?_)
    have := t_bySlots_run (n := n) (S := uSc g0 r) (T1 := uT1 g0 r) (v := uPen g0 r x) (c1.rok hr) c1.g5 c1.g5 c1.g5 a2 hsl (fun h => (hsp h).1) a3 a4 hlf hll (uKs_srt hfr.1) (uKs_srt hfr.1) hkf hkl rfl hy hyk hq (uSc g0 r) 0 n [] (uLF g0 r) [] (uLL g0 r) (by omega) (by omega) rfl rfl (Nat.zero_le q) (fun i hi => by omega) (fun i _ => rfl) (fun i hi => by omega) (fun i _ => rfl) rfl
    refine zT_mono this ?_
    rintro z g3 ⟨b1, rfl⟩
    exact ⟨b1, a1⟩
theorem uDue_max {g : zG} {k : Int} {m : Nat} : uDue g k m = uMx (fun r => uPen g r k) m := by
  induction m with
  | zero => rfl
  | succ m ih =>
    show (if uDue g k m < uPen g m k then uPen g m k else uDue g k m) = max (uMx (fun r => uPen g r k) m) (uPen g m k)
    rw [← ih]
    split <;> omega
theorem t_dueAnew_run {n F R : Nat} {x : Int} {g0 : zG} (hn : 3000 < n) (hF : FOK g0 F) (hR : ROK g0 R) (hx : 0 ≤ x ∧ x < 24) : ∀ (d m f : Nat) (g : zG), m + d = R → d < f → FD g0 g →
    zT (sX4_dueAnew_run n f 0 x (uMx (fun r => uPen g0 r x) m) (m : Int) g) (fun o g' => o = (0, uDue g0 x R) ∧ FD g0 g') := by
  obtain ⟨h1, h2, h3⟩ := hR
  intro d
  induction d with
  | zero =>
    intro m f g hm hf hS
    obtain ⟨f, rfl⟩ : ∃ f', f = f' + 1 := ⟨f - 1, by omega⟩
    have e : g 1 1 2 = (R : Int) := by rw [hS 1 1 2 (by omega)]; exact h1
    rw [qsX4_dueAnew_run0]
    unfold sX4_dueAnew_h10
    have hmR : m = R := by omega
    subst hmR
    exact zT_ltF (by omega) (zT_some ⟨by rw [uDue_max], hS⟩)
  | succ d ih =>
    intro m f g hm hf hS
    obtain ⟨f, rfl⟩ : ∃ f', f = f' + 1 := ⟨f - 1, by omega⟩
    have e : g 1 1 2 = (R : Int) := by rw [hS 1 1 2 (by omega)]; exact h1
    have hc := hS.cs
    have hb := uPen_bd (x := x) hF (h3 m (by omega))
    have hm0 := uMx_nn (f := fun r => uPen g0 r x) (m := m)
    have hm1 := uMx_le (f := fun r => uPen g0 r x) (m := m) (b := 1440) (by omega) (fun j hj => (uPen_bd (x := x) hF (h3 j (by omega))).2)
    rw [qsX4_dueAnew_run0]
    unfold sX4_dueAnew_h10
    simp only [Int.toNat_natCast]
    refine zT_ltT (by omega) (zT_li (by omega) ?_)
    refine zT_bdm (t_bySlots hn (hF.cs hc) (hc.rok (h3 m (by omega))) hx) ?_
    rintro z g2 ⟨rfl, a2⟩
    rw [uPen_congr (x := x) hc.cf (fun p => hc.g5)]
    refine zT_ri (by omega) (zT_ri (by omega) (zT_let (zT_let ?_)))
    exact ih (m + 1) f g2 (by omega) (by omega) (hS.tr a2)
theorem t_dueAnew {n F R : Nat} {x : Int} {g : zG} (hn : 3000 < n) (hF : FOK g F) (hR : ROK g R) (hx : zIn x) : zT (sX4_dueAnew n x g) (fun o g' => o = (if 0 ≤ x ∧ x < (F : Int) then (0, uDue g x R) else (1, 0)) ∧ FD g g') := by
  unfold sX4_dueAnew
  have e1 := e_flightAt hF hx
  have hF24 := hF.2.1
  have hR6 := hR.2.1
  by_cases c1 : 0 ≤ x ∧ x < (F : Int)
  · rw [if_pos c1] at e1 ⊢
    refine zT_bxe e1 ?_
    exact t_dueAnew_run (n := n) hn hF hR (by omega) R 0 n g (by omega) (by omega) FD.rf
  · rw [if_neg c1] at e1 ⊢
    exact zT_bxt e1 ⟨rfl, FD.rf⟩

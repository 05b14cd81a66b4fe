/-! a new regulation -/
set_option maxHeartbeats 4000000 in
set_option maxRecDepth 100000 in
theorem c_RgInit (l : Launch) (X : zC) (h0 sz : Nat) (a1 a2 a3 a4 : Int) : Met l yX3_init (zws yX3_init cX3_init 5 none) { frames := 1, cells := 0, slots := 0, locals := 40 } (va_Pc [.ref h0, z_v a1, z_v a2, z_v a3, z_v a4] (fun U => U.heap.size = sz ∧ va_P X.1 vwCl [(h0, .inr (4, [z_v 0, z_v 0, z_v 0, z_v 0, z_v 0]))] U.heap ∧ va_K X.1 vwCl (z_tys X) U)) (va_Qv (fun (_ : Unit) => True) (fun _ t => va_P X.1 vwCl [(h0, .inr (4, [z_v a1, z_v a2, z_v a3, z_v a4, z_v 0]))] t.heap) (va_A [(h0, .inr (4, [z_v 0, z_v 0, z_v 0, z_v 0, z_v 0]))] sz)) 0 0 (va_A [(h0, .inr (4, [z_v 0, z_v 0, z_v 0, z_v 0, z_v 0]))] sz) := by
  refine Met.ofW (cc := cX3_init) (maxL := 5) (ret := none) (by decide +kernel) rfl ?_
  intro p e s m args below meth c s₁ B hml hv
  obtain ⟨rfl, hsz, hP, hK⟩ := hv
  have hx := B.exec
  have hb := B.bytes
  have hr := B.returns
  have hts : ∀ w ∈ lw_G, w.before [.ref h0, z_v a1, z_v a2, z_v a3, z_v a4].toArray s = true := fun w hw => atoms_spec (ws := zws yX3_init cX3_init 5 none) B.pre w (List.mem_cons_of_mem _ hw)
  have hown : s.vm.findClass RX3 = some m.cls := findClass_of_methodNamed B.named
  have hlocks := B.notSynchronized
  have hin : meth.name = "<init>" := (name_of_methodNamed B.named B.method).1
  have hl := lv_entry [.ref h0, z_v a1, z_v a2, z_v a3, z_v a4] (n := 5) (Nat.le_of_ble_eq_true rfl)
  rw [lg_entry_eq]
  generalize (lg_sl ([.ref h0, z_v a1, z_v a2, z_v a3, z_v a4]) ++ List.replicate (5 - (lg_sl ([.ref h0, z_v a1, z_v a2, z_v a3, z_v a4])).length) Slot.unset).toArray = ls at hl ⊢
  have hl : lv_has ls 5 [(0, .ref h0), (1, z_v a1), (2, z_v a2), (3, z_v a3), (4, z_v a4)] := hl
  obtain ⟨A, hAe⟩ : ∃ A, A = (va_A [(h0, .inr (4, [z_v 0, z_v 0, z_v 0, z_v 0, z_v 0]))] sz) := ⟨_, rfl⟩
  rw [← hAe]
  have hD : va_D A [(h0, .inr (4, [z_v 0, z_v 0, z_v 0, z_v 0, z_v 0]))] := by
    rw [hAe]
    refine ⟨fun i j p q hp hq _ => ?_, fun k q hk => Or.inl ⟨k, q.2, hk⟩⟩
    have h1 := (List.getElem?_eq_some_iff.mp hp).1
    have h2 := (List.getElem?_eq_some_iff.mp hq).1
    simp at h1 h2
    omega
  have hS : va_S A s.heap s.heap [] := va_S.rf
  refine lv_aload_n hx hb dX3_init_0 rfl (lv_at hl 0 rfl) ?_
  refine W.objInit hx hb hown (hts _ qw_595) (hts _ qw_41) (hts _ qw_42) rfl (hl.1.trans hml.symm) rfl dX3_init_1 (Nat.le_of_ble_eq_true rfl) (Nat.le_of_ble_eq_true rfl) ?_
  refine W.eq (g2 := F0 m 4 ls []) rfl ?_
  refine lv_aload_n hx hb dX3_init_4 rfl (lv_at hl 0 rfl) ?_
  refine lv_iconst hx hb dX3_init_5 rfl ?_
  refine va_put (D := X.1) (C := RX3) (T := TX3) (N := 5) (ty := .boolean) (v := z_v 0) hx hb hts zC_5.2.1 tyX3 tyX3_ok nmX3 hown hK hP hD hS 0 rfl rfl 4 (by decide) (hts _ qw_604) (fun _ h9 => h9) rfl (by decide +kernel) rfl rfl (Nat.le_of_ble_eq_true rfl) dX3_init_6 (fun H locs hP hD hS => ?_)
  have hP : va_P X.1 vwCl [(h0, .inr (4, [z_v 0, z_v 0, z_v 0, z_v 0, z_v 0]))] H := hP
  have hD : va_D A [(h0, .inr (4, [z_v 0, z_v 0, z_v 0, z_v 0, z_v 0]))] := hD
  refine lv_aload_n hx hb dX3_init_9 rfl (lv_at hl 0 rfl) ?_
  refine lv_iload_n hx hb dX3_init_10 rfl (lv_at hl 1 rfl) ?_
  refine va_putF (D := X.1) (C := RX3) (T := TX3) (N := 5) (ty := .int) (v := z_v a1) hx hb hts zC_5.2.1 tyX3 tyX3_ok nmX3 hown hK hP hD hS 0 rfl rfl 0 (by decide) (hts _ qw_596) (fun _ h9 => h9) rfl hin rfl (by decide +kernel) rfl rfl (Nat.le_of_ble_eq_true rfl) dX3_init_11 (fun H locs hP hD hS => ?_)
  have hP : va_P X.1 vwCl [(h0, .inr (4, [z_v a1, z_v 0, z_v 0, z_v 0, z_v 0]))] H := hP
  have hD : va_D A [(h0, .inr (4, [z_v a1, z_v 0, z_v 0, z_v 0, z_v 0]))] := hD
  refine lv_aload_n hx hb dX3_init_14 rfl (lv_at hl 0 rfl) ?_
  refine lv_iload_n hx hb dX3_init_15 rfl (lv_at hl 2 rfl) ?_
  refine va_putF (D := X.1) (C := RX3) (T := TX3) (N := 5) (ty := .int) (v := z_v a2) hx hb hts zC_5.2.1 tyX3 tyX3_ok nmX3 hown hK hP hD hS 0 rfl rfl 1 (by decide) (hts _ qw_599) (fun _ h9 => h9) rfl hin rfl (by decide +kernel) rfl rfl (Nat.le_of_ble_eq_true rfl) dX3_init_16 (fun H locs hP hD hS => ?_)
  have hP : va_P X.1 vwCl [(h0, .inr (4, [z_v a1, z_v a2, z_v 0, z_v 0, z_v 0]))] H := hP
  have hD : va_D A [(h0, .inr (4, [z_v a1, z_v a2, z_v 0, z_v 0, z_v 0]))] := hD
  refine lv_aload_n hx hb dX3_init_19 rfl (lv_at hl 0 rfl) ?_
  refine lv_iload_n hx hb dX3_init_20 rfl (lv_at hl 3 rfl) ?_
  refine va_putF (D := X.1) (C := RX3) (T := TX3) (N := 5) (ty := .int) (v := z_v a3) hx hb hts zC_5.2.1 tyX3 tyX3_ok nmX3 hown hK hP hD hS 0 rfl rfl 2 (by decide) (hts _ qw_600) (fun _ h9 => h9) rfl hin rfl (by decide +kernel) rfl rfl (Nat.le_of_ble_eq_true rfl) dX3_init_21 (fun H locs hP hD hS => ?_)
  have hP : va_P X.1 vwCl [(h0, .inr (4, [z_v a1, z_v a2, z_v a3, z_v 0, z_v 0]))] H := hP
  have hD : va_D A [(h0, .inr (4, [z_v a1, z_v a2, z_v a3, z_v 0, z_v 0]))] := hD
  refine lv_aload_n hx hb dX3_init_24 rfl (lv_at hl 0 rfl) ?_
  refine lv_iload hx hb dX3_init_25 (lv_at hl 4 rfl) ?_
  refine va_put (D := X.1) (C := RX3) (T := TX3) (N := 5) (ty := .int) (v := z_v a4) hx hb hts zC_5.2.1 tyX3 tyX3_ok nmX3 hown hK hP hD hS 0 rfl rfl 3 (by decide) (hts _ qw_602) (fun _ h9 => h9) rfl (by decide +kernel) rfl rfl (Nat.le_of_ble_eq_true rfl) dX3_init_27 (fun H locs hP hD hS => ?_)
  have hP : va_P X.1 vwCl [(h0, .inr (4, [z_v a1, z_v a2, z_v a3, z_v a4, z_v 0]))] H := hP
  have hD : va_D A [(h0, .inr (4, [z_v a1, z_v a2, z_v a3, z_v a4, z_v 0]))] := hD
  exact W.vret hx hb hr (fun t ht hW => ⟨⟨(), rfl, trivial, by show va_P _ _ _ t.heap; rw [ht]; exact hP⟩, hS.F ht⟩) hS.2.2 dX3_init_30 hlocks
/-! the world with one flight, one regulation more -/
def zFl (g : zG) (n : Nat) (c p : Int) : zG := fun a b z => if b = n then (if a = 4 then (if z = 0 then c else if z = 1 then p else if z = 4 then -1 else if z = 5 then -1 else if z = 6 then -1 else if z = 9 then -1 else if z = 13 then -1 else 0) else if a = 14 then (if z < 6 then -1 else 0) else if a = 15 then 0 else g a b z) else g a b z
def zRg (g : zG) (n : Nat) (x1 x2 x3 x4 : Int) : zG := fun a b z => if b = n then (if a = 5 then (if z = 0 then x1 else if z = 1 then x2 else if z = 2 then x3 else if z = 3 then x4 else 0) else g a b z) else g a b z
theorem zFl_old {g : zG} {n : Nat} {c p : Int} {a b z : Nat} (h : ¬ (b = n ∧ (a = 4 ∨ a = 14 ∨ a = 15))) : zFl g n c p a b z = g a b z := by
  unfold zFl
  by_cases c1 : b = n
  · rw [if_pos c1, if_neg (by omega), if_neg (by omega), if_neg (by omega)]
  · rw [if_neg c1]
theorem zRg_old {g : zG} {n : Nat} {x1 x2 x3 x4 : Int} {a b z : Nat} (h : ¬ (b = n ∧ a = 5)) : zRg g n x1 x2 x3 x4 a b z = g a b z := by
  unfold zRg
  by_cases c1 : b = n
  · rw [if_pos c1, if_neg (by omega)]
  · rw [if_neg c1]
theorem z_newFl {X : zC} {N : zN} {g : zG} {H0 H1 : Heap} {n q q1 q2 : Nat} {c p : Int} (hw : zW X N g H0) (hn : N.2 7 = n) (hn2 : n < 30) (hP : va_P X.1 vwCl (z_pool X N g) H1) (hN : ∀ (j : Nat) (x : Nat × va_E), (z_pool X N g)[j]? = some x → x.1 ≠ q ∧ x.1 ≠ q1 ∧ x.1 ≠ q2) (hq : q ≠ q1 ∧ q ≠ q2 ∧ q1 ≠ q2) (hA : zA X q ∧ zA X q1 ∧ zA X q2)
    (h0 : va_at X.1 vwCl (q, .inr (2, [z_v c, z_v p, z_v 0, z_v 0, z_v (-1), z_v (-1), z_v (-1), z_v 0, z_v 0, z_v (-1), .ref q1, .ref q2, z_v 0, z_v (-1)])) H1) (h1 : va_at X.1 vwCl (q1, .inl (X.2.1 0, 6, .inl (fun j => if j < 6 then Int32.ofInt (-1) else Int32.ofInt 0))) H1) (h2 : va_at X.1 vwCl (q2, .inl (X.2.1 0, 6, .inl (fun _ => Int32.ofInt 0))) H1) (hb : X.2.2.1 ≤ H1.size) (he : zEm X H1) :
    zW X (fun k j => if j = n ∧ k = 4 then q else if j = n ∧ k = 14 then q1 else if j = n ∧ k = 15 then q2 else N.1 k j, fun z => if z = 7 then n + 1 else N.2 z) (zFl g n c p) H1 := by
  obtain ⟨s1, s2, s3, s4, s5, s6, s7, s8, s9, s10⟩ := id hw.2.2.1
  generalize hN' : ((fun k j => if j = n ∧ k = 4 then q else if j = n ∧ k = 14 then q1 else if j = n ∧ k = 15 then q2 else N.1 k j, fun z => if z = 7 then n + 1 else N.2 z) : zN) = N'
  have a4 : N'.1 4 n = q := by rw [← hN']; simp
  have a14 : N'.1 14 n = q1 := by rw [← hN']; simp
  have a15 : N'.1 15 n = q2 := by rw [← hN']; simp
  have e1 : ∀ k j, ¬ (j = n ∧ (k = 4 ∨ k = 14 ∨ k = 15)) → N'.1 k j = N.1 k j := fun k j h => by
    rw [← hN']
    show (if j = n ∧ k = 4 then q else if j = n ∧ k = 14 then q1 else if j = n ∧ k = 15 then q2 else N.1 k j) = N.1 k j
    rw [if_neg (by omega), if_neg (by omega), if_neg (by omega)]
  have e7 : N'.2 7 = n + 1 := by rw [← hN']; rfl
  have e2 : ∀ z, z ≠ 7 → N'.2 z = N.2 z := fun z h => by rw [← hN']; exact if_neg h
  have hE : ∀ k j, zE N' k j → zE N k j ∨ (j = n ∧ (k = 4 ∨ k = 14 ∨ k = 15)) := by
    intro k j h
    obtain ⟨b1, b2, b3⟩ := zE_iff.mp h
    by_cases c4 : k = 4 ∨ k = 14 ∨ k = 15
    · by_cases cj : j = n
      · exact Or.inr ⟨cj, c4⟩
      · refine Or.inl (zE_iff.mpr ⟨b1, b2, ?_⟩)
        have : j < n + 1 := by rcases c4 with rfl | rfl | rfl <;> (simp [z_ex, e7] at b3; exact b3)
        have h9 : j < N.2 7 := by omega
        rcases c4 with rfl | rfl | rfl <;> simp [z_ex, h9]
    · refine Or.inl (zE_iff.mpr ⟨b1, b2, ?_⟩)
      rw [← b3]
      unfold z_ex
      rw [e2 8 (by omega)]
      by_cases c16 : k = 16
      · subst c16
        by_cases cj : j < 2
        · rw [e2 (2 + j) (by omega)]
          simp
        · simp [cj]
      · simp [c16, c4]
  have hEn : ∀ k, (k = 4 ∨ k = 14 ∨ k = 15) → ¬ zE N k n := by
    intro k hk h
    have h9 := (zE_iff.mp h).2.2
    rcases hk with rfl | rfl | rfl <;> (simp [z_ex] at h9; omega)
  have hz : zSz N' (zFl g n c p) := by
    refine ⟨?_, ?_, ?_, ?_, ?_, ?_, ?_, ?_, ?_, ?_⟩
    · rw [zFl_old (by omega), e2 0 (by omega)]; exact s1
    · rw [zFl_old (by omega), e2 1 (by omega)]; exact s2
    · rw [e2 0 (by omega), e7]; omega
    · rw [e2 1 (by omega), e2 8 (by omega)]; omega
    · rw [e2 0 (by omega), e2 2 (by omega)]; omega
    · rw [e2 1 (by omega), e2 3 (by omega)]; omega
    · rw [e2 2 (by omega)]; omega
    · rw [e2 3 (by omega)]; omega
    · rw [e7]; omega
    · rw [e2 8 (by omega)]; omega
  have hcell : ∀ k j, zE N k j → ¬ (j = n ∧ (k = 4 ∨ k = 14 ∨ k = 15)) → z_cell X N' (zFl g n c p) k j = z_cell X N g k j := by
    intro k j h hn9
    rw [z_cell_congr (g' := zFl g n c p) (g := g) (fun z => zFl_old hn9)]
    exact zW_cellN hw.2.2.1 h (fun k2 j2 h2 => e1 k2 j2 (fun z => by
      obtain ⟨rfl, z2⟩ := z
      exact hEn k2 z2 h2)) (fun z hz9 => e2 z (by omega))
  have hat : ∀ k j, zE N k j → va_at X.1 vwCl (N.1 k j, z_cell X N g k j) H1 := by
    intro k j h
    obtain ⟨z, -, hz9⟩ := z_place (X := X) (g := g) h
    exact hP z _ hz9
  have hne : ∀ k j, zE N k j → N.1 k j ≠ q ∧ N.1 k j ≠ q1 ∧ N.1 k j ≠ q2 := by
    intro k j h
    obtain ⟨z, -, hz9⟩ := z_place (X := X) (g := g) h
    exact hN z _ hz9
  have hcase : ∀ k j, zE N' k j → (zE N k j ∧ ¬ (j = n ∧ (k = 4 ∨ k = 14 ∨ k = 15))) ∨ (j = n ∧ (k = 4 ∨ k = 14 ∨ k = 15)) := by
    intro k j h
    by_cases c9 : j = n ∧ (k = 4 ∨ k = 14 ∨ k = 15)
    · exact Or.inr c9
    · exact Or.inl ⟨(hE k j h).resolve_right c9, c9⟩
  have hm := z_mk (X := X) (N := N') (g := zFl g n c p) (H := H1) (fun k j h => by
    rcases hcase k j h with ⟨h9, h8⟩ | ⟨rfl, rfl | rfl | rfl⟩
    · rw [e1 k j h8, hcell k j h9 h8]
      exact hat k j h9
    · have : z_cell X N' (zFl g j c p) 4 j = .inr (2, [z_v c, z_v p, z_v 0, z_v 0, z_v (-1), z_v (-1), z_v (-1), z_v 0, z_v 0, z_v (-1), .ref q1, .ref q2, z_v 0, z_v (-1)]) := by
        rw [z_cell_obj (by decide)]
        simp [z_obj, z_ci, zFl, a14, a15]
      rw [this, a4]
      exact h0
    · have : z_cell X N' (zFl g j c p) 14 j = .inl (X.2.1 0, 6, .inl (fun z => if z < 6 then Int32.ofInt (-1) else Int32.ofInt 0)) := by
        rw [z_cell_int (by decide)]
        have : (fun z => Int32.ofInt (zFl g j c p 14 j z)) = (fun z => if z < 6 then Int32.ofInt (-1) else Int32.ofInt 0) := by
          funext z
          simp only [zFl, if_true]
          by_cases c6 : z < 6
          · simp [c6]
          · simp [c6]
        rw [this]
        rfl
      rw [this, a14]
      exact h1
    · have : z_cell X N' (zFl g j c p) 15 j = .inl (X.2.1 0, 6, .inl (fun _ => Int32.ofInt 0)) := by
        rw [z_cell_int (by decide)]
        have : (fun z => Int32.ofInt (zFl g j c p 15 j z)) = (fun _ => Int32.ofInt 0) := by
          funext z
          simp [zFl]
        rw [this]
        rfl
      rw [this, a15]
      exact h2)
    (fun k j k' j' h h' e => by
      rcases hcase k j h with ⟨h9, h8⟩ | ⟨rfl, hk⟩ <;> rcases hcase k' j' h' with ⟨h9', h8'⟩ | ⟨rfl, hk'⟩
      · rw [e1 k j h8, e1 k' j' h8'] at e
        exact zW_inj hw h9 h9' e
      · obtain ⟨y1, y2, y3⟩ := hne k j h9
        rw [e1 k j h8] at e
        rcases hk' with rfl | rfl | rfl
        · rw [a4] at e; exact absurd e y1
        · rw [a14] at e; exact absurd e y2
        · rw [a15] at e; exact absurd e y3
      · obtain ⟨y1, y2, y3⟩ := hne k' j' h9'
        rw [e1 k' j' h8'] at e
        rcases hk with rfl | rfl | rfl
        · rw [a4] at e; exact absurd e.symm y1
        · rw [a14] at e; exact absurd e.symm y2
        · rw [a15] at e; exact absurd e.symm y3
      · refine ⟨?_, rfl⟩
        obtain ⟨y1, y2, y3⟩ := hq
        rcases hk with rfl | rfl | rfl <;> rcases hk' with rfl | rfl | rfl <;> simp only [a4, a14, a15] at e <;> first | rfl | exact absurd e y1 | exact absurd e y2 | exact absurd e y3 | exact absurd e.symm y1 | exact absurd e.symm y2 | exact absurd e.symm y3)
    (fun k j h => by
      rcases hcase k j h with ⟨h9, h8⟩ | ⟨rfl, rfl | rfl | rfl⟩
      · rw [e1 k j h8]; exact zW_A hw h9
      · rw [a4]; exact hA.1
      · rw [a14]; exact hA.2.1
      · rw [a15]; exact hA.2.2)
  exact ⟨hm.1, hm.2, hz, hw.2.2.2.1, hb, he⟩
theorem z_newRg {X : zC} {N : zN} {g : zG} {H0 H1 : Heap} {n q : Nat} {x1 x2 x3 x4 : Int} (hw : zW X N g H0) (hn : N.2 8 = n) (hn2 : n < 30) (hP : va_P X.1 vwCl (z_pool X N g) H1) (hN : ∀ (j : Nat) (x : Nat × va_E), (z_pool X N g)[j]? = some x → x.1 ≠ q) (hA : zA X q)
    (h0 : va_at X.1 vwCl (q, .inr (4, [z_v x1, z_v x2, z_v x3, z_v x4, z_v 0])) H1) (hb : X.2.2.1 ≤ H1.size) (he : zEm X H1) :
    zW X (fun k j => if j = n ∧ k = 5 then q else N.1 k j, fun z => if z = 8 then n + 1 else N.2 z) (zRg g n x1 x2 x3 x4) H1 := by
  obtain ⟨s1, s2, s3, s4, s5, s6, s7, s8, s9, s10⟩ := id hw.2.2.1
  generalize hN' : ((fun k j => if j = n ∧ k = 5 then q else N.1 k j, fun z => if z = 8 then n + 1 else N.2 z) : zN) = N'
  have a5 : N'.1 5 n = q := by rw [← hN']; simp
  have e1 : ∀ k j, ¬ (j = n ∧ k = 5) → N'.1 k j = N.1 k j := fun k j h => by
    rw [← hN']
    exact if_neg h
  have e8 : N'.2 8 = n + 1 := by rw [← hN']; rfl
  have e2 : ∀ z, z ≠ 8 → N'.2 z = N.2 z := fun z h => by rw [← hN']; exact if_neg h
  have hE : ∀ k j, zE N' k j → zE N k j ∨ (j = n ∧ k = 5) := by
    intro k j h
    obtain ⟨b1, b2, b3⟩ := zE_iff.mp h
    by_cases c5 : k = 5
    · by_cases cj : j = n
      · exact Or.inr ⟨cj, c5⟩
      · refine Or.inl (zE_iff.mpr ⟨b1, b2, ?_⟩)
        subst c5
        have : j < n + 1 := by simp [z_ex, e8] at b3; exact b3
        have h9 : j < N.2 8 := by omega
        simp [z_ex, h9]
    · refine Or.inl (zE_iff.mpr ⟨b1, b2, ?_⟩)
      rw [← b3]
      unfold z_ex
      rw [e2 7 (by omega)]
      by_cases c16 : k = 16
      · subst c16
        by_cases cj : j < 2
        · rw [e2 (2 + j) (by omega)]
          simp
        · simp [cj]
      · simp [c16, c5]
  have hEn : ¬ zE N 5 n := by
    intro h
    have h9 := (zE_iff.mp h).2.2
    simp [z_ex] at h9
    omega
  have hz : zSz N' (zRg g n x1 x2 x3 x4) := by
    refine ⟨?_, ?_, ?_, ?_, ?_, ?_, ?_, ?_, ?_, ?_⟩
    · rw [zRg_old (by omega), e2 0 (by omega)]; exact s1
    · rw [zRg_old (by omega), e2 1 (by omega)]; exact s2
    · rw [e2 0 (by omega), e2 7 (by omega)]; omega
    · rw [e2 1 (by omega), e8]; omega
    · rw [e2 0 (by omega), e2 2 (by omega)]; omega
    · rw [e2 1 (by omega), e2 3 (by omega)]; omega
    · rw [e2 2 (by omega)]; omega
    · rw [e2 3 (by omega)]; omega
    · rw [e2 7 (by omega)]; omega
    · rw [e8]; omega
  have hcell : ∀ k j, zE N k j → ¬ (j = n ∧ k = 5) → z_cell X N' (zRg g n x1 x2 x3 x4) k j = z_cell X N g k j := by
    intro k j h hn9
    rw [z_cell_congr (g' := zRg g n x1 x2 x3 x4) (g := g) (fun z => zRg_old hn9)]
    exact zW_cellN hw.2.2.1 h (fun k2 j2 h2 => e1 k2 j2 (fun z => by
      obtain ⟨rfl, rfl⟩ := z
      exact hEn h2)) (fun z hz9 => e2 z (by omega))
  have hat : ∀ k j, zE N k j → va_at X.1 vwCl (N.1 k j, z_cell X N g k j) H1 := by
    intro k j h
    obtain ⟨z, -, hz9⟩ := z_place (X := X) (g := g) h
    exact hP z _ hz9
  have hne : ∀ k j, zE N k j → N.1 k j ≠ q := by
    intro k j h
    obtain ⟨z, -, hz9⟩ := z_place (X := X) (g := g) h
    exact hN z _ hz9
  have hcase : ∀ k j, zE N' k j → (zE N k j ∧ ¬ (j = n ∧ k = 5)) ∨ (j = n ∧ k = 5) := by
    intro k j h
    by_cases c9 : j = n ∧ k = 5
    · exact Or.inr c9
    · exact Or.inl ⟨(hE k j h).resolve_right c9, c9⟩
  have hm := z_mk (X := X) (N := N') (g := zRg g n x1 x2 x3 x4) (H := H1) (fun k j h => by
    rcases hcase k j h with ⟨h9, h8⟩ | ⟨rfl, rfl⟩
    · rw [e1 k j h8, hcell k j h9 h8]
      exact hat k j h9
    · have : z_cell X N' (zRg g j x1 x2 x3 x4) 5 j = .inr (4, [z_v x1, z_v x2, z_v x3, z_v x4, z_v 0]) := by
        rw [z_cell_obj (by decide)]
        simp [z_obj, z_ci, zRg]
      rw [this, a5]
      exact h0)
    (fun k j k' j' h h' e => by
      rcases hcase k j h with ⟨h9, h8⟩ | ⟨rfl, rfl⟩ <;> rcases hcase k' j' h' with ⟨h9', h8'⟩ | ⟨rfl, rfl⟩
      · rw [e1 k j h8, e1 k' j' h8'] at e
        exact zW_inj hw h9 h9' e
      · rw [e1 k j h8, a5] at e
        exact absurd e (hne k j h9)
      · rw [e1 k' j' h8', a5] at e
        exact absurd e.symm (hne k' j' h9')
      · exact ⟨rfl, rfl⟩)
    (fun k j h => by
      rcases hcase k j h with ⟨h9, h8⟩ | ⟨rfl, rfl⟩
      · rw [e1 k j h8]; exact zW_A hw h9
      · rw [a5]; exact hA)
  exact ⟨hm.1, hm.2, hz, hw.2.2.2.1, hb, he⟩

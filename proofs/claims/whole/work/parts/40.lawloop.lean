/-! the law's switch and loop -/
def sLc (cc : Nat) (n : Nat) (a1 a2 a3 a4 : Int) (g : zG) : Option zG := if cc = 0 then sLc0 n a1 a2 a3 a4 g else if cc = 1 then sLc1 n a1 a2 a3 a4 g else if cc = 2 then sLc2 n a1 a2 a3 a4 g else if cc = 3 then sLc3 n a1 a2 a3 a4 g else if cc = 4 then sLc4 n a1 a2 a3 a4 g else if cc = 5 then sLc5 n a1 a2 a3 a4 g else if cc = 6 then sLc6 n a1 a2 a3 a4 g else if cc = 7 then sLc7 n a1 a2 a3 a4 g else if cc = 8 then sLc8 n a1 a2 a3 a4 g else if cc = 9 then sLc9 n a1 a2 a3 a4 g else if cc = 10 then sLc10 n a1 a2 a3 a4 g else if cc = 11 then sLc11 n a1 a2 a3 a4 g else if cc = 12 then sLc12 n a1 a2 a3 a4 g else if cc = 13 then sLc13 n a1 a2 a3 a4 g else if cc = 14 then sLc14 n a1 a2 a3 a4 g else if cc = 15 then sLc15 n a1 a2 a3 a4 g else if cc = 16 then sLc16 n a1 a2 a3 a4 g else if cc = 17 then sLc17 n a1 a2 a3 a4 g else if cc = 18 then sLc18 n a1 a2 a3 a4 g else if cc = 19 then sLc19 n a1 a2 a3 a4 g else if cc = 20 then sLc20 n a1 a2 a3 a4 g else if cc = 21 then sLc21 n a1 a2 a3 a4 g else if cc = 22 then sLc22 n a1 a2 a3 a4 g else some g
set_option maxHeartbeats 4000000 in
set_option maxRecDepth 100000 in
theorem wL_sw {p : Program} {l : Launch} {e : Env} {s : State} {m : MethodId} {args : Array Value} {below : List Frame} {meth : Method} {c : Code} {Q : State → Prop} {X : zC} {b L : Nat} {xs : Nat → Int32} {H : Heap} {locs : List Loc} {cells slots : Nat} {ls : Array Slot} {N : zN} {g g' : zG} {n cc : Nat} {i a1 a2 a3 a4 : Int} (hF : zF p s m args meth c X cL_law 7 RL) (hT : l.stackTraces = false) (hX : zX_ b L xs s X) (hi : 0 ≤ i ∧ i + 4 < L) (ha1 : zxs xs (i + 1) = a1) (ha2 : zxs xs (i + 2) = a2) (ha3 : zxs xs (i + 3) = a3) (ha4 : zxs xs (i + 4) = a4) (hnp : zNp N) (hw : zH X N g s H locs) (hl : lv_has ls 7 [(0, .ref b), (1, z_r N 0 0), (2, z_r N 6 0), (3, z_r N 17 0), (4, z_v i)]) (hcs0 : cells + 6 ≤ 601024 ∧ slots + 80 ≤ 7293034) (hcc : cc < 32) (h : sLc cc n a1 a2 a3 a4 g = some g') (kk : ∀ (N2 : zN) (cells2 slots2 : Nat) (H : Heap) (locs : List Loc) (ls : Array Slot), zSame N N2 → (cells2 ≤ cells + 6 ∧ slots2 ≤ slots + 80) → zH X N2 g' s H locs → lv_has ls 7 [(0, .ref b), (1, z_r N2 0 0), (2, z_r N2 6 0), (3, z_r N2 17 0), (4, z_v i)] → W p l e zRL s m args below meth c H locs cells2 slots2 Q (F0 m 1688 ls [])) : W p l e zRL s m args below meth c H locs cells slots Q (F0 m 39 ls [z_v (cc : Int)]) := by
  have hx := hF.1.1
  have hb := hF.1.2.1
  by_cases c23 : 23 ≤ cc
  · refine lv_tableOut (tgt := 1688) hx hb dL_law_39 (by rw [Int32.toInt_ofInt_of_le (by omega) (by omega)]; omega) (by decide) ?_
    unfold sLc at h
    rw [if_neg (by omega), if_neg (by omega), if_neg (by omega), if_neg (by omega), if_neg (by omega), if_neg (by omega), if_neg (by omega), if_neg (by omega), if_neg (by omega), if_neg (by omega), if_neg (by omega), if_neg (by omega), if_neg (by omega), if_neg (by omega), if_neg (by omega), if_neg (by omega), if_neg (by omega), if_neg (by omega), if_neg (by omega), if_neg (by omega), if_neg (by omega), if_neg (by omega), if_neg (by omega)] at h
    cases h
    exact kk N cells slots H locs ls zSame.rf ⟨Nat.le_add_right _ _, Nat.le_add_right _ _⟩ hw hl
  · have h23 : cc = 0 ∨ cc = 1 ∨ cc = 2 ∨ cc = 3 ∨ cc = 4 ∨ cc = 5 ∨ cc = 6 ∨ cc = 7 ∨ cc = 8 ∨ cc = 9 ∨ cc = 10 ∨ cc = 11 ∨ cc = 12 ∨ cc = 13 ∨ cc = 14 ∨ cc = 15 ∨ cc = 16 ∨ cc = 17 ∨ cc = 18 ∨ cc = 19 ∨ cc = 20 ∨ cc = 21 ∨ cc = 22 := by omega
    rcases h23 with rfl | rfl | rfl | rfl | rfl | rfl | rfl | rfl | rfl | rfl | rfl | rfl | rfl | rfl | rfl | rfl | rfl | rfl | rfl | rfl | rfl | rfl | rfl
    · refine lv_tableIn (tgt := 144) hx hb dL_law_39 (by decide) (by decide) rfl (by decide) ?_
      exact wLc0 (n := n) hF hT hX hi ha1 ha2 ha3 ha4 hnp hw hl hcs0 h kk
    · refine lv_tableIn (tgt := 212) hx hb dL_law_39 (by decide) (by decide) rfl (by decide) ?_
      exact wLc1 (n := n) hF hT hX hi ha1 ha2 ha3 ha4 hnp hw hl hcs0 h kk
    · refine lv_tableIn (tgt := 304) hx hb dL_law_39 (by decide) (by decide) rfl (by decide) ?_
      exact wLc2 (n := n) hF hT hX hi ha1 ha2 ha3 ha4 hnp hw hl hcs0 h kk
    · refine lv_tableIn (tgt := 395) hx hb dL_law_39 (by decide) (by decide) rfl (by decide) ?_
      exact wLc3 (n := n) hF hT hX hi ha1 ha2 ha3 ha4 hnp hw hl hcs0 h kk
    · refine lv_tableIn (tgt := 463) hx hb dL_law_39 (by decide) (by decide) rfl (by decide) ?_
      exact wLc4 (n := n) hF hT hX hi ha1 ha2 ha3 ha4 hnp hw hl hcs0 h kk
    · refine lv_tableIn (tgt := 531) hx hb dL_law_39 (by decide) (by decide) rfl (by decide) ?_
      exact wLc5 (n := n) hF hT hX hi ha1 ha2 ha3 ha4 hnp hw hl hcs0 h kk
    · refine lv_tableIn (tgt := 611) hx hb dL_law_39 (by decide) (by decide) rfl (by decide) ?_
      exact wLc6 (n := n) hF hT hX hi ha1 ha2 ha3 ha4 hnp hw hl hcs0 h kk
    · refine lv_tableIn (tgt := 679) hx hb dL_law_39 (by decide) (by decide) rfl (by decide) ?_
      exact wLc7 (n := n) hF hT hX hi ha1 ha2 ha3 ha4 hnp hw hl hcs0 h kk
    · refine lv_tableIn (tgt := 747) hx hb dL_law_39 (by decide) (by decide) rfl (by decide) ?_
      exact wLc8 (n := n) hF hT hX hi ha1 ha2 ha3 ha4 hnp hw hl hcs0 h kk
    · refine lv_tableIn (tgt := 815) hx hb dL_law_39 (by decide) (by decide) rfl (by decide) ?_
      exact wLc9 (n := n) hF hT hX hi ha1 ha2 ha3 ha4 hnp hw hl hcs0 h kk
    · refine lv_tableIn (tgt := 907) hx hb dL_law_39 (by decide) (by decide) rfl (by decide) ?_
      exact wLc10 (n := n) hF hT hX hi ha1 ha2 ha3 ha4 hnp hw hl hcs0 h kk
    · refine lv_tableIn (tgt := 975) hx hb dL_law_39 (by decide) (by decide) rfl (by decide) ?_
      exact wLc11 (n := n) hF hT hX hi ha1 ha2 ha3 ha4 hnp hw hl hcs0 h kk
    · refine lv_tableIn (tgt := 1011) hx hb dL_law_39 (by decide) (by decide) rfl (by decide) ?_
      exact wLc12 (n := n) hF hT hX hi ha1 ha2 ha3 ha4 hnp hw hl hcs0 h kk
    · refine lv_tableIn (tgt := 1079) hx hb dL_law_39 (by decide) (by decide) rfl (by decide) ?_
      exact wLc13 (n := n) hF hT hX hi ha1 ha2 ha3 ha4 hnp hw hl hcs0 h kk
    · refine lv_tableIn (tgt := 1147) hx hb dL_law_39 (by decide) (by decide) rfl (by decide) ?_
      exact wLc14 (n := n) hF hT hX hi ha1 ha2 ha3 ha4 hnp hw hl hcs0 h kk
    · refine lv_tableIn (tgt := 1215) hx hb dL_law_39 (by decide) (by decide) rfl (by decide) ?_
      exact wLc15 (n := n) hF hT hX hi ha1 ha2 ha3 ha4 hnp hw hl hcs0 h kk
    · refine lv_tableIn (tgt := 1271) hx hb dL_law_39 (by decide) (by decide) rfl (by decide) ?_
      exact wLc16 (n := n) hF hT hX hi ha1 ha2 ha3 ha4 hnp hw hl hcs0 h kk
    · refine lv_tableIn (tgt := 1327) hx hb dL_law_39 (by decide) (by decide) rfl (by decide) ?_
      exact wLc17 (n := n) hF hT hX hi ha1 ha2 ha3 ha4 hnp hw hl hcs0 h kk
    · refine lv_tableIn (tgt := 1340) hx hb dL_law_39 (by decide) (by decide) rfl (by decide) ?_
      exact wLc18 (n := n) hF hT hX hi ha1 ha2 ha3 ha4 hnp hw hl hcs0 h kk
    · refine lv_tableIn (tgt := 1432) hx hb dL_law_39 (by decide) (by decide) rfl (by decide) ?_
      exact wLc19 (n := n) hF hT hX hi ha1 ha2 ha3 ha4 hnp hw hl hcs0 h kk
    · refine lv_tableIn (tgt := 1473) hx hb dL_law_39 (by decide) (by decide) rfl (by decide) ?_
      exact wLc20 (n := n) hF hT hX hi ha1 ha2 ha3 ha4 hnp hw hl hcs0 h kk
    · refine lv_tableIn (tgt := 1521) hx hb dL_law_39 (by decide) (by decide) rfl (by decide) ?_
      exact wLc21 (n := n) hF hT hX hi ha1 ha2 ha3 ha4 hnp hw hl hcs0 h kk
    · refine lv_tableIn (tgt := 1620) hx hb dL_law_39 (by decide) (by decide) rfl (by decide) ?_
      exact wLc22 (n := n) hF hT hX hi ha1 ha2 ha3 ha4 hnp hw hl hcs0 h kk
set_option maxHeartbeats 4000000 in
set_option maxRecDepth 100000 in
theorem wL_head {p : Program} {l : Launch} {e : Env} {s : State} {m : MethodId} {args : Array Value} {below : List Frame} {meth : Method} {c : Code} {Q : State → Prop} {X : zC} {b L : Nat} {xs : Nat → Int32} {H : Heap} {locs : List Loc} {cells slots i : Nat} {ls : Array Slot} {N : zN} {g : zG} (hF : zF p s m args meth c X cL_law 7 RL) (hX : zX_ b L xs s X) (hi : i ≤ 2600) (hw : zH X N g s H locs) (hl : lv_has ls 7 [(0, .ref b), (1, z_r N 0 0), (2, z_r N 6 0), (3, z_r N 17 0), (4, z_v (i : Int))]) (k1 : i + 5 ≤ L → W p l e zRL s m args below meth c H locs cells slots Q (F0 m 39 ls [z_v ((((zxs xs i) % 32).toNat : Nat) : Int)])) (k2 : W p l e zRL s m args below meth c H locs cells slots Q (F0 m 1694 ls [])) : W p l e zRL s m args below meth c H locs cells slots Q (F0 m 23 ls []) := by
  have hx := hF.1.1
  have hb := hF.1.2.1
  have hL : L ≤ 2560 := hX.2.2.2
  refine lv_iload hx hb dL_law_23 (lv_at hl 4 rfl) ?_
  refine lv_aload_n hx hb dL_law_25 rfl (lv_at hl 0 rfl) ?_
  refine zl_slen hF hw hX dL_law_26 ?_
  refine lv_iconst hx hb dL_law_27 rfl ?_
  refine zr_isub hF dL_law_28 ?_
  by_cases c5 : i + 5 ≤ L
  · refine zr_icmp_gt (tgt := 1694) (x := (i : Int)) (y := (L : Int) - 5) (A := some ()) (B := none) (o := ()) hF (by unfold zle; simp only [zIn]; rw [if_pos (by omega)]; first | done | (rw [if_pos (by omega)]) | (simp; omega)) dL_law_29 (by decide) (fun h => nomatch h) (fun _ => ?_)
    refine lv_aload_n hx hb dL_law_32 rfl (lv_at hl 0 rfl) ?_
    refine lv_iload hx hb dL_law_33 (lv_at hl 4 rfl) ?_
    refine zl_sld hF hw hX ⟨by omega, by omega⟩ dL_law_35 ?_
    refine lv_bipush (v := Int32.ofInt (31)) hx hb dL_law_36 (by decide) ?_
    refine lv_iand hx hb dL_law_38 ?_
    rw [z_and31]
    have e1 : (Int32.ofInt (zxs xs i)).toInt = zxs xs i := by
      show (Int32.ofInt (xs (i : Int).toNat).toInt).toInt = (xs (i : Int).toNat).toInt
      rw [Int32.ofInt_toInt]
    rw [e1]
    have e2 : zxs xs i % 32 = (((zxs xs i % 32).toNat : Nat) : Int) := by omega
    rw [e2]
    exact k1 c5
  · exact zr_icmp_gt (tgt := 1694) (x := (i : Int)) (y := (L : Int) - 5) (A := none) (B := some ()) (o := ()) hF (by unfold zle; simp only [zIn]; rw [if_pos (by omega)]; first | done | (rw [if_neg (by omega)]) | (simp; omega)) dL_law_29 (by decide) (fun _ => k2) (fun h => nomatch h)
set_option maxHeartbeats 4000000 in
set_option maxRecDepth 100000 in
theorem wL_loop {p : Program} {l : Launch} {e : Env} {s : State} {m : MethodId} {args : Array Value} {below : List Frame} {meth : Method} {c : Code} {Q : State → Prop} {X : zC} {b L : Nat} {xs : Nat → Int32} {REL : zG → Prop} (hstep : ∀ (cc : Nat) (a1 a2 a3 a4 : Int) (g : zG), cc < 32 → zIn a1 → zIn a2 → zIn a3 → zIn a4 → REL g → ∃ (n : Nat) (g' : zG), sLc cc n a1 a2 a3 a4 g = some g' ∧ REL g') (hF : zF p s m args meth c X cL_law 7 RL) (hT : l.stackTraces = false) (hX : zX_ b L xs s X) (kend : ∀ (cells slots : Nat) (H : Heap) (locs : List Loc) (ls : Array Slot) (N : zN) (g : zG), cells ≤ 601024 → slots ≤ 7293034 → zH X N g s H locs → W p l e zRL s m args below meth c H locs cells slots Q (F0 m 1694 ls [])) : ∀ (k i : Nat) (cells slots : Nat) (N : zN) (g : zG) (H : Heap) (locs : List Loc) (ls : Array Slot), L ≤ i + 5 * k → i ≤ 2600 → cells + 6 * k ≤ 601024 → slots + 80 * k ≤ 7293034 → zNp N → REL g → zH X N g s H locs → lv_has ls 7 [(0, .ref b), (1, z_r N 0 0), (2, z_r N 6 0), (3, z_r N 17 0), (4, z_v (i : Int))] → W p l e zRL s m args below meth c H locs cells slots Q (F0 m 23 ls []) := by
  intro k
  have hx := hF.1.1
  have hb := hF.1.2.1
  have hL : L ≤ 2560 := hX.2.2.2
  have hin : ∀ j : Int, zIn (zxs xs j) := fun j => ⟨Int32.le_toInt _, Int32.toInt_le _⟩
  induction k with
  | zero =>
    intro i cells slots N g H locs ls h1 h2 h3 h4 hnp hR hw hl
    exact wL_head hF hX h2 hw hl (fun z => absurd z (by omega)) (kend _ _ _ _ _ _ _ (by omega) (by omega) hw)
  | succ k ih =>
    intro i cells slots N g H locs ls h1 h2 h3 h4 hnp hR hw hl
    refine wL_head hF hX h2 hw hl (fun c5 => ?_) (kend _ _ _ _ _ _ _ (by omega) (by omega) hw)
    have hcc : (zxs xs i % 32).toNat < 32 := by omega
    obtain ⟨n, g', h, hR'⟩ := hstep _ (zxs xs ((i : Int) + 1)) (zxs xs ((i : Int) + 2)) (zxs xs ((i : Int) + 3)) (zxs xs ((i : Int) + 4)) g hcc (hin _) (hin _) (hin _) (hin _) hR
    refine wL_sw hF hT hX ⟨by omega, by omega⟩ rfl rfl rfl rfl hnp hw hl ⟨by omega, by omega⟩ hcc h (fun N2 cells2 slots2 H locs ls hsm hcl hw hl => ?_)
    refine lv_iinc (v := Int32.ofInt ((i + 5 : Nat) : Int)) (lv' := [(4, z_v ((i + 5 : Nat) : Int)), (0, .ref b), (1, z_r N2 0 0), (2, z_r N2 6 0), (3, z_r N2 17 0)]) hx hb dL_law_1688 hl (k := 4) rfl (by rw [← Int32.ofInt_add]; rfl) (by decide) rfl (fun ls hl => ?_)
    refine lv_goto (tgt := 23) hx hb dL_law_1691 (by decide) ?_
    exact ih (i + 5) cells2 slots2 N2 g' H locs ls (by omega) (by omega) (by omega) (by omega) (hsm.2 hnp) hR' hw (lv_sub hl [1, 2, 3, 4, 0] rfl)

/-! the law's count of steps -/
set_option maxHeartbeats 4000000 in
set_option maxRecDepth 100000 in
theorem wL_steps {p : Program} {l : Launch} {e : Env} {s : State} {m : MethodId} {args : Array Value} {below : List Frame} {meth : Method} {c : Code} {Q : State → Prop} {X : zC} {b L : Nat} {xs : Nat → Int32} {H : Heap} {locs : List Loc} {cells slots T : Nat} {ls : Array Slot} {N : zN} {g : zG} (hF : zF p s m args meth c X cL_law 7 RL) (hX : zX_ b L xs s X) (hT : (T : Int) = if (L : Int) / 3 ≤ 80 then (L : Int) / 3 else 80) (hw : zH X N g s H locs) (hl : lv_has ls 7 [(0, .ref b), (1, z_r N 0 0), (2, z_r N 17 0)])
    (kk : ∀ (H : Heap) (locs : List Loc) (ls : Array Slot), zH X N g s H locs → lv_has ls 7 [(0, .ref b), (1, z_r N 0 0), (2, z_r N 17 0), (3, z_v 1), (4, z_v (T : Int)), (5, z_v ((0 : Nat) : Int))] → W p l e zRL s m args below meth c H locs cells slots Q (F0 m 86 ls [])) : W p l e zRL s m args below meth c H locs cells slots Q (F0 m 62 ls [z_v 1]) := by
  have hx := hF.1.1
  have hb := hF.1.2.1
  have hL : L ≤ 260 := hX.2.2.2
  have hz : zdv (L : Int) 3 (some ()) = some () := by unfold zdv; simp only [zIn]; rw [if_pos (by omega)]
  have etd : (L : Int).tdiv 3 = (L : Int) / 3 := Int.tdiv_eq_ediv_of_nonneg (by omega)
  refine lv_istore_n (lv' := [(3, z_v 1), (0, .ref b), (1, z_r N 0 0), (2, z_r N 17 0)]) hx hb dL_law_62 rfl hl (by decide) rfl (fun ls hl => ?_)
  have hend : ∀ (ls : Array Slot), lv_has ls 7 [(3, z_v 1), (0, .ref b), (1, z_r N 0 0), (2, z_r N 17 0)] → W p l e zRL s m args below meth c H locs cells slots Q (F0 m 81 ls [z_v (T : Int)]) := by
    intro ls hl
    refine lv_istore (lv' := [(4, z_v (T : Int)), (3, z_v 1), (0, .ref b), (1, z_r N 0 0), (2, z_r N 17 0)]) hx hb dL_law_81 hl (by decide) rfl (fun ls hl => ?_)
    refine lv_iconst hx hb dL_law_83 rfl ?_
    refine lv_istore (lv' := [(5, z_v ((0 : Nat) : Int)), (4, z_v (T : Int)), (3, z_v 1), (0, .ref b), (1, z_r N 0 0), (2, z_r N 17 0)]) hx hb dL_law_84 hl (by decide) rfl (fun ls hl => ?_)
    exact kk H locs ls hw (lv_sub hl [3, 4, 5, 2, 1, 0] rfl)
  refine lv_aload_n hx hb dL_law_63 rfl (lv_at hl 1 rfl) ?_
  refine zl_slen hF hw hX dL_law_64 ?_
  refine lv_iconst hx hb dL_law_65 rfl ?_
  refine zr_idiv hF hz dL_law_66 (fun _ => ?_)
  rw [etd]
  refine lv_bipush (v := Int32.ofInt (80)) hx hb dL_law_67 (by decide) ?_
  by_cases c80 : (L : Int) / 3 ≤ 80
  · rw [if_pos c80] at hT
    refine zr_icmp_le (tgt := 77) (x := (L : Int) / 3) (y := 80) (A := some ()) (B := none) (o := ()) hF (by unfold zle; simp only [zIn]; rw [if_pos (by omega), if_pos c80]) dL_law_69 (by decide) (fun _ => ?_) (fun h => nomatch h)
    refine lv_aload_n hx hb dL_law_77 rfl (lv_at hl 1 rfl) ?_
    refine zl_slen hF hw hX dL_law_78 ?_
    refine lv_iconst hx hb dL_law_79 rfl ?_
    refine zr_idiv hF hz dL_law_80 (fun _ => ?_)
    rw [etd, ← hT]
    exact hend ls hl
  · rw [if_neg c80] at hT
    refine zr_icmp_le (tgt := 77) (x := (L : Int) / 3) (y := 80) (A := none) (B := some ()) (o := ()) hF (by unfold zle; simp only [zIn]; rw [if_pos (by omega), if_neg c80]) dL_law_69 (by decide) (fun h => nomatch h) (fun _ => ?_)
    refine lv_bipush (v := Int32.ofInt (80)) hx hb dL_law_72 (by decide) ?_
    refine lv_goto (tgt := 81) hx hb dL_law_74 (by decide) ?_
    rw [← hT]
    exact hend ls hl

/-! statics, constants, casts at the entry -/
theorem z_tx {s : State} {args : Array Value} {k : Nat} {tx : String} {cur : Nat} (hcur : s.vm.findClass "SkyloadBureau" = some cur) (h : (Cond.stringRef "SkyloadBureau" k tx).before args s = true) : ∃ a : Nat, vk_R RX4 k tx a s := by
  obtain ⟨k9, cf, i, a, -, -, -, -, -, he⟩ := Cond.stringRef_spec hcur h
  exact ⟨a, vk_R.of (own := "SkyloadBureau") h he⟩
set_option maxHeartbeats 4000000 in
theorem z_baseS {s : State} {b em : Nat} {D : va_G} {cy : Nat → ClassId} (hts : ∀ w ∈ lw_tbl, w.before #[Value.ref b] s = true) (hgv : (Jvm.Cond.and given_1 narrow_1).before #[Value.ref b] s = true) (hem : (Term.static "java/util/ArrayList" "DEFAULTCAPACITY_EMPTY_ELEMENTDATA" "[Ljava/lang/Object;").eval #[Value.ref b] s none [] s = some (.ref em)) : zS (D, cy, s.heap.size, em) s := by
  have hs := flat_of_before _ hgv
  have hg : ∀ w ∈ lw_G, w.before #[Value.ref b] s = true := fun w h => hts w (List.mem_filter.mp h).1
  have hA : ∀ a : Nat, a < s.heap.size → ¬ zA (D, cy, s.heap.size, em) a := fun a h z => absurd (show s.heap.size ≤ a from z) (by omega)
  obtain ⟨cur, kC, hcur, -⟩ := Cond.instantiable_spec (hg _ qw_36)
  refine ⟨vx_Zqof (hts _ qr_170) (hg _ qw_24) (hs _ (by decide +kernel)) hA, vx_Zqof (hts _ qr_172) (hg _ qw_24) (hs _ (by decide +kernel)) hA, va_Zof (hts _ qr_56) (hg _ qw_18) hem hA, fun q hq => ?_, fun q hq => ?_, fun q hq => ?_, fun y hy => ?_, va_Mi.of (hs _ (by decide +kernel)), va_AO.of (hts _ qr_557), va_Dc.of (hts _ qr_779)⟩
  · simp only [z_casts, List.mem_cons, List.not_mem_nil, or_false] at hq
    rcases hq with rfl | rfl | rfl | rfl | rfl
    · exact va_Nw.of rfl (hts _ qr_145)
    · exact va_Nw.of rfl (hts _ qr_216)
    · exact va_Nw.of rfl (hts _ qr_442)
    · exact va_Nw.of rfl (hts _ qr_773)
    · exact va_Nw.of rfl (hts _ qr_774)
  · simp only [z_ncasts, List.mem_cons, List.not_mem_nil, or_false] at hq
    cases hq
    exact va_Nc.of (hs _ (by decide +kernel))
  · simp only [z_texts, List.mem_cons, List.not_mem_nil, or_false] at hq
    rcases hq with rfl | rfl | rfl | rfl | rfl | rfl | rfl | rfl | rfl | rfl | rfl | rfl | rfl | rfl
    · exact z_tx hcur (hts _ qr_409)
    · exact z_tx hcur (hts _ qr_223)
    · exact z_tx hcur (hts _ qr_449)
    · exact z_tx hcur (hts _ qr_573)
    · exact z_tx hcur (hts _ qr_184)
    · exact z_tx hcur (hts _ qr_578)
    · exact z_tx hcur (hts _ qr_684)
    · exact z_tx hcur (hts _ qr_590)
    · exact z_tx hcur (hts _ qr_626)
    · exact z_tx hcur (hts _ qr_630)
    · exact z_tx hcur (hts _ qr_671)
    · exact z_tx hcur (hts _ qr_724)
    · exact z_tx hcur (hts _ qr_729)
    · exact z_tx hcur (hts _ qr_731)
  · simp only [z_decls, List.mem_cons, List.not_mem_nil, or_false] at hy
    rcases hy with rfl | rfl | rfl
    · exact va_Nw.of rfl (hts _ qr_147)
    · exact va_Nw.of rfl (hts _ qr_149)
    · exact va_Nw.of rfl (hts _ qr_151)

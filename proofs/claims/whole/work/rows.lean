section
-- ===== PART A: goes FIRST, ahead of the names: the tables' words, and 'selects' of the private methods out of them =====
/-- a private method of a class that the tables say can be made, by its rows of tables_1 -/
def lw_okq (q : MethodName × Nat) : Prop := (q.1.cls ≠ "java/lang/invoke/MethodHandle" ∧ q.1.cls ≠ "java/lang/invoke/VarHandle") ∧ Cond.instantiable q.1.cls q.2 ∈ tables_1 ∧ Cond.privateMethod q.1 ∈ tables_1 ∧ Cond.instanceMethod q.1 ∈ tables_1
theorem lw_p0 : lw_okq (⟨"SkyloadBureau", "reckonDues", "()V"⟩, 4) := ⟨⟨by decide +kernel, by decide +kernel⟩, List.mem_of_getElem? (i := 23) (by decide +kernel), List.mem_of_getElem? (i := 128) (by decide +kernel), List.mem_of_getElem? (i := 129) (by decide +kernel)⟩
theorem lw_p1 : lw_okq (⟨"SkyloadBureau", "reckonPenalties", "(LSkyloadBureau$Regulation;I)V"⟩, 4) := ⟨⟨by decide +kernel, by decide +kernel⟩, List.mem_of_getElem? (i := 23) (by decide +kernel), List.mem_of_getElem? (i := 156) (by decide +kernel), List.mem_of_getElem? (i := 157) (by decide +kernel)⟩
theorem lw_p2 : lw_okq (⟨"SkyloadBureau$Dealing", "lineUp", "(LSkyloadBureau$Regulation;Ljava/util/ArrayList;)V"⟩, 5) := ⟨⟨by decide +kernel, by decide +kernel⟩, List.mem_of_getElem? (i := 57) (by decide +kernel), List.mem_of_getElem? (i := 164) (by decide +kernel), List.mem_of_getElem? (i := 165) (by decide +kernel)⟩
theorem lw_p3 : lw_okq (⟨"SkyloadBureau$Dealing", "serve", "(LSkyloadBureau$Line;LSkyloadBureau$Regulation;)I"⟩, 5) := ⟨⟨by decide +kernel, by decide +kernel⟩, List.mem_of_getElem? (i := 57) (by decide +kernel), List.mem_of_getElem? (i := 203) (by decide +kernel), List.mem_of_getElem? (i := 204) (by decide +kernel)⟩
theorem lw_p4 : lw_okq (⟨"SkyloadBureau", "sumOfDues", "()I"⟩, 4) := ⟨⟨by decide +kernel, by decide +kernel⟩, List.mem_of_getElem? (i := 23) (by decide +kernel), List.mem_of_getElem? (i := 250) (by decide +kernel), List.mem_of_getElem? (i := 251) (by decide +kernel)⟩
theorem lw_p5 : lw_okq (⟨"java/lang/Throwable", "fillInStackTrace", "(I)Ljava/lang/Throwable;"⟩, 6) := ⟨⟨by decide +kernel, by decide +kernel⟩, List.mem_of_getElem? (i := 322) (by decide +kernel), List.mem_of_getElem? (i := 320) (by decide +kernel), List.mem_of_getElem? (i := 321) (by decide +kernel)⟩
theorem lw_p6 : lw_okq (⟨"java/util/ArrayList", "add", "(Ljava/lang/Object;[Ljava/lang/Object;I)V"⟩, 3) := ⟨⟨by decide +kernel, by decide +kernel⟩, List.mem_of_getElem? (i := 31) (by decide +kernel), List.mem_of_getElem? (i := 448) (by decide +kernel), List.mem_of_getElem? (i := 449) (by decide +kernel)⟩
theorem lw_p7 : lw_okq (⟨"java/util/ArrayList", "grow", "()[Ljava/lang/Object;"⟩, 3) := ⟨⟨by decide +kernel, by decide +kernel⟩, List.mem_of_getElem? (i := 31) (by decide +kernel), List.mem_of_getElem? (i := 452) (by decide +kernel), List.mem_of_getElem? (i := 453) (by decide +kernel)⟩
theorem lw_p8 : lw_okq (⟨"java/util/ArrayList", "grow", "(I)[Ljava/lang/Object;"⟩, 3) := ⟨⟨by decide +kernel, by decide +kernel⟩, List.mem_of_getElem? (i := 31) (by decide +kernel), List.mem_of_getElem? (i := 456) (by decide +kernel), List.mem_of_getElem? (i := 457) (by decide +kernel)⟩
theorem lw_p9 : lw_okq (⟨"SkyloadBureau", "flightAt", "(I)LSkyloadBureau$Flight;"⟩, 4) := ⟨⟨by decide +kernel, by decide +kernel⟩, List.mem_of_getElem? (i := 23) (by decide +kernel), List.mem_of_getElem? (i := 504) (by decide +kernel), List.mem_of_getElem? (i := 505) (by decide +kernel)⟩
theorem lw_p10 : lw_okq (⟨"SkyloadBureau", "loadOf", "(III)I"⟩, 4) := ⟨⟨by decide +kernel, by decide +kernel⟩, List.mem_of_getElem? (i := 23) (by decide +kernel), List.mem_of_getElem? (i := 565) (by decide +kernel), List.mem_of_getElem? (i := 566) (by decide +kernel)⟩
theorem lw_p11 : lw_okq (⟨"SkyloadBureau", "lineUpEntering", "(I)V"⟩, 4) := ⟨⟨by decide +kernel, by decide +kernel⟩, List.mem_of_getElem? (i := 23) (by decide +kernel), List.mem_of_getElem? (i := 597) (by decide +kernel), List.mem_of_getElem? (i := 598) (by decide +kernel)⟩
theorem lw_p12 : lw_okq (⟨"SkyloadBureau", "regulationAt", "(I)LSkyloadBureau$Regulation;"⟩, 4) := ⟨⟨by decide +kernel, by decide +kernel⟩, List.mem_of_getElem? (i := 23) (by decide +kernel), List.mem_of_getElem? (i := 661) (by decide +kernel), List.mem_of_getElem? (i := 662) (by decide +kernel)⟩
theorem lw_p13 : lw_okq (⟨"SkyloadBureau", "chargedToRegulation", "(I)I"⟩, 4) := ⟨⟨by decide +kernel, by decide +kernel⟩, List.mem_of_getElem? (i := 23) (by decide +kernel), List.mem_of_getElem? (i := 684) (by decide +kernel), List.mem_of_getElem? (i := 685) (by decide +kernel)⟩
theorem lw_p14 : lw_okq (⟨"SkyloadBureauModel", "holds", "(I)Z"⟩, 30) := ⟨⟨by decide +kernel, by decide +kernel⟩, List.mem_of_getElem? (i := 782) (by decide +kernel), List.mem_of_getElem? (i := 891) (by decide +kernel), List.mem_of_getElem? (i := 892) (by decide +kernel)⟩
theorem lw_p15 : lw_okq (⟨"SkyloadBureauModel", "isFlight", "(I)Z"⟩, 30) := ⟨⟨by decide +kernel, by decide +kernel⟩, List.mem_of_getElem? (i := 782) (by decide +kernel), List.mem_of_getElem? (i := 899) (by decide +kernel), List.mem_of_getElem? (i := 900) (by decide +kernel)⟩
def lw_privs_1 : List (MethodName × Nat) := [(⟨"SkyloadBureau", "reckonDues", "()V"⟩, 4), (⟨"SkyloadBureau", "reckonPenalties", "(LSkyloadBureau$Regulation;I)V"⟩, 4), (⟨"SkyloadBureau$Dealing", "lineUp", "(LSkyloadBureau$Regulation;Ljava/util/ArrayList;)V"⟩, 5), (⟨"SkyloadBureau$Dealing", "serve", "(LSkyloadBureau$Line;LSkyloadBureau$Regulation;)I"⟩, 5), (⟨"SkyloadBureau", "sumOfDues", "()I"⟩, 4), (⟨"java/lang/Throwable", "fillInStackTrace", "(I)Ljava/lang/Throwable;"⟩, 6), (⟨"java/util/ArrayList", "add", "(Ljava/lang/Object;[Ljava/lang/Object;I)V"⟩, 3), (⟨"java/util/ArrayList", "grow", "()[Ljava/lang/Object;"⟩, 3), (⟨"java/util/ArrayList", "grow", "(I)[Ljava/lang/Object;"⟩, 3), (⟨"SkyloadBureau", "flightAt", "(I)LSkyloadBureau$Flight;"⟩, 4), (⟨"SkyloadBureau", "loadOf", "(III)I"⟩, 4), (⟨"SkyloadBureau", "lineUpEntering", "(I)V"⟩, 4), (⟨"SkyloadBureau", "regulationAt", "(I)LSkyloadBureau$Regulation;"⟩, 4), (⟨"SkyloadBureau", "chargedToRegulation", "(I)I"⟩, 4), (⟨"SkyloadBureauModel", "holds", "(I)Z"⟩, 30), (⟨"SkyloadBureauModel", "isFlight", "(I)Z"⟩, 30)]
theorem lw_r1 : ∀ q ∈ lw_privs_1, lw_okq q := List.forall_mem_cons.mpr ⟨lw_p0, List.forall_mem_cons.mpr ⟨lw_p1, List.forall_mem_cons.mpr ⟨lw_p2, List.forall_mem_cons.mpr ⟨lw_p3, List.forall_mem_cons.mpr ⟨lw_p4, List.forall_mem_cons.mpr ⟨lw_p5, List.forall_mem_cons.mpr ⟨lw_p6, List.forall_mem_cons.mpr ⟨lw_p7, List.forall_mem_cons.mpr ⟨lw_p8, List.forall_mem_cons.mpr ⟨lw_p9, List.forall_mem_cons.mpr ⟨lw_p10, List.forall_mem_cons.mpr ⟨lw_p11, List.forall_mem_cons.mpr ⟨lw_p12, List.forall_mem_cons.mpr ⟨lw_p13, List.forall_mem_cons.mpr ⟨lw_p14, List.forall_mem_cons.mpr ⟨lw_p15, fun _ h => absurd h List.not_mem_nil⟩⟩⟩⟩⟩⟩⟩⟩⟩⟩⟩⟩⟩⟩⟩⟩
theorem lw_p16 : lw_okq (⟨"SkyloadBureauModel", "departure", "(I)I"⟩, 30) := ⟨⟨by decide +kernel, by decide +kernel⟩, List.mem_of_getElem? (i := 782) (by decide +kernel), List.mem_of_getElem? (i := 914) (by decide +kernel), List.mem_of_getElem? (i := 915) (by decide +kernel)⟩
theorem lw_p17 : lw_okq (⟨"SkyloadBureauModel", "enters", "(II)Z"⟩, 30) := ⟨⟨by decide +kernel, by decide +kernel⟩, List.mem_of_getElem? (i := 782) (by decide +kernel), List.mem_of_getElem? (i := 922) (by decide +kernel), List.mem_of_getElem? (i := 923) (by decide +kernel)⟩
theorem lw_p18 : lw_okq (⟨"SkyloadBureauModel", "overOf", "(II)I"⟩, 30) := ⟨⟨by decide +kernel, by decide +kernel⟩, List.mem_of_getElem? (i := 782) (by decide +kernel), List.mem_of_getElem? (i := 926) (by decide +kernel), List.mem_of_getElem? (i := 927) (by decide +kernel)⟩
theorem lw_p19 : lw_okq (⟨"SkyloadBureauModel", "loadOf", "(III)I"⟩, 30) := ⟨⟨by decide +kernel, by decide +kernel⟩, List.mem_of_getElem? (i := 782) (by decide +kernel), List.mem_of_getElem? (i := 934) (by decide +kernel), List.mem_of_getElem? (i := 935) (by decide +kernel)⟩
theorem lw_p20 : lw_okq (⟨"SkyloadBureauModel", "lays", "(IIIII)V"⟩, 30) := ⟨⟨by decide +kernel, by decide +kernel⟩, List.mem_of_getElem? (i := 782) (by decide +kernel), List.mem_of_getElem? (i := 958) (by decide +kernel), List.mem_of_getElem? (i := 959) (by decide +kernel)⟩
theorem lw_p21 : lw_okq (⟨"SkyloadBureauModel", "isRegulation", "(I)Z"⟩, 30) := ⟨⟨by decide +kernel, by decide +kernel⟩, List.mem_of_getElem? (i := 782) (by decide +kernel), List.mem_of_getElem? (i := 966) (by decide +kernel), List.mem_of_getElem? (i := 967) (by decide +kernel)⟩
theorem lw_p22 : lw_okq (⟨"SkyloadBureauModel", "dealt", "(I)V"⟩, 30) := ⟨⟨by decide +kernel, by decide +kernel⟩, List.mem_of_getElem? (i := 782) (by decide +kernel), List.mem_of_getElem? (i := 978) (by decide +kernel), List.mem_of_getElem? (i := 979) (by decide +kernel)⟩
theorem lw_p23 : lw_okq (⟨"SkyloadBureauModel", "begin", "(II)I"⟩, 30) := ⟨⟨by decide +kernel, by decide +kernel⟩, List.mem_of_getElem? (i := 782) (by decide +kernel), List.mem_of_getElem? (i := 982) (by decide +kernel), List.mem_of_getElem? (i := 983) (by decide +kernel)⟩
theorem lw_p24 : lw_okq (⟨"SkyloadBureauModel", "nextOf", "(IIZ)I"⟩, 30) := ⟨⟨by decide +kernel, by decide +kernel⟩, List.mem_of_getElem? (i := 782) (by decide +kernel), List.mem_of_getElem? (i := 986) (by decide +kernel), List.mem_of_getElem? (i := 987) (by decide +kernel)⟩
theorem lw_p25 : lw_okq (⟨"SkyloadBureauModel", "timeOf", "(IIZ)I"⟩, 30) := ⟨⟨by decide +kernel, by decide +kernel⟩, List.mem_of_getElem? (i := 782) (by decide +kernel), List.mem_of_getElem? (i := 990) (by decide +kernel), List.mem_of_getElem? (i := 991) (by decide +kernel)⟩
theorem lw_p26 : lw_okq (⟨"SkyloadBureauModel", "plannedOver", "(II)I"⟩, 30) := ⟨⟨by decide +kernel, by decide +kernel⟩, List.mem_of_getElem? (i := 782) (by decide +kernel), List.mem_of_getElem? (i := 994) (by decide +kernel), List.mem_of_getElem? (i := 995) (by decide +kernel)⟩
theorem lw_p27 : lw_okq (⟨"SkyloadBureauModel", "takes", "(II)I"⟩, 30) := ⟨⟨by decide +kernel, by decide +kernel⟩, List.mem_of_getElem? (i := 782) (by decide +kernel), List.mem_of_getElem? (i := 998) (by decide +kernel), List.mem_of_getElem? (i := 999) (by decide +kernel)⟩
theorem lw_p28 : lw_okq (⟨"SkyloadBureauModel", "ending", "(II)I"⟩, 30) := ⟨⟨by decide +kernel, by decide +kernel⟩, List.mem_of_getElem? (i := 782) (by decide +kernel), List.mem_of_getElem? (i := 1002) (by decide +kernel), List.mem_of_getElem? (i := 1003) (by decide +kernel)⟩
theorem lw_p29 : lw_okq (⟨"SkyloadBureauModel", "dealAll", "(I)V"⟩, 30) := ⟨⟨by decide +kernel, by decide +kernel⟩, List.mem_of_getElem? (i := 782) (by decide +kernel), List.mem_of_getElem? (i := 1018) (by decide +kernel), List.mem_of_getElem? (i := 1019) (by decide +kernel)⟩
theorem lw_p30 : lw_okq (⟨"SkyloadBureauModel", "dueOf", "(II)I"⟩, 30) := ⟨⟨by decide +kernel, by decide +kernel⟩, List.mem_of_getElem? (i := 782) (by decide +kernel), List.mem_of_getElem? (i := 1022) (by decide +kernel), List.mem_of_getElem? (i := 1023) (by decide +kernel)⟩
theorem lw_p31 : lw_okq (⟨"SkyloadBureauModel", "dueBy", "(II)I"⟩, 30) := ⟨⟨by decide +kernel, by decide +kernel⟩, List.mem_of_getElem? (i := 782) (by decide +kernel), List.mem_of_getElem? (i := 1026) (by decide +kernel), List.mem_of_getElem? (i := 1027) (by decide +kernel)⟩
def lw_privs_2 : List (MethodName × Nat) := [(⟨"SkyloadBureauModel", "departure", "(I)I"⟩, 30), (⟨"SkyloadBureauModel", "enters", "(II)Z"⟩, 30), (⟨"SkyloadBureauModel", "overOf", "(II)I"⟩, 30), (⟨"SkyloadBureauModel", "loadOf", "(III)I"⟩, 30), (⟨"SkyloadBureauModel", "lays", "(IIIII)V"⟩, 30), (⟨"SkyloadBureauModel", "isRegulation", "(I)Z"⟩, 30), (⟨"SkyloadBureauModel", "dealt", "(I)V"⟩, 30), (⟨"SkyloadBureauModel", "begin", "(II)I"⟩, 30), (⟨"SkyloadBureauModel", "nextOf", "(IIZ)I"⟩, 30), (⟨"SkyloadBureauModel", "timeOf", "(IIZ)I"⟩, 30), (⟨"SkyloadBureauModel", "plannedOver", "(II)I"⟩, 30), (⟨"SkyloadBureauModel", "takes", "(II)I"⟩, 30), (⟨"SkyloadBureauModel", "ending", "(II)I"⟩, 30), (⟨"SkyloadBureauModel", "dealAll", "(I)V"⟩, 30), (⟨"SkyloadBureauModel", "dueOf", "(II)I"⟩, 30), (⟨"SkyloadBureauModel", "dueBy", "(II)I"⟩, 30)]
theorem lw_r2 : ∀ q ∈ lw_privs_2, lw_okq q := List.forall_mem_cons.mpr ⟨lw_p16, List.forall_mem_cons.mpr ⟨lw_p17, List.forall_mem_cons.mpr ⟨lw_p18, List.forall_mem_cons.mpr ⟨lw_p19, List.forall_mem_cons.mpr ⟨lw_p20, List.forall_mem_cons.mpr ⟨lw_p21, List.forall_mem_cons.mpr ⟨lw_p22, List.forall_mem_cons.mpr ⟨lw_p23, List.forall_mem_cons.mpr ⟨lw_p24, List.forall_mem_cons.mpr ⟨lw_p25, List.forall_mem_cons.mpr ⟨lw_p26, List.forall_mem_cons.mpr ⟨lw_p27, List.forall_mem_cons.mpr ⟨lw_p28, List.forall_mem_cons.mpr ⟨lw_p29, List.forall_mem_cons.mpr ⟨lw_p30, List.forall_mem_cons.mpr ⟨lw_p31, fun _ h => absurd h List.not_mem_nil⟩⟩⟩⟩⟩⟩⟩⟩⟩⟩⟩⟩⟩⟩⟩⟩
theorem lw_p32 : lw_okq (⟨"SkyloadBureauModel", "sumBy", "(I)I"⟩, 30) := ⟨⟨by decide +kernel, by decide +kernel⟩, List.mem_of_getElem? (i := 782) (by decide +kernel), List.mem_of_getElem? (i := 1039) (by decide +kernel), List.mem_of_getElem? (i := 1040) (by decide +kernel)⟩
theorem lw_p33 : lw_okq (⟨"SkyloadBureauModel", "deals", "(IZ)V"⟩, 30) := ⟨⟨by decide +kernel, by decide +kernel⟩, List.mem_of_getElem? (i := 782) (by decide +kernel), List.mem_of_getElem? (i := 1051) (by decide +kernel), List.mem_of_getElem? (i := 1052) (by decide +kernel)⟩
theorem lw_p34 : lw_okq (⟨"SkyloadBureauModel", "goes", "(II)V"⟩, 30) := ⟨⟨by decide +kernel, by decide +kernel⟩, List.mem_of_getElem? (i := 782) (by decide +kernel), List.mem_of_getElem? (i := 1063) (by decide +kernel), List.mem_of_getElem? (i := 1064) (by decide +kernel)⟩
def lw_privs_3 : List (MethodName × Nat) := [(⟨"SkyloadBureauModel", "sumBy", "(I)I"⟩, 30), (⟨"SkyloadBureauModel", "deals", "(IZ)V"⟩, 30), (⟨"SkyloadBureauModel", "goes", "(II)V"⟩, 30)]
theorem lw_r3 : ∀ q ∈ lw_privs_3, lw_okq q := List.forall_mem_cons.mpr ⟨lw_p32, List.forall_mem_cons.mpr ⟨lw_p33, List.forall_mem_cons.mpr ⟨lw_p34, fun _ h => absurd h List.not_mem_nil⟩⟩⟩
def lw_privs : List (MethodName × Nat) := lw_privs_1 ++ (lw_privs_2 ++ (lw_privs_3))
def lw_tbl : List Cond := k2_sels lw_privs ++ tables_1
theorem lw_privs_ok : ∀ q ∈ lw_privs, lw_okq q := by
  show ∀ q ∈ lw_privs_1 ++ (lw_privs_2 ++ (lw_privs_3)), lw_okq q
  exact List.forall_mem_append.mpr ⟨lw_r1, List.forall_mem_append.mpr ⟨lw_r2, lw_r3⟩⟩
-- ===== end of PART A; then your names; then what follows =====
end
section
/-! ===== BEGIN words of one list among another's, by their places ===== -/
theorem goodIn_r {big : List Cond} (ws : List Cond) (ps : List Nat) (hp : ws = ps.filterMap (fun i => big[i]?)) (h : ws.all goodWord = true) : GoodIn big ws := by
  intro w hw
  have h1 := List.all_eq_true.mp h w hw
  rw [hp] at hw
  obtain ⟨i, -, hi⟩ := List.mem_filterMap.mp hw
  have hm : w ∈ big := by first | exact List.mem_of_getElem? hi | exact List.getElem?_mem hi
  exact ⟨hm, good_of_word h1⟩
theorem goodIn_app {big a b : List Cond} (ha : GoodIn big a) (hb : GoodIn big b) : GoodIn big (a ++ b) := fun w h => (List.mem_append.mp h).elim (ha w) (hb w)
theorem goodIn_ca {big a b : List Cond} {c : Cond} (ha : GoodIn big (c :: a)) (hb : GoodIn big b) : GoodIn big (c :: (a ++ b)) := fun w h => (List.mem_cons.mp h).elim (fun e => ha w (List.mem_cons.mpr (Or.inl e))) (fun h => (List.mem_append.mp h).elim (fun h => ha w (List.mem_cons.mpr (Or.inr h))) (hb w))
theorem goodIn_sub {big ws : List Cond} (hm : ∀ w ∈ ws, w ∈ big) (h : ws.all goodWord = true) : GoodIn big ws := fun w hw => ⟨hm w hw, good_of_word (List.all_eq_true.mp h w hw)⟩
/-! ===== END ===== -/

/-! ===== BEGIN exceptions that leave a method, and their catching by the caller (launches without stack traces) ===== -/
section VXA
/-! The laws vx_back, vx_callV, vx_callS, vx_callSW, vx_throw0, vx_throwS follow proofs of the library, with one case more: JvmDerived/Free/Laws.lean (Back.of_free), Shelf42/LK1.lean (callV, callS), Shelf/KitTraced.lean (throwNew0V, throwNewS). -/
/-- where a method has thrown q: the class by its name, the cell, what was written, the world -/
def vx_T (XC : String → State → State → Prop) (st : State) (q : Addr) (t : State) (mc ms : Nat) (free : Addr → Prop) : Prop :=
  ∃ (E : String) (ce : Cell) (L : List Loc), XC E st t ∧ t.heap[q]? = some ce ∧ ce.vm = .none ∧ st.vm.findClass E = some ce.cls ∧ st.WarmedH t.vm ∧ st.sameButNew ({ t with vm := st.vm } : State) L mc ms ∧ ∀ z ∈ L, free z.base
def vx_Q (Qc : Array Value → State → Outcome → State → Prop) (XC : String → State → State → Prop) (mc ms : Nat) (free : Addr → Prop) : Array Value → State → Outcome → State → Prop := fun a st o t =>
  (Qc a st o t ∧ ∃ L, FrameEnd st o t L mc ms ∧ ∀ q ∈ L, free q.base) ∨ ∃ q, o = .threw q ∧ vx_T XC st q t mc ms free
/-- a callee that returns or throws -/
def vx_Met (l : Launch) (y : MethodName) (ws : List Cond) (rm : Room) (Pc : Array Value → State → Prop) (Qc : Array Value → State → Outcome → State → Prop) (XC : String → State → State → Prop) (mc ms : Nat) (free : Addr → Prop) : Prop :=
  MetFree l y (headSpec ws rm) Pc (fun _ _ _ _ _ => True) (vx_Q Qc XC mc ms free)
def vx_Post (XC : String → State → State → Prop) (mc ms : Nat) (free : Addr → Prop) : Pt → Array Value → Addr → Pt → Prop := fun A a q B =>
  ∃ (g : JFrame) (mk : MethodId) (t : State) (L : List Loc) (E : String) (ce : Cell), B.U.heap = t.heap ∧ B.U.vm = t.vm ∧ XC E (A.U.calling g mk a) t ∧ t.heap[q]? = some ce ∧ ce.vm = .none ∧ A.U.vm.findClass E = some ce.cls ∧ B.locs = A.locs ++ L ∧ (∀ z ∈ L, free z.base) ∧ B.cells = A.cells + mc ∧ B.slots = A.slots + ms
def vx_Back (l : Launch) (R : Room) (p : Program) (e : Env) (below : List Frame) (s : State) (sargs : Array Value) (y : MethodName) (len W9 : Nat)
    (Pre : Pt → Array Value → Prop) (Post : Pt → Array Value → Option Value → Pt → Prop) (PostX : Pt → Array Value → Addr → Pt → Prop) : Prop :=
  ∀ (m : MethodId) (meth : Method) (c : Code) (A : Pt) (g : JFrame) (ig : Instr) (mk : MethodId) (a : Array Value),
    Stand p l e R s m sargs below meth c A.U A.locs A.cells A.slots → g.method = m → g.locals.size = c.maxLocals → decode c.code g.pc = .ok (ig, len) →
    2 * g.monitorRoom + (g.stack.map fun v => v.category).sum ≤ W9 → A.U.methodNamed? y = some mk → Pre A a →
    (∃ (v : Option Value) (B : Pt), Stand p l e R s m sargs below meth c B.U B.locs B.cells B.slots ∧ Post A a v B ∧
      Steps p.tables e below (doInvoke e (A.U.setTop g) [] mk a).1 (B.U.setTop { g with pc := g.pc + len, stack := v.toList ++ g.stack })) ∨
    (∃ (q : Addr) (B : Pt), Stand p l e R s m sargs below meth c B.U B.locs B.cells B.slots ∧ PostX A a q B ∧
      Steps p.tables e below (doInvoke e (A.U.setTop g) [] mk a).1 ((B.U.setTop g).pushFrame (.throwing q)))
section Payer
variable {l : Launch} {R : Room} {p : Program} {e : Env} {below : List Frame} {s : State} {sargs : Array Value} {y : MethodName} {len W9 : Nat}
theorem vx_back {ws : List Cond} {rm : Room} {Pc : Array Value → State → Prop} {Qc : Array Value → State → Outcome → State → Prop} {XC : String → State → State → Prop} {mc ms : Nat} {free : Addr → Prop} {bytes : ByteArray} {maxL : Nat} {ret : Option FieldType}
    (hM : vx_Met l y ws rm Pc Qc XC mc ms free) (hblind : FrameBlind Pc) (hrc : rm.cells = mc) (hrs : rm.slots = ms)
    (hframes : rm.frames + 1 ≤ R.frames) (hlocals : W9 + (maxL + 11) + rm.locals ≤ R.locals)
    (hws : ∀ w ∈ ws, ∀ a' U, s.WarmedH U.vm → w.before a' U = true) (hcode : Cond.code y bytes maxL ret ∈ ws) (hinit : ∀ a' U, s.WarmedH U.vm → (Cond.initialized y.cls).before a' U = true) :
    vx_Back l R p e below s sargs y len W9 (PreOf R mc ms Pc) (PostOf Qc mc ms free) (vx_Post XC mc ms free) := by
  intro m meth c A g ig mk a X hg hsize hdg hW hn hp
  have h1 : (headSpec ws rm).pre.before a A.U = true := atoms_intro fun w hw => hws w hw _ _ X.warmed
  have h2 : (Cond.code y bytes maxL ret).before a A.U = true := hws _ hcode _ _ X.warmed
  have h3 : (Cond.initialized y.cls).before a A.U = true := hinit _ _ X.warmed
  have h4 : A.cells + (headSpec ws rm).room.cells ≤ R.cells := by rw [show (headSpec ws rm).room.cells = mc from hrc]; exact hp.1
  have h5 : A.slots + (headSpec ws rm).room.slots ≤ R.slots := by rw [show (headSpec ws rm).room.slots = ms from hrs]; exact hp.2.1
  have hPc : Pc a (A.U.calling g mk a) := hblind _ _ _ _ hp.2.2
  obtain ⟨U, Ls, c0, s0⟩ := A
  dsimp only [Pt.U, Pt.locs, Pt.cells, Pt.slots] at h1 h2 h3 h4 h5 X hn hPc ⊢
  obtain ⟨methY, cY, hmY, hcY, -, hlY, -, -, -, -⟩ := Cond.code_spec hn h2
  obtain ⟨kY, hkY, -⟩ := className_of_methodNamed hn
  have hinitY : kY.init = .initialized := Cond.initialized_spec (findClass_of_methodNamed hn) hkY h3
  have h : At U g.method c below := by rw [hg]; exact X.here
  have hlocals9 : W9 + (maxL + 11) + (headSpec ws rm).room.locals ≤ R.locals := hlocals
  have happ : (headSpec ws rm).appliesLoose y e.platform (U.calling g mk a) = true :=
    Spec.appliesLoose_calling (g := g) h hdg hn hkY hinitY
      (X.room_calling (g := g) (R' := (headSpec ws rm).room) hsize hmY hcY hframes (by rw [hlY]; omega) h4 h5) h1
  obtain ⟨mid, hmid⟩ := h.above
  have hfr : (U.setTop g).frames = (.java g :: mid) ++ below := by rw [State.frames_setTop' g h.top, hmid]; rfl
  obtain ⟨o, s₂, hsteps, -, hend, hq⟩ := Steps.callFree hM p X.admits X.cas X.clock (acts := []) hfr happ hPc trivial
  have hq' : vx_Q Qc XC mc ms free a (U.calling g mk a) o s₂ := hq
  rw [State.frames_setTop' g h.top] at hend
  obtain ⟨g₀, hg0⟩ := Option.isSome_iff_exists.mp h.top
  obtain ⟨r, hr⟩ := State.topJava?_eq_some.mp hg0
  have hr' : (({ U with heap := s₂.heap, slotsUsed := s₂.slotsUsed } : State).setVm s₂.vm).frames = .java g₀ :: r := hr
  rcases hq' with ⟨hqc, L, hfe, hL⟩ | ⟨q, rfl, E, ce, L, hx, hce, hcv, hcl, hW₂, hsm, hL⟩
  · obtain ⟨⟨v, rfl⟩, hW₂, e2, q2, q3, q4, q5, q6⟩ := id hfe
    have e3 : s₂ = ({ (U.calling g mk a).setFrames s₂.frames with heap := s₂.heap, slotsUsed := s₂.slotsUsed } : State).setVm s₂.vm := by
      have : s₂ = ({ s₂ with vm := (U.calling g mk a).vm } : State).setVm s₂.vm := rfl
      rw [e2] at this
      exact this
    obtain ⟨c₂, i₂, len₂, hc₂, hd₂, hf₂⟩ := hend
    have hW' : U.WarmedH s₂.vm := hW₂
    have hcc : c₂ = c := by
      have h1 : s₂.code? g.method = U.code? g.method := by
        rw [State.code?_eq, State.code?_eq, hW'.alike.method?]
      exact Option.some.inj (hc₂.symm.trans (h1.trans h.code))
    subst hcc
    have hlen : len₂ = len := by rw [hdg] at hd₂; cases hd₂; rfl
    subst hlen
    have hs₂ : s₂ = (({ U with heap := s₂.heap, slotsUsed := s₂.slotsUsed } : State).setVm s₂.vm).setTop { g with pc := g.pc + len₂, stack := v.toList ++ g.stack } := by
      refine e3.trans ?_
      rw [hf₂, State.calling_eq h.top, State.setFrames_setFrames, State.setTop_of_frames _ hr', hr]
      rfl
    have hsame : U.sameButNew ({ U with heap := s₂.heap, slotsUsed := s₂.slotsUsed } : State) L mc ms := by
      refine ⟨?_, q2, q3, q4, q5, q6⟩
      obtain ⟨t, ht, -⟩ := State.frames_cons hr
      show ({ U with heap := s₂.heap, slotsUsed := s₂.slotsUsed } : State) = { U.setFrames U.frames with heap := s₂.heap, slotsUsed := s₂.slotsUsed }
      rw [State.setFrames_self ht]
    subst hg
    refine Or.inl ⟨v, ⟨(({ U with heap := s₂.heap, slotsUsed := s₂.slotsUsed } : State).setVm s₂.vm), Ls ++ L, c0 + mc, s0 + ms⟩,
      ⟨X.admits, X.cas, X.clock, X.frames, X.room, X.hears, X.method, X.code, (X.here.setHeapUsed s₂.heap s₂.slotsUsed).setVm hW'.alike, X.tail, State.WarmedH.trans X.warmed hW', X.limits, X.bytes, X.same.trans (hsame.setVm s.vm)⟩,
      ⟨g, mk, s₂, L, rfl, rfl, hqc, rfl, hL, rfl, rfl⟩, ?_⟩
    show Steps p.tables e below _ ((({ U with heap := s₂.heap, slotsUsed := s₂.slotsUsed } : State).setVm s₂.vm).setTop { g with pc := g.pc + len₂, stack := v.toList ++ g.stack })
    rw [← hs₂]
    exact hsteps
  · obtain ⟨e2, q2, q3, q4, q5, q6⟩ := id hsm
    have e3 : s₂ = ({ (U.calling g mk a).setFrames s₂.frames with heap := s₂.heap, slotsUsed := s₂.slotsUsed } : State).setVm s₂.vm := by
      have : s₂ = ({ s₂ with vm := (U.calling g mk a).vm } : State).setVm s₂.vm := rfl
      rw [e2] at this
      exact this
    have hf₂ : s₂.frames = .throwing q :: .java g :: U.frames.tail := hend
    have hW' : U.WarmedH s₂.vm := hW₂
    have hs₂ : s₂ = ((({ U with heap := s₂.heap, slotsUsed := s₂.slotsUsed } : State).setVm s₂.vm).setTop g).pushFrame (.throwing q) := by
      refine e3.trans ?_
      rw [hf₂, State.calling_eq h.top, State.setFrames_setFrames, State.pushFrame, State.frames_setTop _ hr', State.setTop_of_frames _ hr', State.setFrames_setFrames, hr]
      rfl
    have hsame : U.sameButNew ({ U with heap := s₂.heap, slotsUsed := s₂.slotsUsed } : State) L mc ms := by
      refine ⟨?_, q2, q3, q4, q5, q6⟩
      obtain ⟨t, ht, -⟩ := State.frames_cons hr
      show ({ U with heap := s₂.heap, slotsUsed := s₂.slotsUsed } : State) = { U.setFrames U.frames with heap := s₂.heap, slotsUsed := s₂.slotsUsed }
      rw [State.setFrames_self ht]
    subst hg
    refine Or.inr ⟨q, ⟨(({ U with heap := s₂.heap, slotsUsed := s₂.slotsUsed } : State).setVm s₂.vm), Ls ++ L, c0 + mc, s0 + ms⟩,
      ⟨X.admits, X.cas, X.clock, X.frames, X.room, X.hears, X.method, X.code, (X.here.setHeapUsed s₂.heap s₂.slotsUsed).setVm hW'.alike, X.tail, State.WarmedH.trans X.warmed hW', X.limits, X.bytes, X.same.trans (hsame.setVm s.vm)⟩,
      ⟨g, mk, s₂, L, E, ce, rfl, rfl, hx, hce, hcv, hcl, rfl, hL, rfl, rfl⟩, ?_⟩
    show Steps p.tables e below _ (((({ U with heap := s₂.heap, slotsUsed := s₂.slotsUsed } : State).setVm s₂.vm).setTop g).pushFrame (.throwing q))
    rw [← hs₂]
    exact hsteps
end Payer
section Calls
variable {p : Program} {l : Launch} {e : Env} {R : Room} {s : State} {m : MethodId} {args : Array Value} {below : List Frame} {meth : Method} {c : Code} {T : State} {locs : List Loc} {cells slots : Nat}
theorem vx_callV (X : Stand p l e R s m args below meth c T locs cells slots) (hexec : p.tables.exec = Jvm.exec) {own C : String} {index : Nat} {y : MethodName} {bytes : ByteArray} {maxL : Nat} {ret : Option FieldType}
    (hown : s.vm.findClass own = some m.cls) (hlink : (Cond.methodLink own index y).before args s = true) (hinst : (Cond.instanceMethod y).before args s = true) (hsel : (Cond.selects C y y).before args s = true)
    (hcode : (Cond.code y bytes maxL ret).before args s = true) (hy : y.cls ≠ "java/lang/invoke/MethodHandle" ∧ y.cls ≠ "java/lang/invoke/VarHandle")
    {W9 : Nat} {Pre : Pt → Array Value → Prop} {Post : Pt → Array Value → Option Value → Pt → Prop} {PostX : Pt → Array Value → Addr → Pt → Prop} (hK : vx_Back l R p e below s args y 3 W9 Pre Post PostX)
    {b : Addr} {cellB : Cell} (hcell : T.heap[b]? = some cellB) (hobj : cellB.vm.isStatics = false) (hcls : s.vm.findClass C = some cellB.cls)
    {g : JFrame} (hg : g.method = m) (hsize : g.locals.size = c.maxLocals) {argsL rest : List Value} (hlen : ∀ sig, parseMethodDescriptor y.desc = some sig → argsL.length = sig.parameters.length)
    (hstack : g.stack = argsL.reverse ++ .ref b :: rest) (hW : 2 * g.monitorRoom + (rest.map fun v => v.category).sum ≤ W9) (hdg : decode c.code g.pc = .ok (.invokevirtual index, 3))
    (hpre : ∀ vm₁, s.WarmedH vm₁ → Pre ⟨T.setVm vm₁, locs, cells, slots⟩ (Value.ref b :: argsL).toArray) :
    (∃ (v : Option Value) (vm₁ : Vm) (B : Pt), s.WarmedH vm₁ ∧ Stand p l e R s m args below meth c B.U B.locs B.cells B.slots ∧ Post ⟨T.setVm vm₁, locs, cells, slots⟩ (Value.ref b :: argsL).toArray v B ∧
      ∀ target, Steps p.tables e below (B.U.setTop { g with pc := g.pc + 3, stack := v.toList ++ rest }) target → Steps p.tables e below (T.setTop g) target) ∨
    (∃ (q : Addr) (vm₁ : Vm) (B : Pt), s.WarmedH vm₁ ∧ Stand p l e R s m args below meth c B.U B.locs B.cells B.slots ∧ PostX ⟨T.setVm vm₁, locs, cells, slots⟩ (Value.ref b :: argsL).toArray q B ∧
      Steps p.tables e below (T.setTop g) ((B.U.setTop { g with stack := rest }).pushFrame (.throwing q))) := by
  obtain ⟨mk, methM, hnamed, hmethM, hstM, habM⟩ := Cond.instanceMethod_spec hinst
  obtain ⟨methM', cM, hmethM', -, -, -, -, -, -, hsigM⟩ := Cond.code_spec hnamed hcode
  cases hmethM.symm.trans hmethM'
  obtain ⟨c2, r2, m2, q1, q2, q3, q4, kP, hkP, hkPi⟩ := Cond.selects_spec hsel
  cases hcls.symm.trans q1
  cases (State.methodFound?_of_named hnamed hy).symm.trans q2
  cases hnamed.symm.trans q3
  have hselP : selectMethod e.platform s.vm cellB.cls mk = .method mk := by rw [Launch.admits_selectMethod X.admits]; exact q4
  obtain ⟨vm₁, X₁, hstep₁⟩ := X.invokevirtual hexec hown hlink hnamed hmethM hstM hkP hkPi hy (a := b) (cell := cellB) hcell
    (fun z h => by rw [h] at hobj; cases hobj) hselP hmethM habM hkP hkPi (g := g) hg (argsL := argsL) (rest := rest) (hlen _ hsigM) hstack hdg
  rcases hK m meth c ⟨T.setVm vm₁, locs, cells, slots⟩ { g with stack := rest } (.invokevirtual index) mk (Value.ref b :: argsL).toArray X₁ hg hsize hdg hW (X₁.named hnamed) (hpre vm₁ X₁.warmed) with ⟨v, B, X', hpost, hsteps⟩ | ⟨q, B, X', hpost, hsteps⟩
  · exact Or.inl ⟨v, vm₁, B, X₁.warmed, X', hpost, fun target h => hstep₁ _ fun acts => by rw [doInvoke_state]; exact hsteps.trans h⟩
  · exact Or.inr ⟨q, vm₁, B, X₁.warmed, X', hpost, hstep₁ _ fun acts => by rw [doInvoke_state]; exact hsteps⟩
theorem vx_callS (X : Stand p l e R s m args below meth c T locs cells slots) (hexec : p.tables.exec = Jvm.exec) {own : String} {index : Nat} {y : MethodName} {bytes : ByteArray} {maxL : Nat} {ret : Option FieldType}
    (hown : s.vm.findClass own = some m.cls) (hlink : (Cond.methodLink own index y).before args s = true) (hstat : (Cond.static y).before args s = true) (hinit : (Cond.initialized y.cls).before args s = true)
    (hcode : (Cond.code y bytes maxL ret).before args s = true) (hy : y.cls ≠ "java/lang/invoke/MethodHandle" ∧ y.cls ≠ "java/lang/invoke/VarHandle")
    {W9 : Nat} {Pre : Pt → Array Value → Prop} {Post : Pt → Array Value → Option Value → Pt → Prop} {PostX : Pt → Array Value → Addr → Pt → Prop} (hK : vx_Back l R p e below s args y 3 W9 Pre Post PostX)
    {g : JFrame} (hg : g.method = m) (hsize : g.locals.size = c.maxLocals) {argsL rest : List Value} (hlen : ∀ sig, parseMethodDescriptor y.desc = some sig → argsL.length = sig.parameters.length)
    (hstack : g.stack = argsL.reverse ++ rest) (hW : 2 * g.monitorRoom + (rest.map fun v => v.category).sum ≤ W9) (hdg : decode c.code g.pc = .ok (.invokestatic index, 3))
    (hpre : ∀ vm₁, s.WarmedH vm₁ → Pre ⟨T.setVm vm₁, locs, cells, slots⟩ argsL.toArray) :
    (∃ (v : Option Value) (vm₁ : Vm) (B : Pt), s.WarmedH vm₁ ∧ Stand p l e R s m args below meth c B.U B.locs B.cells B.slots ∧ Post ⟨T.setVm vm₁, locs, cells, slots⟩ argsL.toArray v B ∧
      ∀ target, Steps p.tables e below (B.U.setTop { g with pc := g.pc + 3, stack := v.toList ++ rest }) target → Steps p.tables e below (T.setTop g) target) ∨
    (∃ (q : Addr) (vm₁ : Vm) (B : Pt), s.WarmedH vm₁ ∧ Stand p l e R s m args below meth c B.U B.locs B.cells B.slots ∧ PostX ⟨T.setVm vm₁, locs, cells, slots⟩ argsL.toArray q B ∧
      Steps p.tables e below (T.setTop g) ((B.U.setTop { g with stack := rest }).pushFrame (.throwing q))) := by
  obtain ⟨mk, hnamed⟩ := Cond.code_named hcode
  obtain ⟨methM, cM, hmethM, -, -, -, -, -, -, hsigM⟩ := Cond.code_spec hnamed hcode
  have hstatic : methM.isStatic = true := Cond.static_spec hnamed hmethM hstat
  obtain ⟨kP, hkP, -⟩ := className_of_methodNamed hnamed
  have hinitP : kP.init = .initialized := Cond.initialized_spec (findClass_of_methodNamed hnamed) hkP hinit
  obtain ⟨vm₁, X₁, hstep₁⟩ := X.invokestatic hexec hown hlink hnamed hmethM hstatic hkP hinitP hy (g := g) hg (argsL := argsL) (rest := rest) (hlen _ hsigM) hstack hdg
  rcases hK m meth c ⟨T.setVm vm₁, locs, cells, slots⟩ { g with stack := rest } (.invokestatic index) mk argsL.toArray X₁ hg hsize hdg hW (X₁.named hnamed) (hpre vm₁ X₁.warmed) with ⟨v, B, X', hpost, hsteps⟩ | ⟨q, B, X', hpost, hsteps⟩
  · exact Or.inl ⟨v, vm₁, B, X₁.warmed, X', hpost, fun target h => hstep₁ _ fun acts => by rw [doInvoke_state]; exact hsteps.trans h⟩
  · exact Or.inr ⟨q, vm₁, B, X₁.warmed, X', hpost, hstep₁ _ fun acts => by rw [doInvoke_state]; exact hsteps⟩
end Calls
theorem vx_cls {s : State} {T : State} {vm₁ : Vm} {E : String} {k : ClassId} (hW : s.WarmedH vm₁) (h : (T.setVm vm₁).vm.findClass E = some k) : s.vm.findClass E = some k := by
  have h1 : vm₁.findClass E = some k := h
  rw [hW.alike.findClass] at h1
  exact h1
/-- the method's frame g, with q thrown over it -/
def vx_W (p : Program) (l : Launch) (e : Env) (R : Room) (s : State) (m : MethodId) (args : Array Value) (below : List Frame) (meth : Method) (c : Code) (H : Heap) (locs : List Loc) (cells slots : Nat) (Q : State → Prop) (g : JFrame) (q : Addr) : Prop :=
  ∀ T : State, T.heap = H → Stand p l e R s m args below meth c T locs cells slots → ∃ t, Steps p.tables e below ((T.setTop g).pushFrame (.throwing q)) t ∧ Q t
def vx_Run (p : Program) (l : Launch) (e : Env) (R : Room) (s : State) (m : MethodId) (args : Array Value) (below : List Frame) (meth : Method) (c : Code) (H : Heap) (locs : List Loc) (cells slots mc ms : Nat) (g : JFrame) (rest : List Value) (Qa : State → Outcome → State → Prop) (XC : String → State → State → Prop) (free : Addr → Prop) : Prop :=
  ∀ T : State, T.heap = H → Stand p l e R s m args below meth c T locs cells slots →
    (∃ (v : Option Value) (st₀ t T' : State) (L : List Loc), st₀.heap = H ∧ Stand p l e R s m args below meth c T' (locs ++ L) (cells + mc) (slots + ms) ∧ (∀ q ∈ L, free q.base) ∧ T'.heap = t.heap ∧ T'.vm = t.vm ∧ Qa st₀ (.returned v) t ∧
      Goes p e below T g T' { g with pc := g.pc + 3, stack := v.toList ++ rest }) ∨
    (∃ (q : Addr) (st₀ t T' : State) (L : List Loc) (E : String) (ce : Cell), st₀.heap = H ∧ Stand p l e R s m args below meth c T' (locs ++ L) (cells + mc) (slots + ms) ∧ (∀ z ∈ L, free z.base) ∧ T'.heap = t.heap ∧ T'.vm = t.vm ∧ XC E st₀ t ∧ t.heap[q]? = some ce ∧ ce.vm = .none ∧ s.vm.findClass E = some ce.cls ∧
      Steps p.tables e below (T.setTop g) ((T'.setTop { g with stack := rest }).pushFrame (.throwing q)))
def vx_X {S : Type} (px : S → Prop) (B : String → S → State → Prop) (A : Nat → Prop) : String → State → State → Prop := fun E st t => ∃ u : S, px u ∧ B E u t ∧ va_F A st t
section Runs
variable {p : Program} {l : Launch} {e : Env} {R : Room} {s : State} {m : MethodId} {args : Array Value} {below : List Frame} {meth : Method} {c : Code} {H : Heap} {locs : List Loc} {cells slots : Nat}
variable {y : MethodName} {bytes cc : ByteArray} {maxL nL mc ms n index : Nat} {ret : Option FieldType} {ws : List Cond} {rm : Room} {Pc : Array Value → State → Prop} {Qc : Array Value → State → Outcome → State → Prop} {XC : String → State → State → Prop} {free : Addr → Prop} {Ts : List Cond} {own C : String} {b : Addr} {As rest : List Value} {g : JFrame}
theorem vx_callBack (cb : CallB R s args own index y bytes maxL ret ws rm mc ms n) (hM : vx_Met l y ws rm Pc Qc XC mc ms free) (hbl : FrameBlind Pc) : vx_Back l R p e below s args y 3 8 (PreOf R mc ms Pc) (PostOf Qc mc ms free) (vx_Post XC mc ms free) := by
  obtain ⟨hrc, hrs, hfr, hlo, hws, hcw, -, hini, -⟩ := cb
  exact vx_back (bytes := bytes) (maxL := maxL) (ret := ret) hM hbl hrc hrs hfr hlo hws hcw (fun a' U hW => word_at hW (Or.inl (by first | rfl | simp [Cond.onTables, Cond.keeps, Cond.steady])) hini)
theorem vx_runV (S : CallFix p m c cc nL s args Ts own) (hM : vx_Met l y ws rm Pc Qc XC mc ms free) (cw : CallW R s args own C index y bytes maxL ret ws rm mc ms n) (hp : PreV s H C b Pc As)
    (hg : g.method = m) (hn : As.length = n) (hsize : g.locals.size = nL) (hstack : g.stack = As.reverse ++ .ref b :: rest) (hW : 2 * g.monitorRoom + (rest.map fun v => v.category).sum ≤ 8) (hdg : decode cc g.pc = .ok (.invokevirtual index, 3)) (hf : cells + mc ≤ R.cells ∧ slots + ms ≤ R.slots) :
    vx_Run p l e R s m args below meth c H locs cells slots mc ms g rest (Qc (Value.ref b :: As).toArray) XC free := by
  have hK : vx_Back l R p e below s args y 3 8 (PreOf R mc ms Pc) (PostOf Qc mc ms free) (vx_Post XC mc ms free) := vx_callBack cw.1 hM hp.1
  obtain ⟨⟨-, -, -, -, -, -, hcode, -, hy, hlen, hl⟩, hin, hse⟩ := cw
  obtain ⟨hx, hb, hml, ho, -⟩ := S
  obtain ⟨-, ⟨cellB, hcB, hoB, hclB⟩, hPc⟩ := hp
  intro T hT X
  rcases vx_callV X hx (C := C) (bytes := bytes) (maxL := maxL) (ret := ret) ho hl hin hse hcode hy hK (by rw [hT]; exact hcB) hoB hclB hg (hsize.trans hml.symm) (argsL := As) (rest := rest) (fun sig h => hn.trans (hlen sig h)) hstack hW (by rw [hb]; exact hdg)
    (fun vm₁ hW₁ => ⟨hf.1, hf.2, hPc (T.setVm vm₁) hT hW₁⟩) with ⟨v, vm₁, ⟨U', l2, c2, s2⟩, hW₁, X', ⟨g', mk, t, L, e1, e2, hq, h1, hL, h2, h3⟩, st⟩ | ⟨q, vm₁, ⟨U', l2, c2, s2⟩, hW₁, X', ⟨g', mk, t, L, E, ce, e1, e2, hq, hce, hcv, hcl, h1, hL, h2, h3⟩, st⟩
  · dsimp only [Pt.U, Pt.locs, Pt.cells, Pt.slots] at X' e1 e2 h1 h2 h3 st
    subst h1; subst h2; subst h3
    exact Or.inl ⟨v, (T.setVm vm₁).calling g' mk (Value.ref b :: As).toArray, t, U', L, hT, X', hL, e1, e2, hq, st⟩
  · dsimp only [Pt.U, Pt.locs, Pt.cells, Pt.slots] at X' e1 e2 h1 h2 h3 st hcl
    subst h1; subst h2; subst h3
    exact Or.inr ⟨q, (T.setVm vm₁).calling g' mk (Value.ref b :: As).toArray, t, U', L, E, ce, hT, X', hL, e1, e2, hq, hce, hcv, vx_cls hW₁ hcl, st⟩
theorem vx_runS (S : CallFix p m c cc nL s args Ts own) (hM : vx_Met l y ws rm Pc Qc XC mc ms free) (cw : CallB R s args own index y bytes maxL ret ws rm mc ms n ∧ (Cond.static y).before args s = true) (hp : PreS s H Pc As)
    (hg : g.method = m) (hn : As.length = n) (hsize : g.locals.size = nL) (hstack : g.stack = As.reverse ++ rest) (hW : 2 * g.monitorRoom + (rest.map fun v => v.category).sum ≤ 8) (hdg : decode cc g.pc = .ok (.invokestatic index, 3)) (hf : cells + mc ≤ R.cells ∧ slots + ms ≤ R.slots) :
    vx_Run p l e R s m args below meth c H locs cells slots mc ms g rest (Qc As.toArray) XC free := by
  have hK : vx_Back l R p e below s args y 3 8 (PreOf R mc ms Pc) (PostOf Qc mc ms free) (vx_Post XC mc ms free) := vx_callBack cw.1 hM hp.1
  obtain ⟨⟨-, -, -, -, -, -, hcode, hini, hy, hlen, hl⟩, hstt⟩ := cw
  obtain ⟨hx, hb, hml, ho, -⟩ := S
  intro T hT X
  rcases vx_callS X hx (bytes := bytes) (maxL := maxL) (ret := ret) ho hl hstt hini hcode hy hK hg (hsize.trans hml.symm) (argsL := As) (rest := rest) (fun sig h => hn.trans (hlen sig h)) hstack hW (by rw [hb]; exact hdg)
    (fun vm₁ hW₁ => ⟨hf.1, hf.2, hp.2 (T.setVm vm₁) hT hW₁⟩) with ⟨v, vm₁, ⟨U', l2, c2, s2⟩, hW₁, X', ⟨g', mk, t, L, e1, e2, hq, h1, hL, h2, h3⟩, st⟩ | ⟨q, vm₁, ⟨U', l2, c2, s2⟩, hW₁, X', ⟨g', mk, t, L, E, ce, e1, e2, hq, hce, hcv, hcl, h1, hL, h2, h3⟩, st⟩
  · dsimp only [Pt.U, Pt.locs, Pt.cells, Pt.slots] at X' e1 e2 h1 h2 h3 st
    subst h1; subst h2; subst h3
    exact Or.inl ⟨v, (T.setVm vm₁).calling g' mk As.toArray, t, U', L, hT, X', hL, e1, e2, hq, st⟩
  · dsimp only [Pt.U, Pt.locs, Pt.cells, Pt.slots] at X' e1 e2 h1 h2 h3 st hcl
    subst h1; subst h2; subst h3
    exact Or.inr ⟨q, (T.setVm vm₁).calling g' mk As.toArray, t, U', L, E, ce, hT, X', hL, e1, e2, hq, hce, hcv, vx_cls hW₁ hcl, st⟩
end Runs
section Rows
variable {p : Program} {l : Launch} {e : Env} {R : Room} {s : State} {m : MethodId} {args : Array Value} {below : List Frame} {meth : Method} {c : Code} {H : Heap} {locs : List Loc} {cells slots : Nat} {Q : State → Prop}
variable {mc ms : Nat} {free : Addr → Prop} {A0 A1 : Nat → Prop} {H0 : Heap} {a : Array Value} {pc : Nat} {ls : Array Slot} {st0 rest : List Value}
theorem vx_keep {st₀ t T' : State} {L : List Loc} (h0 : st₀.heap = H) (e1 : T'.heap = t.heap) (hS : va_S A0 H0 H locs) (hA : ∀ q, q < H.size → A1 q → A0 q) (hf : ∀ q, free q → A0 q) (hL : ∀ q ∈ L, free q.base) (hF : va_F A1 st₀ t) :
    H.size ≤ T'.heap.size ∧ (∀ q : Nat, q < H.size → ¬ A1 q → T'.heap[q]? = H[q]?) ∧ va_S A0 H0 T'.heap (locs ++ L) := by
  obtain ⟨hz, hk⟩ := hF
  rw [h0] at hz hk
  exact ⟨by rw [e1]; exact hz, fun q h1 h2 => by rw [e1]; exact hk q h1 h2,
    ⟨Nat.le_trans hS.1 (by rw [e1]; exact hz), fun q h1 h2 => by rw [e1, hk q (Nat.lt_of_lt_of_le h1 hS.1) (fun z => h2 (hA q (Nat.lt_of_lt_of_le h1 hS.1) z))]; exact hS.2.1 q h1 h2, fun q hq => by
      rcases List.mem_append.mp hq with h | h
      · exact hS.2.2 q h
      · exact hf _ (hL q h)⟩⟩
theorem vx_calli {S SX : Type} {post : Int32 → S → Prop} {px : SX → Prop} {B : S → State → Prop} {BX : String → SX → State → Prop} {AX : Nat → Prop} (hr : vx_Run p l e R s m args below meth c H locs cells slots mc ms (F0 m pc ls st0) rest (va_Qi post B A1 a) (vx_X px BX AX) free) (hS : va_S A0 H0 H locs) (hA : ∀ q, q < H.size → A1 q → A0 q) (hf : ∀ q, free q → A0 q) (hAX : ∀ q, q < H.size → AX q → A0 q)
    (kx : ∀ (E : String) (ce : Cell) (q9 : Addr) (u : SX) (t : State) (H1 : Heap) (locs1 : List Loc), t.heap = H1 → s.vm.Alike t.vm → px u → BX E u t → H.size ≤ H1.size → (∀ q : Nat, q < H.size → ¬ AX q → H1[q]? = H[q]?) → va_S A0 H0 H1 locs1 → H1[q9]? = some ce → ce.vm = .none → s.vm.findClass E = some ce.cls → vx_W p l e R s m args below meth c H1 locs1 (cells + mc) (slots + ms) Q (F0 m pc ls rest) q9)
    (kk : ∀ (r : Int32) (u : S) (t : State) (H1 : Heap) (locs1 : List Loc), t.heap = H1 → s.vm.Alike t.vm → post r u → B u t → H.size ≤ H1.size → (∀ q : Nat, q < H.size → ¬ A1 q → H1[q]? = H[q]?) → va_S A0 H0 H1 locs1 → W p l e R s m args below meth c H1 locs1 (cells + mc) (slots + ms) Q (F0 m (pc + 3) ls (.int r :: rest))) : W p l e R s m args below meth c H locs cells slots Q (F0 m pc ls st0) := by
  intro T hT X
  rcases hr T hT X with ⟨v, st₀, t, T', L, h0, X', hL, e1, e2, ⟨⟨r, u, hv, hp, hb⟩, hF⟩, st⟩ | ⟨q, st₀, t, T', L, E, ce, h0, X', hL, e1, e2, ⟨u, hp, hb, hF⟩, hce, hcv, hcl, st⟩
  · cases hv
    obtain ⟨k1, k2, k3⟩ := vx_keep h0 e1 hS hA hf hL hF
    obtain ⟨t2, a1, b1⟩ := kk r u t T'.heap (locs ++ L) e1.symm (by rw [← e2]; exact X'.warmed.alike) hp hb k1 k2 k3 T' rfl X'
    exact ⟨t2, st t2 a1, b1⟩
  · obtain ⟨k1, k2, k3⟩ := vx_keep h0 e1 hS hAX hf hL hF
    obtain ⟨t2, a1, b1⟩ := kx E ce q u t T'.heap (locs ++ L) e1.symm (by rw [← e2]; exact X'.warmed.alike) hp hb k1 k2 k3 (by rw [e1]; exact hce) hcv hcl T' rfl X'
    exact ⟨t2, st.trans a1, b1⟩
theorem vx_calll {S SX : Type} {post : Int64 → S → Prop} {px : SX → Prop} {B : S → State → Prop} {BX : String → SX → State → Prop} {AX : Nat → Prop} (hr : vx_Run p l e R s m args below meth c H locs cells slots mc ms (F0 m pc ls st0) rest (va_Ql post B A1 a) (vx_X px BX AX) free) (hS : va_S A0 H0 H locs) (hA : ∀ q, q < H.size → A1 q → A0 q) (hf : ∀ q, free q → A0 q) (hAX : ∀ q, q < H.size → AX q → A0 q)
    (kx : ∀ (E : String) (ce : Cell) (q9 : Addr) (u : SX) (t : State) (H1 : Heap) (locs1 : List Loc), t.heap = H1 → s.vm.Alike t.vm → px u → BX E u t → H.size ≤ H1.size → (∀ q : Nat, q < H.size → ¬ AX q → H1[q]? = H[q]?) → va_S A0 H0 H1 locs1 → H1[q9]? = some ce → ce.vm = .none → s.vm.findClass E = some ce.cls → vx_W p l e R s m args below meth c H1 locs1 (cells + mc) (slots + ms) Q (F0 m pc ls rest) q9)
    (kk : ∀ (r : Int64) (u : S) (t : State) (H1 : Heap) (locs1 : List Loc), t.heap = H1 → s.vm.Alike t.vm → post r u → B u t → H.size ≤ H1.size → (∀ q : Nat, q < H.size → ¬ A1 q → H1[q]? = H[q]?) → va_S A0 H0 H1 locs1 → W p l e R s m args below meth c H1 locs1 (cells + mc) (slots + ms) Q (F0 m (pc + 3) ls (.long r :: rest))) : W p l e R s m args below meth c H locs cells slots Q (F0 m pc ls st0) := by
  intro T hT X
  rcases hr T hT X with ⟨v, st₀, t, T', L, h0, X', hL, e1, e2, ⟨⟨r, u, hv, hp, hb⟩, hF⟩, st⟩ | ⟨q, st₀, t, T', L, E, ce, h0, X', hL, e1, e2, ⟨u, hp, hb, hF⟩, hce, hcv, hcl, st⟩
  · cases hv
    obtain ⟨k1, k2, k3⟩ := vx_keep h0 e1 hS hA hf hL hF
    obtain ⟨t2, a1, b1⟩ := kk r u t T'.heap (locs ++ L) e1.symm (by rw [← e2]; exact X'.warmed.alike) hp hb k1 k2 k3 T' rfl X'
    exact ⟨t2, st t2 a1, b1⟩
  · obtain ⟨k1, k2, k3⟩ := vx_keep h0 e1 hS hAX hf hL hF
    obtain ⟨t2, a1, b1⟩ := kx E ce q u t T'.heap (locs ++ L) e1.symm (by rw [← e2]; exact X'.warmed.alike) hp hb k1 k2 k3 (by rw [e1]; exact hce) hcv hcl T' rfl X'
    exact ⟨t2, st.trans a1, b1⟩
theorem vx_callf {S SX : Type} {post : UInt32 → S → Prop} {px : SX → Prop} {B : S → State → Prop} {BX : String → SX → State → Prop} {AX : Nat → Prop} (hr : vx_Run p l e R s m args below meth c H locs cells slots mc ms (F0 m pc ls st0) rest (va_Qf post B A1 a) (vx_X px BX AX) free) (hS : va_S A0 H0 H locs) (hA : ∀ q, q < H.size → A1 q → A0 q) (hf : ∀ q, free q → A0 q) (hAX : ∀ q, q < H.size → AX q → A0 q)
    (kx : ∀ (E : String) (ce : Cell) (q9 : Addr) (u : SX) (t : State) (H1 : Heap) (locs1 : List Loc), t.heap = H1 → s.vm.Alike t.vm → px u → BX E u t → H.size ≤ H1.size → (∀ q : Nat, q < H.size → ¬ AX q → H1[q]? = H[q]?) → va_S A0 H0 H1 locs1 → H1[q9]? = some ce → ce.vm = .none → s.vm.findClass E = some ce.cls → vx_W p l e R s m args below meth c H1 locs1 (cells + mc) (slots + ms) Q (F0 m pc ls rest) q9)
    (kk : ∀ (r : UInt32) (u : S) (t : State) (H1 : Heap) (locs1 : List Loc), t.heap = H1 → s.vm.Alike t.vm → post r u → B u t → H.size ≤ H1.size → (∀ q : Nat, q < H.size → ¬ A1 q → H1[q]? = H[q]?) → va_S A0 H0 H1 locs1 → W p l e R s m args below meth c H1 locs1 (cells + mc) (slots + ms) Q (F0 m (pc + 3) ls (.float r :: rest))) : W p l e R s m args below meth c H locs cells slots Q (F0 m pc ls st0) := by
  intro T hT X
  rcases hr T hT X with ⟨v, st₀, t, T', L, h0, X', hL, e1, e2, ⟨⟨r, u, hv, hp, hb⟩, hF⟩, st⟩ | ⟨q, st₀, t, T', L, E, ce, h0, X', hL, e1, e2, ⟨u, hp, hb, hF⟩, hce, hcv, hcl, st⟩
  · cases hv
    obtain ⟨k1, k2, k3⟩ := vx_keep h0 e1 hS hA hf hL hF
    obtain ⟨t2, a1, b1⟩ := kk r u t T'.heap (locs ++ L) e1.symm (by rw [← e2]; exact X'.warmed.alike) hp hb k1 k2 k3 T' rfl X'
    exact ⟨t2, st t2 a1, b1⟩
  · obtain ⟨k1, k2, k3⟩ := vx_keep h0 e1 hS hAX hf hL hF
    obtain ⟨t2, a1, b1⟩ := kx E ce q u t T'.heap (locs ++ L) e1.symm (by rw [← e2]; exact X'.warmed.alike) hp hb k1 k2 k3 (by rw [e1]; exact hce) hcv hcl T' rfl X'
    exact ⟨t2, st.trans a1, b1⟩
theorem vx_calld {S SX : Type} {post : UInt64 → S → Prop} {px : SX → Prop} {B : S → State → Prop} {BX : String → SX → State → Prop} {AX : Nat → Prop} (hr : vx_Run p l e R s m args below meth c H locs cells slots mc ms (F0 m pc ls st0) rest (va_Qd post B A1 a) (vx_X px BX AX) free) (hS : va_S A0 H0 H locs) (hA : ∀ q, q < H.size → A1 q → A0 q) (hf : ∀ q, free q → A0 q) (hAX : ∀ q, q < H.size → AX q → A0 q)
    (kx : ∀ (E : String) (ce : Cell) (q9 : Addr) (u : SX) (t : State) (H1 : Heap) (locs1 : List Loc), t.heap = H1 → s.vm.Alike t.vm → px u → BX E u t → H.size ≤ H1.size → (∀ q : Nat, q < H.size → ¬ AX q → H1[q]? = H[q]?) → va_S A0 H0 H1 locs1 → H1[q9]? = some ce → ce.vm = .none → s.vm.findClass E = some ce.cls → vx_W p l e R s m args below meth c H1 locs1 (cells + mc) (slots + ms) Q (F0 m pc ls rest) q9)
    (kk : ∀ (r : UInt64) (u : S) (t : State) (H1 : Heap) (locs1 : List Loc), t.heap = H1 → s.vm.Alike t.vm → post r u → B u t → H.size ≤ H1.size → (∀ q : Nat, q < H.size → ¬ A1 q → H1[q]? = H[q]?) → va_S A0 H0 H1 locs1 → W p l e R s m args below meth c H1 locs1 (cells + mc) (slots + ms) Q (F0 m (pc + 3) ls (.double r :: rest))) : W p l e R s m args below meth c H locs cells slots Q (F0 m pc ls st0) := by
  intro T hT X
  rcases hr T hT X with ⟨v, st₀, t, T', L, h0, X', hL, e1, e2, ⟨⟨r, u, hv, hp, hb⟩, hF⟩, st⟩ | ⟨q, st₀, t, T', L, E, ce, h0, X', hL, e1, e2, ⟨u, hp, hb, hF⟩, hce, hcv, hcl, st⟩
  · cases hv
    obtain ⟨k1, k2, k3⟩ := vx_keep h0 e1 hS hA hf hL hF
    obtain ⟨t2, a1, b1⟩ := kk r u t T'.heap (locs ++ L) e1.symm (by rw [← e2]; exact X'.warmed.alike) hp hb k1 k2 k3 T' rfl X'
    exact ⟨t2, st t2 a1, b1⟩
  · obtain ⟨k1, k2, k3⟩ := vx_keep h0 e1 hS hAX hf hL hF
    obtain ⟨t2, a1, b1⟩ := kx E ce q u t T'.heap (locs ++ L) e1.symm (by rw [← e2]; exact X'.warmed.alike) hp hb k1 k2 k3 (by rw [e1]; exact hce) hcv hcl T' rfl X'
    exact ⟨t2, st.trans a1, b1⟩
theorem vx_callv {S SX : Type} {post : S → Prop} {px : SX → Prop} {B : S → State → Prop} {BX : String → SX → State → Prop} {AX : Nat → Prop} (hr : vx_Run p l e R s m args below meth c H locs cells slots mc ms (F0 m pc ls st0) rest (va_Qv post B A1 a) (vx_X px BX AX) free) (hS : va_S A0 H0 H locs) (hA : ∀ q, q < H.size → A1 q → A0 q) (hf : ∀ q, free q → A0 q) (hAX : ∀ q, q < H.size → AX q → A0 q)
    (kx : ∀ (E : String) (ce : Cell) (q9 : Addr) (u : SX) (t : State) (H1 : Heap) (locs1 : List Loc), t.heap = H1 → s.vm.Alike t.vm → px u → BX E u t → H.size ≤ H1.size → (∀ q : Nat, q < H.size → ¬ AX q → H1[q]? = H[q]?) → va_S A0 H0 H1 locs1 → H1[q9]? = some ce → ce.vm = .none → s.vm.findClass E = some ce.cls → vx_W p l e R s m args below meth c H1 locs1 (cells + mc) (slots + ms) Q (F0 m pc ls rest) q9)
    (kk : ∀ (u : S) (t : State) (H1 : Heap) (locs1 : List Loc), t.heap = H1 → s.vm.Alike t.vm → post u → B u t → H.size ≤ H1.size → (∀ q : Nat, q < H.size → ¬ A1 q → H1[q]? = H[q]?) → va_S A0 H0 H1 locs1 → W p l e R s m args below meth c H1 locs1 (cells + mc) (slots + ms) Q (F0 m (pc + 3) ls (rest))) : W p l e R s m args below meth c H locs cells slots Q (F0 m pc ls st0) := by
  intro T hT X
  rcases hr T hT X with ⟨v, st₀, t, T', L, h0, X', hL, e1, e2, ⟨⟨u, hv, hp, hb⟩, hF⟩, st⟩ | ⟨q, st₀, t, T', L, E, ce, h0, X', hL, e1, e2, ⟨u, hp, hb, hF⟩, hce, hcv, hcl, st⟩
  · cases hv
    obtain ⟨k1, k2, k3⟩ := vx_keep h0 e1 hS hA hf hL hF
    obtain ⟨t2, a1, b1⟩ := kk u t T'.heap (locs ++ L) e1.symm (by rw [← e2]; exact X'.warmed.alike) hp hb k1 k2 k3 T' rfl X'
    exact ⟨t2, st t2 a1, b1⟩
  · obtain ⟨k1, k2, k3⟩ := vx_keep h0 e1 hS hAX hf hL hF
    obtain ⟨t2, a1, b1⟩ := kx E ce q u t T'.heap (locs ++ L) e1.symm (by rw [← e2]; exact X'.warmed.alike) hp hb k1 k2 k3 (by rw [e1]; exact hce) hcv hcl T' rfl X'
    exact ⟨t2, st.trans a1, b1⟩
/-- caught by the row x of this method's table; the rows ahead don't take it -/
theorem vx_catch {own name : String} {E : String} {ce : Cell} {q : Addr} (hown : s.vm.findClass own = some m.cls) (pre : List ExceptionTableEntry) (x : ExceptionTableEntry) (suf : List ExceptionTableEntry) (hsplit : c.exceptionTable.toList = pre ++ x :: suf)
    (hpass : ∀ z ∈ pre, covers z pc = false ∨ (z.catchType ≠ 0 ∧ ∃ nm : String, (Cond.classLink own z.catchType nm).before args s = true ∧ va_Nc E nm s)) (hx : covers x pc = true) (h0 : x.catchType ≠ 0)
    (hlink : (Cond.classLink own x.catchType name).before args s = true) (hcast : (Cond.castable E name).before args s = true) (hcell : H[q]? = some ce) (hv : ce.vm = .none) (hcl : s.vm.findClass E = some ce.cls)
    (kk : W p l e R s m args below meth c H locs cells slots Q (F0 m x.handlerPc ls [.ref q])) : vx_W p l e R s m args below meth c H locs cells slots Q (F0 m pc ls rest) q := by
  intro T hT X
  have hpl : e.platform.magicAccessors = ({} : Platform).magicAccessors := by rw [X.admits.platform]
  obtain ⟨c3, c4, hc3, hc4, hasg⟩ := Cond.castable_spec hcast
  cases Option.some.inj (hc3.symm.trans hcl)
  obtain ⟨c5, hc5, hcl5⟩ := Cond.classLink_spec hown hlink e.platform hpl
  cases Option.some.inj (hc4.symm.trans hc5)
  obtain ⟨vm', X', st⟩ := X.thenCaughtThrough q (g := F0 m pc ls rest) rfl (Steps.refl _) (by rw [hT]; exact hcell) (by rw [hv]; rfl) (by obtain ⟨k9, h9, -⟩ := Vm.findClass_spec hcl; exact ⟨k9, h9⟩) pre x suf hsplit
    (fun z hz => by
      rcases hpass z hz with h | ⟨hz0, nm, hl1, hn1⟩
      · exact Or.inl h
      · obtain ⟨c6, hc6, hcl6⟩ := Cond.classLink_spec hown hl1 e.platform hpl
        obtain ⟨a8, b8, h1, h2, h3⟩ := hn1
        cases Option.some.inj (h1.symm.trans hcl)
        cases Option.some.inj (h2.symm.trans hc6)
        exact Or.inr ⟨hz0, _, hcl6, h3⟩) hx (Or.inr ⟨h0, c4, hcl5, hasg⟩)
  obtain ⟨t, a1, b1⟩ := kk (T.setVm vm') hT X'
  exact ⟨t, st.trans a1, b1⟩
end Rows
section Ends
variable {p : Program} {l : Launch} {e : Env} {R : Room} {s : State} {m : MethodId} {args : Array Value} {below : List Frame} {meth : Method} {c : Code} {H : Heap} {locs : List Loc} {cells slots : Nat} {Q : State → Prop}
variable {mc ms : Nat} {free : Addr → Prop} {A0 A1 : Nat → Prop} {H0 : Heap} {a : Array Value} {ls : Array Slot} {st0 rest : List Value}
variable {Qc : Array Value → State → Outcome → State → Prop} {XC : String → State → State → Prop}
/-- what a body that may throw owes at its end -/
def vx_MQ (below : List Frame) (Qc : Array Value → State → Outcome → State → Prop) (XC : String → State → State → Prop) (a : Array Value) (s : State) (mc ms : Nat) (free : Addr → Prop) : State → Prop := fun t =>
  ∃ o, t.status = .running ∧ Ended t below o ∧ vx_Q Qc XC mc ms free a s o t
theorem vx_ret {g : JFrame} {mc ms : Nat} (k : W p l e R s m args below meth c H locs cells slots (MQ below Qc args s mc ms free) g) : W p l e R s m args below meth c H locs cells slots (vx_MQ below Qc XC args s mc ms free) g := by
  intro T hT X
  obtain ⟨t, a1, o, b1, b2, b3, b4⟩ := k T hT X
  exact ⟨t, a1, o, b1, b2, Or.inl ⟨b3, b4⟩⟩
/-- not caught here: it goes on to the caller -/
theorem vx_widen {g : JFrame} {q : Addr} {k n : Nat} (h1 : cells ≤ k) (h2 : slots ≤ n) (kk : vx_W p l e R s m args below meth c H locs k n Q g q) : vx_W p l e R s m args below meth c H locs cells slots Q g q := fun T hT X => kk T hT (stand_widen X h1 h2)
theorem vx_out {pc : Nat} {E : String} {ce : Cell} {q : Addr} {mc ms : Nat} (hout : ∀ x ∈ c.exceptionTable.toList, covers x pc = false) (hlocks : meth.locks = false) (hcell : H[q]? = some ce) (hv : ce.vm = .none) (hcl : s.vm.findClass E = some ce.cls)
    (hx : ∀ t : State, t.heap = H → s.vm.Alike t.vm → XC E s t) (hf : ∀ z ∈ locs, free z.base) (hc : cells ≤ mc) (hs : slots ≤ ms) :
    vx_W p l e R s m args below meth c H locs cells slots (vx_MQ below Qc XC args s mc ms free) (F0 m pc ls rest) q := by
  intro T hT X
  obtain ⟨st1, hrun, hend, hW, hsm⟩ := X.leaveThrown q (g := F0 m pc ls rest) rfl rfl rfl hout hlocks
  have hcell9 : (T.setFrames (.throwing q :: below)).heap[q]? = some ce := by
    show T.heap[q]? = some ce
    rw [hT]; exact hcell
  exact ⟨_, st1, .threw q, hrun, hend, Or.inr ⟨q, rfl, E, ce, locs, hx _ hT hW.alike, hcell9, hv, hcl, hW, hsm.mono hc hs, hf⟩⟩
theorem vx_frame {U : State} {k n : Nat} (h : s.sameButNew ({ U with vm := s.vm } : State) locs k n) : s.heap.size ≤ U.heap.size ∧ ∀ q : Nat, q < s.heap.size → (∀ z ∈ locs, z.base ≠ q) → U.heap[q]? = s.heap[q]? := by
  obtain ⟨-, h2, -, -, -, h6⟩ := h
  refine ⟨h2, fun q hq hz => ?_⟩
  obtain ⟨c9, e1, e2, e3, e4⟩ := h6 q _ (Array.getElem?_eq_getElem hq)
  have hs : c9.slots = (s.heap[q]).slots := Array.ext_getElem? fun i => e4 i fun hm => hz _ hm rfl
  have h9 : c9 = s.heap[q] := by
    rw [hs] at e2
    exact e2
  have e5 : U.heap[q]? = some c9 := e1
  rw [e5, h9, Array.getElem?_eq_getElem hq]
/-- the words of a throw but the four that speak of the heap -/
def vx_no (w : Cond) : Bool := decide (w ≠ .isRef (.static Bundle.tN "UNASSIGNED_STACK" Bundle.steD)) && decide (w ≠ .isRef (.static Bundle.tN "SUPPRESSED_SENTINEL" Bundle.listD)) && decide (w ≠ .laysStatic Bundle.tN "UNASSIGNED_STACK" Bundle.steD) && decide (w ≠ .laysStatic Bundle.tN "SUPPRESSED_SENTINEL" Bundle.listD)
def vx_at0 (own : String) (ic : Nat) (X : String) (names : List String) : List Cond := (Bundle.ownAtoms0 own ic X names).filter vx_no
def vx_atS (own : String) (ic : Nat) (X : String) (names : List String) : List Cond := (Bundle.ownAtoms own ic X names).filter vx_no
/-- a word that the tables alone decide, or a good one -/
def vx_ot (w : Cond) : Bool := w.onTables || goodWord w
theorem vx_ot_at {args a' : Array Value} {s U : State} {w : Cond} (hW : s.WarmedH U.vm) (hvm : s.vm = U.vm) (hg : vx_ot w = true) (h : w.before args s = true) : w.before a' U = true := by
  simp only [vx_ot, Bool.or_eq_true] at hg
  rcases hg with hg | hg
  · exact va_tabs hg hvm h
  · exact word_at hW (good_of_word hg) h
/-- a list's words: the good ones out of the method's own list, the others by premises of their own -/
theorem vx_hat {args : Array Value} {s : State} {L B : List Cond} (h1 : ∀ w ∈ L.filter goodWord, w.before args s = true) (h2 : ∀ w ∈ L.filter (fun w => !goodWord w), w ∈ B) (h3 : ∀ w ∈ B, w.before args s = true) : ∀ w ∈ L, w.before args s = true := by
  intro w hw
  by_cases g : goodWord w = true
  · exact h1 w (List.mem_filter.mpr ⟨hw, g⟩)
  · refine h3 w (h2 w (List.mem_filter.mpr ⟨hw, ?_⟩))
    show (!goodWord w) = true
    cases hgw : goodWord w
    · rfl
    · exact absurd hgw g
theorem vx_c {args : Array Value} {s : State} {w : Cond} {B : List Cond} (h : w.before args s = true) (t : ∀ w ∈ B, w.before args s = true) : ∀ w' ∈ w :: B, w'.before args s = true := fun w' h' => (List.mem_cons.mp h').elim (fun e => by rw [e]; exact h) (t w')
theorem vx_n {args : Array Value} {s : State} : ∀ w ∈ ([] : List Cond), w.before args s = true := fun _ h => nomatch h
theorem vx_own {args : Array Value} {s : State} {L : List Cond} (h1 : ∀ w ∈ L.filter vx_no, w.before args s = true)
    (hU : (Cond.isRef (.static Bundle.tN "UNASSIGNED_STACK" Bundle.steD)).before args s = true) (hN : (Cond.isRef (.static Bundle.tN "SUPPRESSED_SENTINEL" Bundle.listD)).before args s = true)
    (lU : (Cond.laysStatic Bundle.tN "UNASSIGNED_STACK" Bundle.steD).before args s = true) (lN : (Cond.laysStatic Bundle.tN "SUPPRESSED_SENTINEL" Bundle.listD).before args s = true) : ∀ w ∈ L, w.before args s = true := by
  intro w hw
  by_cases e1 : w = .isRef (.static Bundle.tN "UNASSIGNED_STACK" Bundle.steD)
  · rw [e1]; exact hU
  · by_cases e2 : w = .isRef (.static Bundle.tN "SUPPRESSED_SENTINEL" Bundle.listD)
    · rw [e2]; exact hN
    · by_cases e3 : w = .laysStatic Bundle.tN "UNASSIGNED_STACK" Bundle.steD
      · rw [e3]; exact lU
      · by_cases e4 : w = .laysStatic Bundle.tN "SUPPRESSED_SENTINEL" Bundle.listD
        · rw [e4]; exact lN
        · exact h1 w (List.mem_filter.mpr ⟨hw, by unfold vx_no; rw [decide_eq_true e1, decide_eq_true e2, decide_eq_true e3, decide_eq_true e4]; rfl⟩)
/-- where a static field lies, its class's statics cell in H -/
def vx_L (C n d : String) (A : Nat → Prop) (U : State) (H : Heap) : Prop := ∃ (c : ClassId) (k : Class) (i : Nat) (f : Field) (a : Nat) (cell : Cell), U.vm.findClass C = some c ∧ U.fieldFound? C n d = some (c, k, i, f) ∧ f.isStatic = true ∧ k.statics = some a ∧ H[a]? = some cell ∧ cell.vm.isStatics = true ∧ cell.cls = c ∧ f.slot < cell.slots.size ∧ k.staticTypes[f.slot]? = some f.type ∧ ¬ A a
theorem vx_L.moved {C n d : String} {A : Nat → Prop} {u U : State} {H : Heap} (hvm : u.vm.Alike U.vm) (h : vx_L C n d A u H) : vx_L C n d A U H := by
  obtain ⟨c, k, i, f, a, cell, h1, h2, h3, h4, h5, h6, h7, h8, h9, h10⟩ := h
  obtain ⟨k', hi', he⟩ := State.fieldFound?_setVm hvm h2
  exact ⟨c, k', i, f, a, cell, by rw [hvm.findClass]; exact h1, hi', h3, by rw [he]; exact h4, h5, h6, h7, h8, by rw [he]; exact h9, h10⟩
theorem vx_L.kept {C n d : String} {A : Nat → Prop} {U : State} {H H1 : Heap} (h : vx_L C n d A U H) (hq : ∀ a : Nat, a < H.size → ¬ A a → H1[a]? = H[a]?) : vx_L C n d A U H1 := by
  obtain ⟨c, k, i, f, a, cell, h1, h2, h3, h4, h5, h6, h7, h8, h9, h10⟩ := h
  exact ⟨c, k, i, f, a, cell, h1, h2, h3, h4, by rw [hq a (Array.getElem?_eq_some_iff.mp h5).1 h10]; exact h5, h6, h7, h8, h9, h10⟩
theorem vx_L.narrow {C n d : String} {A B : Nat → Prop} {U : State} {H : Heap} (h : vx_L C n d A U H) (hAB : ∀ q, B q → A q) : vx_L C n d B U H := by
  obtain ⟨c, k, i, f, a, cell, h1, h2, h3, h4, h5, h6, h7, h8, h9, h10⟩ := h
  exact ⟨c, k, i, f, a, cell, h1, h2, h3, h4, h5, h6, h7, h8, h9, fun z => h10 (hAB _ z)⟩
theorem vx_L.word {C n d : String} {A : Nat → Prop} {s : State} {args : Array Value} (h : vx_L C n d A s s.heap) : (Cond.laysStatic C n d).before args s = true := by
  obtain ⟨c, k, i, f, a, cell, h1, h2, h3, h4, h5, h6, h7, h8, h9, -⟩ := h
  show (Cond.laysStatic C n d).holds args s none s [] = true
  exact Cond.laysStatic_of h1 h2 h3 h4 h5 h6 h7 h8 h9
/-- .. and what it holds: null or some reference -/
def vx_Zq (C n d : String) (A : Nat → Prop) (U : State) (H : Heap) : Prop := va_Zq C n d A U H ∧ vx_L C n d A U H
theorem vx_Zq.moved {C n d : String} {A : Nat → Prop} {u U : State} {H : Heap} (hvm : u.vm.Alike U.vm) (h : vx_Zq C n d A u H) : vx_Zq C n d A U H := ⟨va_Zq.moved hvm h.1, vx_L.moved hvm h.2⟩
theorem vx_Zq.kept {C n d : String} {A : Nat → Prop} {U : State} {H H1 : Heap} (h : vx_Zq C n d A U H) (hq : ∀ a : Nat, a < H.size → ¬ A a → H1[a]? = H[a]?) : vx_Zq C n d A U H1 := ⟨va_Zq.kept h.1 hq, vx_L.kept h.2 hq⟩
theorem vx_Zq.narrow {C n d : String} {A B : Nat → Prop} {U : State} {H : Heap} (h : vx_Zq C n d A U H) (hAB : ∀ q, B q → A q) : vx_Zq C n d B U H := ⟨va_Zq.narrow h.1 hAB, vx_L.narrow h.2 hAB⟩
theorem vx_Zqof {args : Array Value} {s : State} {C n d : String} {A : Nat → Prop} (hl : (Cond.laysStatic C n d).before args s = true) (hini : (Cond.initialized C).before args s = true) (h : (Cond.isRef (.static C n d)).before args s = true) (hA : ∀ a : Nat, a < s.heap.size → ¬ A a) : vx_Zq C n d A s s.heap := by
  refine ⟨va_Zqof hl hini h hA, ?_⟩
  obtain ⟨c, k, i, f, a, cell, h1, h2, h3, h4, h5, h6, h7, h8, h9⟩ := Cond.laysStatic_spec hl
  exact ⟨c, k, i, f, a, cell, h1, h2, h3, h4, h5, h6, h7, h8, h9, hA a (Array.getElem?_eq_some_iff.mp h5).1⟩
theorem vx_isRef {C n d : String} {v : Value} {A : Nat → Prop} {s : State} {args : Array Value} (h : va_Z C n d v A s s.heap) (hv : v.isRef = true) : (Cond.isRef (.static C n d)).before args s = true := by
  obtain ⟨cf, kf, fi, f, a, cell, h1, h2, h3, h4, h5, h6, h7, -⟩ := h
  have he : (Term.static C n d).eval args s none [] s = some v := by
    simp [Term.eval, State.fieldNamed?, h1, h2, h4, h5, h6, h7]
  simp only [Cond.before, Cond.holds, Cond.value, he]
  cases v <;> simp_all [Value.isRef]
theorem vx_isRefq {C n d : String} {A : Nat → Prop} {s : State} {args : Array Value} (h : va_Zq C n d A s s.heap) : (Cond.isRef (.static C n d)).before args s = true := by
  rcases h with h | ⟨t, h⟩
  · exact vx_isRef h rfl
  · exact vx_isRef h rfl
/-- the same frame, seen from here: as if the method were called anew in this heap -/
theorem vx_rebase {T : State} (X : Stand p l e R s m args below meth c T locs cells slots) {R' : Room} (hf : R'.frames ≤ R.frames) (hl : R'.locals ≤ R.locals) (hc : cells + R'.cells ≤ R.cells) (hs : slots + R'.slots ≤ R.slots) :
    Stand p l e R' ((T.setVm s.vm).setFrames (.invoking m args :: below)) m args below meth c T [] 0 0 := by
  have htop : (T.setVm s.vm).topJava?.isSome := X.here.top
  have hF : ((T.setVm s.vm).setFrames (.invoking m args :: below)).frames = .invoking m args :: below := State.frames_setFrames _ (State.cur_lt_of_top htop)
  obtain ⟨g₀, hg0⟩ := Option.isSome_iff_exists.mp htop
  obtain ⟨r, hr⟩ := State.topJava?_eq_some.mp hg0
  have hl9 : e.platform.stackLimits (T.setVm s.vm).me = e.platform.stackLimits s.me := X.limits
  have hb9 : (T.setVm s.vm).me.stackBytes = s.me.stackBytes := X.bytes
  refine ⟨X.admits, X.cas, X.clock, hF, ?_, X.hears, X.method, X.code, X.here, X.tail, X.warmed, ?_, ?_, ?_⟩
  · have h := X.room
    have hU : ((T.setVm s.vm).setFrames (.invoking m args :: below)).localsInUse = s.localsInUse := by
      rw [State.localsInUse_invoking hF (meth := meth) (c := c) X.method X.code, State.localsInUse_invoking X.frames X.method X.code]
    simp only [State.hasRoom, Bool.and_eq_true, decide_eq_true_eq] at h ⊢
    obtain ⟨⟨⟨⟨h1, h2, h3, h4, h5, h6⟩, h7⟩, h8⟩, h9⟩ := h
    rw [X.frames, List.length_cons] at h2 h3
    have q1 := X.heapSize
    have q2 := X.used
    simp only [hF, hU, List.length_cons, State.stackLimits_setFrames, State.stackBytes_setFrames, hl9, hb9]
    refine ⟨⟨⟨⟨by omega, by omega, by omega, by omega, by omega, h6⟩, ?_⟩, ?_⟩, X.book⟩
    · show T.heap.size + R'.cells ≤ e.platform.maxCells
      omega
    · show T.slotsUsed + R'.slots ≤ e.platform.maxSlots
      omega
  · rw [State.stackLimits_setFrames]; rfl
  · rw [State.stackBytes_setFrames]; rfl
  · refine ⟨?_, Nat.le_refl _, Nat.le_refl _, ?_, ?_, fun a c9 h9 => ⟨c9, h9, rfl, rfl, fun _ _ => rfl⟩⟩
    · obtain ⟨t, ht, -⟩ := State.frames_cons hr
      show T.setVm s.vm = { ((T.setVm s.vm).setFrames (.invoking m args :: below)).setFrames (T.setVm s.vm).frames with heap := T.heap, slotsUsed := T.slotsUsed }
      rw [State.setFrames_setFrames, State.setFrames_self ht]
      rfl
    · show T.slotsUsed = T.slotsUsed + ((T.heap.toList.drop T.heap.size).map (·.slots.size)).sum
      rw [List.drop_eq_nil_of_le (Nat.le_of_eq Array.length_toList)]
      rfl
    · show ((T.heap.toList.drop T.heap.size).map (·.slots.size)).sum ≤ 0
      rw [List.drop_eq_nil_of_le (Nat.le_of_eq Array.length_toList)]
      exact Nat.le_refl _
/-- 'throw new E()': new; dup; invokespecial; athrow -/
theorem vx_throw0 {cc : ByteArray} {pc : Nat} (hexec : p.tables.exec = Jvm.exec) (hb : c.code = cc) (hl : l.stackTraces = false) {own cls : String} {names : List String} {ik ic mc ms : Nat} {A : Nat → Prop}
    (hown : s.vm.findClass own = some m.cls) (hcls : Bundle.fit cls = true) (hnames : ∀ n ∈ names, Bundle.fit n = true)
    (hk : (Cond.classLink own ik cls).before args s = true) (hini : (Cond.initialized cls).before args s = true) (hat : ∀ w ∈ vx_at0 own ic cls names, w.before args s = true)
    (hgood : ∀ w ∈ Cond.classLink own ik cls :: Cond.initialized cls :: vx_at0 own ic cls names, vx_ot w = true)
    (hU : vx_Zq Bundle.tN "UNASSIGNED_STACK" Bundle.steD A s s.heap) (hN : vx_Zq Bundle.tN "SUPPRESSED_SENTINEL" Bundle.listD A s s.heap) (hS : va_S A s.heap H locs) (hsize : ls.size = c.maxLocals)
    (d0 : decode cc pc = .ok (.new ik, 3)) (d3 : decode cc (pc + 3) = .ok (.dup, 1)) (d4 : decode cc (pc + 4) = .ok (.invokespecial ic, 3)) (d7 : decode cc (pc + 7) = .ok (.athrow, 1))
    (hout : ∀ x ∈ c.exceptionTable.toList, covers x (pc + 7) = false)
    (hRframes : names.length + 3 < R.frames) (hRlocals : (rest.map fun v => v.category).sum + (13 * (names.length + 1) + 42) ≤ R.locals) (hRcells : cells + 1 ≤ R.cells) (hRslots : slots + 6 ≤ R.slots) (hlocks : meth.locks = false)
    (hx : ∀ t : State, s.vm.Alike t.vm → H.size ≤ t.heap.size → (∀ q : Nat, q < H.size → t.heap[q]? = H[q]?) → XC cls s t)
    (hf : ∀ z ∈ locs, free z.base) (hc : cells + 1 ≤ mc) (hs : slots + 6 ≤ ms) :
    W p l e R s m args below meth c H locs cells slots (vx_MQ below Qc XC args s mc ms free) (F0 m pc ls rest) := by
  intro T hT X
  have htr : e.platform.stackTraces = false := (show e.platform.stackTraces = l.stackTraces by rw [X.admits.platform]).trans hl
  have Y := vx_rebase X (R' := { frames := R.frames, locals := R.locals, cells := 1, slots := 6 }) (Nat.le_refl _) (Nat.le_refl _) hRcells hRslots
  obtain ⟨s', hA⟩ : ∃ z, z = (T.setVm s.vm).setFrames (.invoking m args :: below) := ⟨_, rfl⟩
  rw [← hA] at Y
  have hvm : s'.vm = s.vm := by rw [hA]; rfl
  have hhp : s'.heap = H := by rw [hA]; exact hT
  have hW0 : s.WarmedH s'.vm := by rw [hvm]; exact State.WarmedH.refl s
  have hat' : ∀ w ∈ vx_at0 own ic cls names, w.before args s' = true := fun w hw => vx_ot_at hW0 hvm.symm (hgood w (List.mem_cons_of_mem _ (List.mem_cons_of_mem _ hw))) (hat w hw)
  have hk' : (Cond.classLink own ik cls).before args s' = true := vx_ot_at hW0 hvm.symm (hgood _ List.mem_cons_self) hk
  have hini' : (Cond.initialized cls).before args s' = true := vx_ot_at hW0 hvm.symm (hgood _ (List.mem_cons_of_mem _ List.mem_cons_self)) hini
  have hU' : vx_Zq Bundle.tN "UNASSIGNED_STACK" Bundle.steD A s' s'.heap := by rw [hhp]; exact vx_Zq.moved hW0.alike (hU.kept hS.2.1)
  have hN' : vx_Zq Bundle.tN "SUPPRESSED_SENTINEL" Bundle.listD A s' s'.heap := by rw [hhp]; exact vx_Zq.moved hW0.alike (hN.kept hS.2.1)
  have h : ∀ w ∈ Bundle.ownAtoms0 own ic cls names, w.before args s' = true := vx_own hat' (vx_isRefq hU'.1) (vx_isRefq hN'.1) hU'.2.word hN'.2.word
  have hown' : s'.vm.findClass own = some m.cls := by rw [hvm]; exact hown
  have hins : (Cond.instantiable cls 6).before args s' = true := h _ (by simp [Bundle.ownAtoms0])
  obtain ⟨vm₁, cX, kX, hfX, hkX, -, -, X₁, st1⟩ := Y.newCold hexec (own := own) (C := cls) (index := ik) (n := 6) hown' hk' hins hini'
    (g := F0 m pc ls rest) rfl (by rw [hb]; exact d0) (Nat.le_refl _) (Nat.le_refl _)
  generalize hT1 : (T.setVm vm₁).pushCell { cls := cX, slots := kX.instanceTypes.map defaultValue, vm := .none } = T1 at X₁ st1
  have hcat : (Value.ref T.heap.size).category = 1 := rfl
  have hcellA : T1.heap[T.heap.size]? = some (freshCell cX kX) := by rw [← hT1]; exact State.heap_pushCell_size _ _
  have d3' : decode c.code (pc + 3) = .ok (.dup, 1) := by rw [hb]; exact d3
  obtain ⟨U, hsteps, hrun, hend, hW, hsame, ce, hce, hO⟩ := X₁.ctorThrow0 hexec htr (own := own) (cls := cls) (names := names) (ic := ic) hown' hcls hnames h (fun x hx => nomatch hx) hfX hkX hcellA (by rw [hhp, hT]; exact Nat.le_refl _)
    (g := { method := m, pc := pc + 4, locals := ls, stack := .ref T.heap.size :: .ref T.heap.size :: rest, locked := none }) rfl hsize rfl rfl (rest := rest) rfl
    (by rw [hb]; exact d4) (by rw [hb]; exact d7) hout hRframes (by simp only [List.map_cons, List.sum_cons, hcat]; omega) hlocks
  obtain ⟨f1, f2⟩ := vx_frame hsame
  rw [hhp] at f1 f2
  have hWs : s.WarmedH U.vm := State.WarmedH.trans hW0 hW
  have hcl : s.vm.findClass cls = some ce.cls := by
    have h9 := hO.cls
    rw [hvm] at h9
    exact h9
  have hall : s.sameButNew ({ U with vm := s.vm } : State) locs mc ms := by
    subst hA
    obtain ⟨e1, e2⟩ := hsame
    rw [State.setFrames_setFrames] at e1
    have h2 : (T.setVm s.vm).sameButNew ({ U with vm := s.vm } : State) [] (0 + 1) (0 + 6) := ⟨e1, e2⟩
    have h3 := X.same.trans h2
    rw [List.append_nil] at h3
    exact h3.mono hc hs
  refine ⟨U, ?_, .threw T.heap.size, hrun, hend, Or.inr ⟨T.heap.size, rfl, cls, ce, locs, hx U hWs.alike f1 (fun q hq => f2 q hq (fun z hz => nomatch hz)), hce, hO.vm, hcl, hWs, hall, hf⟩⟩
  refine st1 _ ?_
  show Steps p.tables e below (T1.setTop { method := m, pc := pc + 3, locals := ls, stack := .ref T.heap.size :: rest, locked := none }) _
  jvm_step X₁.here [X₁.here.top, hexec, d3', Value.category]
  exact hsteps
/-- 'throw new E("text")': new; dup; ldc; invokespecial; athrow -/
theorem vx_throwS {cc : ByteArray} {pc : Nat} (hexec : p.tables.exec = Jvm.exec) (hb : c.code = cc) (hl : l.stackTraces = false) {own cls text : String} {names : List String} {ik is ic mc ms sa : Nat} {A : Nat → Prop}
    (hown : s.vm.findClass own = some m.cls) (hcls : Bundle.fit cls = true) (hnames : ∀ n ∈ names, Bundle.fit n = true)
    (hk : (Cond.classLink own ik cls).before args s = true) (hini : (Cond.initialized cls).before args s = true) (hstr : vk_R own is text sa s) (hat : ∀ w ∈ vx_atS own ic cls names, w.before args s = true)
    (hgood : ∀ w ∈ Cond.classLink own ik cls :: Cond.initialized cls :: vx_atS own ic cls names, vx_ot w = true)
    (hU : vx_Zq Bundle.tN "UNASSIGNED_STACK" Bundle.steD A s s.heap) (hN : vx_Zq Bundle.tN "SUPPRESSED_SENTINEL" Bundle.listD A s s.heap) (hS : va_S A s.heap H locs) (hsize : ls.size = c.maxLocals)
    (d0 : decode cc pc = .ok (.new ik, 3)) (d3 : decode cc (pc + 3) = .ok (.dup, 1)) (d4 : decode cc (pc + 4) = .ok (.ldc is, 2)) (d6 : decode cc (pc + 6) = .ok (.invokespecial ic, 3)) (d9 : decode cc (pc + 9) = .ok (.athrow, 1))
    (hout : ∀ x ∈ c.exceptionTable.toList, covers x (pc + 9) = false)
    (hRframes : names.length + 3 < R.frames) (hRlocals : (rest.map fun v => v.category).sum + (13 * (names.length + 1) + 43) ≤ R.locals) (hRcells : cells + 1 ≤ R.cells) (hRslots : slots + 6 ≤ R.slots) (hlocks : meth.locks = false)
    (hx : ∀ t : State, s.vm.Alike t.vm → H.size ≤ t.heap.size → (∀ q : Nat, q < H.size → t.heap[q]? = H[q]?) → XC cls s t)
    (hf : ∀ z ∈ locs, free z.base) (hc : cells + 1 ≤ mc) (hs : slots + 6 ≤ ms) :
    W p l e R s m args below meth c H locs cells slots (vx_MQ below Qc XC args s mc ms free) (F0 m pc ls rest) := by
  intro T hT X
  have htr : e.platform.stackTraces = false := (show e.platform.stackTraces = l.stackTraces by rw [X.admits.platform]).trans hl
  have Y := vx_rebase X (R' := { frames := R.frames, locals := R.locals, cells := 1, slots := 6 }) (Nat.le_refl _) (Nat.le_refl _) hRcells hRslots
  obtain ⟨s', hA⟩ : ∃ z, z = (T.setVm s.vm).setFrames (.invoking m args :: below) := ⟨_, rfl⟩
  rw [← hA] at Y
  have hvm : s'.vm = s.vm := by rw [hA]; rfl
  have hhp : s'.heap = H := by rw [hA]; exact hT
  have hW0 : s.WarmedH s'.vm := by rw [hvm]; exact State.WarmedH.refl s
  have hat' : ∀ w ∈ vx_atS own ic cls names, w.before args s' = true := fun w hw => vx_ot_at hW0 hvm.symm (hgood w (List.mem_cons_of_mem _ (List.mem_cons_of_mem _ hw))) (hat w hw)
  have hk' : (Cond.classLink own ik cls).before args s' = true := vx_ot_at hW0 hvm.symm (hgood _ List.mem_cons_self) hk
  have hini' : (Cond.initialized cls).before args s' = true := vx_ot_at hW0 hvm.symm (hgood _ (List.mem_cons_of_mem _ List.mem_cons_self)) hini
  have hU' : vx_Zq Bundle.tN "UNASSIGNED_STACK" Bundle.steD A s' s'.heap := by rw [hhp]; exact vx_Zq.moved hW0.alike (hU.kept hS.2.1)
  have hN' : vx_Zq Bundle.tN "SUPPRESSED_SENTINEL" Bundle.listD A s' s'.heap := by rw [hhp]; exact vx_Zq.moved hW0.alike (hN.kept hS.2.1)
  have h : ∀ w ∈ Bundle.ownAtoms own ic cls names, w.before args s' = true := vx_own hat' (vx_isRefq hU'.1) (vx_isRefq hN'.1) hU'.2.word hN'.2.word
  have hown' : s'.vm.findClass own = some m.cls := by rw [hvm]; exact hown
  have hins : (Cond.instantiable cls 6).before args s' = true := h _ (by simp [Bundle.ownAtoms])
  obtain ⟨vm₁, cX, kX, hfX, hkX, -, -, X₁, st1⟩ := Y.newCold hexec (own := own) (C := cls) (index := ik) (n := 6) hown' hk' hins hini'
    (g := F0 m pc ls rest) rfl (by rw [hb]; exact d0) (Nat.le_refl _) (Nat.le_refl _)
  generalize hT1 : (T.setVm vm₁).pushCell { cls := cX, slots := kX.instanceTypes.map defaultValue, vm := .none } = T1 at X₁ st1
  have hcat : (Value.ref T.heap.size).category = 1 := rfl
  have hcellA : T1.heap[T.heap.size]? = some (freshCell cX kX) := by rw [← hT1]; exact State.heap_pushCell_size _ _
  have d3' : decode c.code (pc + 3) = .ok (.dup, 1) := by rw [hb]; exact d3
  have d4' : decode c.code (pc + 4) = .ok (.ldc is, 2) := by rw [hb]; exact d4
  have hstr' : vk_R own is text sa s' := vk_R.warm hW0 hstr
  obtain ⟨U, hsteps, hrun, hend, hW, hsame, ce, hce, hO⟩ := X₁.ctorThrowS hexec htr (own := own) (cls := cls) (names := names) (ic := ic) hown' hcls hnames h (fun x hx => nomatch hx) hfX hkX hcellA (by rw [hhp, hT]; exact Nat.le_refl _) (msg := .ref sa) rfl
    (g := { method := m, pc := pc + 6, locals := ls, stack := .ref sa :: .ref T.heap.size :: .ref T.heap.size :: rest, locked := none }) rfl hsize rfl rfl (rest := rest) rfl
    (by rw [hb]; exact d6) (by rw [hb]; exact d9) hout hRframes (by simp only [List.map_cons, List.sum_cons, hcat]; omega) hlocks
  obtain ⟨f1, f2⟩ := vx_frame hsame
  rw [hhp] at f1 f2
  have hWs : s.WarmedH U.vm := State.WarmedH.trans hW0 hW
  have hcl : s.vm.findClass cls = some ce.cls := by
    have h9 := hO.cls
    rw [hvm] at h9
    exact h9
  have hall : s.sameButNew ({ U with vm := s.vm } : State) locs mc ms := by
    subst hA
    obtain ⟨e1, e2⟩ := hsame
    rw [State.setFrames_setFrames] at e1
    have h2 : (T.setVm s.vm).sameButNew ({ U with vm := s.vm } : State) [] (0 + 1) (0 + 6) := ⟨e1, e2⟩
    have h3 := X.same.trans h2
    rw [List.append_nil] at h3
    exact h3.mono hc hs
  refine ⟨U, ?_, .threw T.heap.size, hrun, hend, Or.inr ⟨T.heap.size, rfl, cls, ce, locs, hx U hWs.alike f1 (fun q hq => f2 q hq (fun z hz => nomatch hz)), hce, hO.vm, hcl, hWs, hall, hf⟩⟩
  refine st1 _ ?_
  show Steps p.tables e below (T1.setTop { method := m, pc := pc + 3, locals := ls, stack := .ref T.heap.size :: rest, locked := none }) _
  jvm_step X₁.here [X₁.here.top, hexec, d3', Value.category]
  exact X₁.ldcString hexec (own := own) (text := text) (index := is) (a := sa) hown' hstr'.1 hstr'.2
    (g := { method := m, pc := pc + 4, locals := ls, stack := .ref T.heap.size :: .ref T.heap.size :: rest, locked := none }) rfl d4' _ hsteps
/-- 'throw new E("text")', the text by a wide index -/
theorem vx_throwSW {cc : ByteArray} {pc : Nat} (hexec : p.tables.exec = Jvm.exec) (hb : c.code = cc) (hl : l.stackTraces = false) {own cls text : String} {names : List String} {ik is ic mc ms sa : Nat} {A : Nat → Prop}
    (hown : s.vm.findClass own = some m.cls) (hcls : Bundle.fit cls = true) (hnames : ∀ n ∈ names, Bundle.fit n = true)
    (hk : (Cond.classLink own ik cls).before args s = true) (hini : (Cond.initialized cls).before args s = true) (hstr : vk_R own is text sa s) (hat : ∀ w ∈ vx_atS own ic cls names, w.before args s = true)
    (hgood : ∀ w ∈ Cond.classLink own ik cls :: Cond.initialized cls :: vx_atS own ic cls names, vx_ot w = true)
    (hU : vx_Zq Bundle.tN "UNASSIGNED_STACK" Bundle.steD A s s.heap) (hN : vx_Zq Bundle.tN "SUPPRESSED_SENTINEL" Bundle.listD A s s.heap) (hS : va_S A s.heap H locs) (hsize : ls.size = c.maxLocals)
    (d0 : decode cc pc = .ok (.new ik, 3)) (d3 : decode cc (pc + 3) = .ok (.dup, 1)) (d4 : decode cc (pc + 4) = .ok (.ldc_w is, 3)) (d7 : decode cc (pc + 7) = .ok (.invokespecial ic, 3)) (d10 : decode cc (pc + 10) = .ok (.athrow, 1))
    (hout : ∀ x ∈ c.exceptionTable.toList, covers x (pc + 10) = false)
    (hRframes : names.length + 3 < R.frames) (hRlocals : (rest.map fun v => v.category).sum + (13 * (names.length + 1) + 43) ≤ R.locals) (hRcells : cells + 1 ≤ R.cells) (hRslots : slots + 6 ≤ R.slots) (hlocks : meth.locks = false)
    (hx : ∀ t : State, s.vm.Alike t.vm → H.size ≤ t.heap.size → (∀ q : Nat, q < H.size → t.heap[q]? = H[q]?) → XC cls s t)
    (hf : ∀ z ∈ locs, free z.base) (hc : cells + 1 ≤ mc) (hs : slots + 6 ≤ ms) :
    W p l e R s m args below meth c H locs cells slots (vx_MQ below Qc XC args s mc ms free) (F0 m pc ls rest) := by
  intro T hT X
  have htr : e.platform.stackTraces = false := (show e.platform.stackTraces = l.stackTraces by rw [X.admits.platform]).trans hl
  have Y := vx_rebase X (R' := { frames := R.frames, locals := R.locals, cells := 1, slots := 6 }) (Nat.le_refl _) (Nat.le_refl _) hRcells hRslots
  obtain ⟨s', hA⟩ : ∃ z, z = (T.setVm s.vm).setFrames (.invoking m args :: below) := ⟨_, rfl⟩
  rw [← hA] at Y
  have hvm : s'.vm = s.vm := by rw [hA]; rfl
  have hhp : s'.heap = H := by rw [hA]; exact hT
  have hW0 : s.WarmedH s'.vm := by rw [hvm]; exact State.WarmedH.refl s
  have hat' : ∀ w ∈ vx_atS own ic cls names, w.before args s' = true := fun w hw => vx_ot_at hW0 hvm.symm (hgood w (List.mem_cons_of_mem _ (List.mem_cons_of_mem _ hw))) (hat w hw)
  have hk' : (Cond.classLink own ik cls).before args s' = true := vx_ot_at hW0 hvm.symm (hgood _ List.mem_cons_self) hk
  have hini' : (Cond.initialized cls).before args s' = true := vx_ot_at hW0 hvm.symm (hgood _ (List.mem_cons_of_mem _ List.mem_cons_self)) hini
  have hU' : vx_Zq Bundle.tN "UNASSIGNED_STACK" Bundle.steD A s' s'.heap := by rw [hhp]; exact vx_Zq.moved hW0.alike (hU.kept hS.2.1)
  have hN' : vx_Zq Bundle.tN "SUPPRESSED_SENTINEL" Bundle.listD A s' s'.heap := by rw [hhp]; exact vx_Zq.moved hW0.alike (hN.kept hS.2.1)
  have h : ∀ w ∈ Bundle.ownAtoms own ic cls names, w.before args s' = true := vx_own hat' (vx_isRefq hU'.1) (vx_isRefq hN'.1) hU'.2.word hN'.2.word
  have hown' : s'.vm.findClass own = some m.cls := by rw [hvm]; exact hown
  have hins : (Cond.instantiable cls 6).before args s' = true := h _ (by simp [Bundle.ownAtoms])
  obtain ⟨vm₁, cX, kX, hfX, hkX, -, -, X₁, st1⟩ := Y.newCold hexec (own := own) (C := cls) (index := ik) (n := 6) hown' hk' hins hini'
    (g := F0 m pc ls rest) rfl (by rw [hb]; exact d0) (Nat.le_refl _) (Nat.le_refl _)
  generalize hT1 : (T.setVm vm₁).pushCell { cls := cX, slots := kX.instanceTypes.map defaultValue, vm := .none } = T1 at X₁ st1
  have hcat : (Value.ref T.heap.size).category = 1 := rfl
  have hcellA : T1.heap[T.heap.size]? = some (freshCell cX kX) := by rw [← hT1]; exact State.heap_pushCell_size _ _
  have d3' : decode c.code (pc + 3) = .ok (.dup, 1) := by rw [hb]; exact d3
  have d4' : decode c.code (pc + 4) = .ok (.ldc_w is, 3) := by rw [hb]; exact d4
  have hstr' : vk_R own is text sa s' := vk_R.warm hW0 hstr
  obtain ⟨U, hsteps, hrun, hend, hW, hsame, ce, hce, hO⟩ := X₁.ctorThrowS hexec htr (own := own) (cls := cls) (names := names) (ic := ic) hown' hcls hnames h (fun x hx => nomatch hx) hfX hkX hcellA (by rw [hhp, hT]; exact Nat.le_refl _) (msg := .ref sa) rfl
    (g := { method := m, pc := pc + 7, locals := ls, stack := .ref sa :: .ref T.heap.size :: .ref T.heap.size :: rest, locked := none }) rfl hsize rfl rfl (rest := rest) rfl
    (by rw [hb]; exact d7) (by rw [hb]; exact d10) hout hRframes (by simp only [List.map_cons, List.sum_cons, hcat]; omega) hlocks
  obtain ⟨f1, f2⟩ := vx_frame hsame
  rw [hhp] at f1 f2
  have hWs : s.WarmedH U.vm := State.WarmedH.trans hW0 hW
  have hcl : s.vm.findClass cls = some ce.cls := by
    have h9 := hO.cls
    rw [hvm] at h9
    exact h9
  have hall : s.sameButNew ({ U with vm := s.vm } : State) locs mc ms := by
    subst hA
    obtain ⟨e1, e2⟩ := hsame
    rw [State.setFrames_setFrames] at e1
    have h2 : (T.setVm s.vm).sameButNew ({ U with vm := s.vm } : State) [] (0 + 1) (0 + 6) := ⟨e1, e2⟩
    have h3 := X.same.trans h2
    rw [List.append_nil] at h3
    exact h3.mono hc hs
  refine ⟨U, ?_, .threw T.heap.size, hrun, hend, Or.inr ⟨T.heap.size, rfl, cls, ce, locs, hx U hWs.alike f1 (fun q hq => f2 q hq (fun z hz => nomatch hz)), hce, hO.vm, hcl, hWs, hall, hf⟩⟩
  refine st1 _ ?_
  show Steps p.tables e below (T1.setTop { method := m, pc := pc + 3, locals := ls, stack := .ref T.heap.size :: rest, locked := none }) _
  jvm_step X₁.here [X₁.here.top, hexec, d3', Value.category]
  exact X₁.ldcStringW hexec (own := own) (text := text) (index := is) (a := sa) hown' hstr'.1 hstr'.2
    (g := { method := m, pc := pc + 4, locals := ls, stack := .ref T.heap.size :: .ref T.heap.size :: rest, locked := none }) rfl d4' _ hsteps
end Ends
section Bodies
variable {l : Launch}
theorem vx_ofW {y : MethodName} {ws ws' : List Cond} {rm : Room} {Pc : Array Value → State → Prop} {Qc : Array Value → State → Outcome → State → Prop} {XC : String → State → State → Prop} {mc ms : Nat} {free : Addr → Prop} {cc : ByteArray} {maxL : Nat} {ret : Option FieldType}
    (hy : plainName y.cls = true) (hw : ws = Cond.code y cc maxL ret :: ws')
    (body : ∀ p e s m args below meth c s₁, BodyLoose p l y (headSpec ws rm) cc maxL ret e s m args below meth c s₁ → c.maxLocals = maxL → (∀ x ∈ c.exceptionTable.toList, False) → Pc args s →
      W p l e (headSpec ws rm).room s m args below meth c s.heap [] 0 0 (vx_MQ below Qc XC args s mc ms free) (entryFrame m args maxL)) : vx_Met l y ws rm Pc Qc XC mc ms free := by
  refine MetFree.of_bodyS (code := cc) (maxLocals := maxL) (ret := ret) hy ?_ ?_
  · intro args s m h hn
    obtain ⟨meth, c, h1, h2, h3, h4, h5, h6, -, -⟩ := Cond.code_spec hn (atoms_spec (ws := ws) h _ (by rw [hw]; exact List.mem_cons_self))
    exact ⟨meth, c, h1, h2, h3, h4, h5, h6⟩
  · intro p e s m args below meth c s₁ B hml hP _
    have hh0 : s₁.heap = s.heap := by rw [B.state]; rfl
    have ht : ∀ x ∈ c.exceptionTable.toList, False := by
      obtain ⟨meth9, c9, h1, h2, -, -, -, -, h7, -⟩ := Cond.code_spec B.named (atoms_spec (ws := ws) B.pre _ (by rw [hw]; exact List.mem_cons_self))
      cases Option.some.inj (h1.symm.trans B.method)
      cases Option.some.inj (h2.symm.trans (Stand.of_body B).code)
      intro x hx
      rw [Array.isEmpty_iff.mp h7] at hx
      cases hx
    obtain ⟨t, a1, o, b1, b2, b3⟩ := body p e s m args below meth c s₁ B hml ht hP s₁ hh0 (Stand.of_body B)
    exact ⟨t, o, a1, b1, b2, b3⟩
/-- the table of a body with handlers -/
theorem vx_table {p : Program} {x y : MethodName} {S : Spec} {cc bytes : ByteArray} {maxL maxL' : Nat} {ret ret' : Option FieldType} {e : Env} {s s₁ : State} {m : MethodId} {args : Array Value} {below : List Frame} {meth : Method} {c : Code} {hh : List (Nat × Nat × Nat × Nat)}
    (B : BodyLoose p l y S cc maxL ret e s m args below meth c s₁) (h : (Cond.codeWith y bytes maxL' ret' hh).before args s = true) : c.exceptionTable.toList = tableOf hh := by
  obtain ⟨m9, meth9, c9, hn9, h1, h2, -, -, h6, -⟩ := Cond.codeWith_spec h
  cases Option.some.inj (hn9.symm.trans B.named)
  cases Option.some.inj (h1.symm.trans B.method)
  cases Option.some.inj (h2.symm.trans (Stand.of_body B).code)
  rw [← h6, table_eq]
end Bodies
end VXA
/-! ===== END ===== -/
/-! ===== BEGIN a static call of a method with an exception table ===== -/
section VXS
variable {p : Program} {l : Launch} {e : Env} {R : Room} {s : State} {m : MethodId} {args : Array Value} {below : List Frame} {meth : Method} {c : Code} {T : State} {H : Heap} {locs : List Loc} {cells slots : Nat}
abbrev vx_CSW (R : Room) (s : State) (args : Array Value) (own : String) (index : Nat) (y : MethodName) (bytes : ByteArray) (maxL : Nat) (ret : Option FieldType) (hh : List (Nat × Nat × Nat × Nat)) (ws : List Cond) (rm : Room) (mc ms n : Nat) : Prop :=
  (rm.cells = mc ∧ rm.slots = ms ∧ rm.frames + 1 ≤ R.frames ∧ 8 + (maxL + 11) + rm.locals ≤ R.locals ∧ (∀ w ∈ ws, ∀ (a' : Array Value) (U : State), s.WarmedH U.vm → w.before a' U = true) ∧ Cond.codeWith y bytes maxL ret hh ∈ ws) ∧
  (Cond.codeWith y bytes maxL ret hh).before args s = true ∧ (Cond.initialized y.cls).before args s = true ∧ (y.cls ≠ "java/lang/invoke/MethodHandle" ∧ y.cls ≠ "java/lang/invoke/VarHandle") ∧
  (∀ sig, parseMethodDescriptor y.desc = some sig → n = sig.parameters.length) ∧ (Cond.methodLink own index y).before args s = true ∧ (Cond.static y).before args s = true
theorem vx_cwSW {own : String} {index maxL mc ms : Nat} {y : MethodName} {bytes : ByteArray} {ret : Option FieldType} {hh : List (Nat × Nat × Nat × Nat)} {Ts ws ws' : List Cond} {rm : Room} (n : Nat) (ht : ∀ w ∈ Ts, w.before args s = true) (hT : GoodIn Ts (va_wsS own index y ws)) (hw : ws = Cond.codeWith y bytes maxL ret hh :: ws') (hrc : rm.cells = mc) (hrs : rm.slots = ms)
    (hd : y.cls ≠ "java/lang/invoke/MethodHandle" ∧ y.cls ≠ "java/lang/invoke/VarHandle" ∧ (parseMethodDescriptor y.desc).map (fun d => d.parameters.length) = some n) (hR : rm.frames + 1 ≤ R.frames ∧ 8 + (maxL + 11) + rm.locals ≤ R.locals) :
    vx_CSW R s args own index y bytes maxL ret hh ws rm mc ms n := by
  have ok : ∀ w ∈ va_wsS own index y ws, w.before args s = true := fun w h => ht w (hT w h).1
  have hG : GoodIn Ts ws := fun w h => hT w (by unfold va_wsS; exact List.mem_append_right _ h)
  have hc : Cond.codeWith y bytes maxL ret hh ∈ ws := by rw [hw]; exact List.mem_cons_self
  refine ⟨⟨hrc, hrs, hR.1, hR.2, pay_in ht hG, hc⟩, ht _ (hG _ hc).1, ok _ (by simp [va_wsS]), ⟨hd.1, hd.2.1⟩, fun sig h => ?_, ok _ (by simp [va_wsS]), ok _ (by simp [va_wsS])⟩
  have h2 := hd.2.2
  rw [h] at h2
  exact (Option.some.inj h2).symm
theorem vx_callSW (X : Stand p l e R s m args below meth c T locs cells slots) (hexec : p.tables.exec = Jvm.exec) {own : String} {index : Nat} {y : MethodName} {bytes : ByteArray} {maxL : Nat} {ret : Option FieldType} {hh : List (Nat × Nat × Nat × Nat)}
    (hown : s.vm.findClass own = some m.cls) (hlink : (Cond.methodLink own index y).before args s = true) (hstat : (Cond.static y).before args s = true) (hinit : (Cond.initialized y.cls).before args s = true)
    (hcode : (Cond.codeWith y bytes maxL ret hh).before args s = true) (hy : y.cls ≠ "java/lang/invoke/MethodHandle" ∧ y.cls ≠ "java/lang/invoke/VarHandle")
    {W9 : Nat} {Pre : Pt → Array Value → Prop} {Post : Pt → Array Value → Option Value → Pt → Prop} (hK : Back l R p e below s args y 3 W9 Pre Post)
    {g : JFrame} (hg : g.method = m) (hsize : g.locals.size = c.maxLocals) {argsL rest : List Value} (hlen : ∀ sig, parseMethodDescriptor y.desc = some sig → argsL.length = sig.parameters.length)
    (hstack : g.stack = argsL.reverse ++ rest) (hW : 2 * g.monitorRoom + (rest.map fun v => v.category).sum ≤ W9) (hdg : decode c.code g.pc = .ok (.invokestatic index, 3))
    (hpre : ∀ vm₁, s.WarmedH vm₁ → Pre ⟨T.setVm vm₁, locs, cells, slots⟩ argsL.toArray) :
    ∃ (v : Option Value) (vm₁ : Vm) (B : Pt), s.WarmedH vm₁ ∧ Stand p l e R s m args below meth c B.U B.locs B.cells B.slots ∧ Post ⟨T.setVm vm₁, locs, cells, slots⟩ argsL.toArray v B ∧
      ∀ target, Steps p.tables e below (B.U.setTop { g with pc := g.pc + 3, stack := v.toList ++ rest }) target → Steps p.tables e below (T.setTop g) target := by
  obtain ⟨mk, methM, cM, hnamed, hmethM, -, -, -, -, -, -, hsigM⟩ := Cond.codeWith_spec hcode
  have hstatic : methM.isStatic = true := Cond.static_spec hnamed hmethM hstat
  obtain ⟨kP, hkP, -⟩ := className_of_methodNamed hnamed
  have hinitP : kP.init = .initialized := Cond.initialized_spec (findClass_of_methodNamed hnamed) hkP hinit
  obtain ⟨vm₁, X₁, hstep₁⟩ := X.invokestatic hexec hown hlink hnamed hmethM hstatic hkP hinitP hy (g := g) hg (argsL := argsL) (rest := rest) (hlen _ hsigM) hstack hdg
  obtain ⟨v, B, X', hpost, hsteps⟩ := hK m meth c ⟨T.setVm vm₁, locs, cells, slots⟩ { g with stack := rest } (.invokestatic index) mk argsL.toArray X₁ hg hsize hdg hW (X₁.named hnamed) (hpre vm₁ X₁.warmed)
  exact ⟨v, vm₁, B, X₁.warmed, X', hpost, fun target h => hstep₁ _ fun acts => by rw [doInvoke_state]; exact hsteps.trans h⟩
theorem vx_runSW {y : MethodName} {bytes cc : ByteArray} {maxL nL mc ms n index : Nat} {ret : Option FieldType} {hh : List (Nat × Nat × Nat × Nat)} {ws : List Cond} {rm : Room} {Pc : Array Value → State → Prop} {Qc : Array Value → State → Outcome → State → Prop} {free : Addr → Prop} {Ts : List Cond} {own : String} {As rest : List Value} {g : JFrame}
    (S : CallFix p m c cc nL s args Ts own) (hM : Met l y ws rm Pc Qc mc ms free) (cw : vx_CSW R s args own index y bytes maxL ret hh ws rm mc ms n) (hp : PreS s H Pc As)
    (hg : g.method = m) (hn : As.length = n) (hsize : g.locals.size = nL) (hstack : g.stack = As.reverse ++ rest) (hW : 2 * g.monitorRoom + (rest.map fun v => v.category).sum ≤ 8) (hdg : decode cc g.pc = .ok (.invokestatic index, 3)) (hf : cells + mc ≤ R.cells ∧ slots + ms ≤ R.slots) :
    va_Run p l e R s m args below meth c H locs cells slots mc ms g rest (Qc As.toArray) (free) := by
  obtain ⟨⟨hrc, hrs, hfr, hlo, hws, hcw⟩, hcode, hini, hy, hlen, hl, hstt⟩ := cw
  have hK : Back l R p e below s args y 3 8 (PreOf R mc ms Pc) (PostOf Qc mc ms free) := va_backW (hh := hh) (bytes := bytes) (maxL := maxL) (ret := ret) hM hp.1 hrc hrs hfr hlo hws hcw (fun a' U hW => word_at hW (Or.inl (by first | rfl | simp [Cond.onTables, Cond.keeps, Cond.steady])) hini)
  obtain ⟨hx, hb, hml, ho, -⟩ := S
  intro T hT X
  obtain ⟨v, vm₁, ⟨U', l2, c2, s2⟩, hW₁, X', ⟨g', mk, t, L, e1, e2, hq, h1, hL, h2, h3⟩, st⟩ := vx_callSW X hx (hh := hh) (bytes := bytes) (maxL := maxL) (ret := ret) ho hl hstt hini hcode hy hK hg (hsize.trans hml.symm) (argsL := As) (rest := rest) (fun sig h => hn.trans (hlen sig h)) hstack hW (by rw [hb]; exact hdg)
    (fun vm₁ hW₁ => ⟨hf.1, hf.2, hp.2 (T.setVm vm₁) hT hW₁⟩)
  dsimp only [Pt.U, Pt.locs, Pt.cells, Pt.slots] at X' e1 e2 h1 h2 h3 st
  subst h1; subst h2; subst h3
  exact ⟨v, (T.setVm vm₁).calling g' mk As.toArray, t, U', L, hT, X', hL, e1, e2, hq, st⟩
/-- not caught here, past rows that name other classes: it goes on to the caller -/
theorem vx_outP {p : Program} {l : Launch} {e : Env} {R : Room} {s : State} {m : MethodId} {args : Array Value} {below : List Frame} {meth : Method} {c : Code} {H : Heap} {locs : List Loc} {cells slots : Nat} {free : Addr → Prop} {ls : Array Slot} {rest : List Value} {Qc : Array Value → State → Outcome → State → Prop} {XC : String → State → State → Prop}
    {pc : Nat} {own E : String} {ce : Cell} {q : Addr} {mc ms : Nat} (hown : s.vm.findClass own = some m.cls) (hlocks : meth.locks = false)
    (hpass : ∀ z ∈ c.exceptionTable.toList, covers z pc = false ∨ (z.catchType ≠ 0 ∧ ∃ nm : String, (Cond.classLink own z.catchType nm).before args s = true ∧ va_Nc E nm s)) (hcell : H[q]? = some ce) (hv : ce.vm = .none) (hcl : s.vm.findClass E = some ce.cls)
    (hx : ∀ t : State, t.heap = H → s.vm.Alike t.vm → XC E s t) (hf : ∀ z ∈ locs, free z.base) (hc : cells ≤ mc) (hs : slots ≤ ms) :
    vx_W p l e R s m args below meth c H locs cells slots (vx_MQ below Qc XC args s mc ms free) (F0 m pc ls rest) q := by
  intro T hT X
  have hpl : e.platform.magicAccessors = ({} : Platform).magicAccessors := by rw [X.admits.platform]
  obtain ⟨vm', hW', X', st⟩ := X.outThrough hlocks q (g := F0 m pc ls rest) rfl rfl rfl (cell := ce) (by rw [hT]; exact hcell) (by rw [hv]; rfl)
    (by obtain ⟨k9, h9, -⟩ := Vm.findClass_spec hcl; exact ⟨k9, h9⟩) (fun z hz => by
      rcases hpass z hz with h | ⟨hz0, nm, hl1, hn1⟩
      · exact Or.inl h
      · obtain ⟨c6, hc6, hcl6⟩ := Cond.classLink_spec hown hl1 e.platform hpl
        obtain ⟨a8, b8, h1, h2, h3⟩ := hn1
        cases Option.some.inj (h1.symm.trans hcl)
        cases Option.some.inj (h2.symm.trans hc6)
        exact Or.inr ⟨hz0, _, hcl6, h3⟩)
  obtain ⟨g₀, hfr⟩ := X'.frames_eq
  have hcell9 : ((T.setVm vm').setFrames (.throwing q :: below)).heap[q]? = some ce := by
    show T.heap[q]? = some ce
    rw [hT]; exact hcell
  have hend : Ended ((T.setVm vm').setFrames (.throwing q :: below)) below (.threw q) := State.frames_setFrames _ (State.cur_lt_of_frames hfr)
  refine ⟨(T.setVm vm').setFrames (.throwing q :: below), ?_, .threw q, X'.here.running, hend, Or.inr ⟨q, rfl, E, ce, locs, hx _ hT (X'.ends _).1.alike, hcell9, hv, hcl, (X'.ends _).1, (X'.ends _).2.mono hc hs, hf⟩⟩
  rw [X.pushThrowing_eq]
  exact st
/-- a thing of a world lies in the heap -/
theorem vx_lt {D : va_G} {cl : List vw_C} {ws : va_W} {H1 : Heap} (h : va_P D cl ws H1) {k : Nat} {q : Nat × va_E} (hk : ws[k]? = some q) : q.1 < H1.size := (h k q hk).lt
end VXS
/-! ===== END ===== -/
/-! ===== BEGIN methods with a table of their own: called by a name, returning or throwing ===== -/
section VXH
/-! vx_backW, vx_callVX, vx_callSX, vx_callVW, vx_runVW, vx_runVX, vx_runSX, vx_ofWH follow the same proofs as their sisters above (Free/Laws.lean, Shelf42/LK1.lean); vx_outP calls Shelf42/NT130.lean (outThrough). -/
section
variable {l : Launch} {R : Room} {p : Program} {e : Env} {below : List Frame} {s : State} {sargs : Array Value} {y : MethodName} {len W9 : Nat}
theorem vx_backW {ws : List Cond} {rm : Room} {Pc : Array Value → State → Prop} {Qc : Array Value → State → Outcome → State → Prop} {XC : String → State → State → Prop} {mc ms : Nat} {free : Addr → Prop} {bytes : ByteArray} {maxL : Nat} {ret : Option FieldType} {hh : List (Nat × Nat × Nat × Nat)}
    (hM : vx_Met l y ws rm Pc Qc XC mc ms free) (hblind : FrameBlind Pc) (hrc : rm.cells = mc) (hrs : rm.slots = ms)
    (hframes : rm.frames + 1 ≤ R.frames) (hlocals : W9 + (maxL + 11) + rm.locals ≤ R.locals)
    (hws : ∀ w ∈ ws, ∀ a' U, s.WarmedH U.vm → w.before a' U = true) (hcode : Cond.codeWith y bytes maxL ret hh ∈ ws) (hinit : ∀ a' U, s.WarmedH U.vm → (Cond.initialized y.cls).before a' U = true) :
    vx_Back l R p e below s sargs y len W9 (PreOf R mc ms Pc) (PostOf Qc mc ms free) (vx_Post XC mc ms free) := by
  intro m meth c A g ig mk a X hg hsize hdg hW hn hp
  have h1 : (headSpec ws rm).pre.before a A.U = true := atoms_intro fun w hw => hws w hw _ _ X.warmed
  have h2 : (Cond.codeWith y bytes maxL ret hh).before a A.U = true := hws _ hcode _ _ X.warmed
  have h3 : (Cond.initialized y.cls).before a A.U = true := hinit _ _ X.warmed
  have h4 : A.cells + (headSpec ws rm).room.cells ≤ R.cells := by rw [show (headSpec ws rm).room.cells = mc from hrc]; exact hp.1
  have h5 : A.slots + (headSpec ws rm).room.slots ≤ R.slots := by rw [show (headSpec ws rm).room.slots = ms from hrs]; exact hp.2.1
  have hPc : Pc a (A.U.calling g mk a) := hblind _ _ _ _ hp.2.2
  obtain ⟨U, Ls, c0, s0⟩ := A
  dsimp only [Pt.U, Pt.locs, Pt.cells, Pt.slots] at h1 h2 h3 h4 h5 X hn hPc ⊢
  obtain ⟨m9, methY, cY, hn9, hmY, hcY, -, hlY, -⟩ := Cond.codeWith_spec h2
  cases Option.some.inj (hn9.symm.trans hn)
  obtain ⟨kY, hkY, -⟩ := className_of_methodNamed hn
  have hinitY : kY.init = .initialized := Cond.initialized_spec (findClass_of_methodNamed hn) hkY h3
  have h : At U g.method c below := by rw [hg]; exact X.here
  have hlocals9 : W9 + (maxL + 11) + (headSpec ws rm).room.locals ≤ R.locals := hlocals
  have happ : (headSpec ws rm).appliesLoose y e.platform (U.calling g mk a) = true :=
    Spec.appliesLoose_calling (g := g) h hdg hn hkY hinitY
      (X.room_calling (g := g) (R' := (headSpec ws rm).room) hsize hmY hcY hframes (by rw [hlY]; omega) h4 h5) h1
  obtain ⟨mid, hmid⟩ := h.above
  have hfr : (U.setTop g).frames = (.java g :: mid) ++ below := by rw [State.frames_setTop' g h.top, hmid]; rfl
  obtain ⟨o, s₂, hsteps, -, hend, hq⟩ := Steps.callFree hM p X.admits X.cas X.clock (acts := []) hfr happ hPc trivial
  have hq' : vx_Q Qc XC mc ms free a (U.calling g mk a) o s₂ := hq
  rw [State.frames_setTop' g h.top] at hend
  obtain ⟨g₀, hg0⟩ := Option.isSome_iff_exists.mp h.top
  obtain ⟨r, hr⟩ := State.topJava?_eq_some.mp hg0
  have hr' : (({ U with heap := s₂.heap, slotsUsed := s₂.slotsUsed } : State).setVm s₂.vm).frames = .java g₀ :: r := hr
  rcases hq' with ⟨hqc, L, hfe, hL⟩ | ⟨q, rfl, E, ce, L, hx, hce, hcv, hcl, hW₂, hsm, hL⟩
  · obtain ⟨⟨v, rfl⟩, hW₂, e2, q2, q3, q4, q5, q6⟩ := id hfe
    have e3 : s₂ = ({ (U.calling g mk a).setFrames s₂.frames with heap := s₂.heap, slotsUsed := s₂.slotsUsed } : State).setVm s₂.vm := by
      have : s₂ = ({ s₂ with vm := (U.calling g mk a).vm } : State).setVm s₂.vm := rfl
      rw [e2] at this
      exact this
    obtain ⟨c₂, i₂, len₂, hc₂, hd₂, hf₂⟩ := hend
    have hW' : U.WarmedH s₂.vm := hW₂
    have hcc : c₂ = c := by
      have h1 : s₂.code? g.method = U.code? g.method := by
        rw [State.code?_eq, State.code?_eq, hW'.alike.method?]
      exact Option.some.inj (hc₂.symm.trans (h1.trans h.code))
    subst hcc
    have hlen : len₂ = len := by rw [hdg] at hd₂; cases hd₂; rfl
    subst hlen
    have hs₂ : s₂ = (({ U with heap := s₂.heap, slotsUsed := s₂.slotsUsed } : State).setVm s₂.vm).setTop { g with pc := g.pc + len₂, stack := v.toList ++ g.stack } := by
      refine e3.trans ?_
      rw [hf₂, State.calling_eq h.top, State.setFrames_setFrames, State.setTop_of_frames _ hr', hr]
      rfl
    have hsame : U.sameButNew ({ U with heap := s₂.heap, slotsUsed := s₂.slotsUsed } : State) L mc ms := by
      refine ⟨?_, q2, q3, q4, q5, q6⟩
      obtain ⟨t, ht, -⟩ := State.frames_cons hr
      show ({ U with heap := s₂.heap, slotsUsed := s₂.slotsUsed } : State) = { U.setFrames U.frames with heap := s₂.heap, slotsUsed := s₂.slotsUsed }
      rw [State.setFrames_self ht]
    subst hg
    refine Or.inl ⟨v, ⟨(({ U with heap := s₂.heap, slotsUsed := s₂.slotsUsed } : State).setVm s₂.vm), Ls ++ L, c0 + mc, s0 + ms⟩,
      ⟨X.admits, X.cas, X.clock, X.frames, X.room, X.hears, X.method, X.code, (X.here.setHeapUsed s₂.heap s₂.slotsUsed).setVm hW'.alike, X.tail, State.WarmedH.trans X.warmed hW', X.limits, X.bytes, X.same.trans (hsame.setVm s.vm)⟩,
      ⟨g, mk, s₂, L, rfl, rfl, hqc, rfl, hL, rfl, rfl⟩, ?_⟩
    show Steps p.tables e below _ ((({ U with heap := s₂.heap, slotsUsed := s₂.slotsUsed } : State).setVm s₂.vm).setTop { g with pc := g.pc + len₂, stack := v.toList ++ g.stack })
    rw [← hs₂]
    exact hsteps
  · obtain ⟨e2, q2, q3, q4, q5, q6⟩ := id hsm
    have e3 : s₂ = ({ (U.calling g mk a).setFrames s₂.frames with heap := s₂.heap, slotsUsed := s₂.slotsUsed } : State).setVm s₂.vm := by
      have : s₂ = ({ s₂ with vm := (U.calling g mk a).vm } : State).setVm s₂.vm := rfl
      rw [e2] at this
      exact this
    have hf₂ : s₂.frames = .throwing q :: .java g :: U.frames.tail := hend
    have hW' : U.WarmedH s₂.vm := hW₂
    have hs₂ : s₂ = ((({ U with heap := s₂.heap, slotsUsed := s₂.slotsUsed } : State).setVm s₂.vm).setTop g).pushFrame (.throwing q) := by
      refine e3.trans ?_
      rw [hf₂, State.calling_eq h.top, State.setFrames_setFrames, State.pushFrame, State.frames_setTop _ hr', State.setTop_of_frames _ hr', State.setFrames_setFrames, hr]
      rfl
    have hsame : U.sameButNew ({ U with heap := s₂.heap, slotsUsed := s₂.slotsUsed } : State) L mc ms := by
      refine ⟨?_, q2, q3, q4, q5, q6⟩
      obtain ⟨t, ht, -⟩ := State.frames_cons hr
      show ({ U with heap := s₂.heap, slotsUsed := s₂.slotsUsed } : State) = { U.setFrames U.frames with heap := s₂.heap, slotsUsed := s₂.slotsUsed }
      rw [State.setFrames_self ht]
    subst hg
    refine Or.inr ⟨q, ⟨(({ U with heap := s₂.heap, slotsUsed := s₂.slotsUsed } : State).setVm s₂.vm), Ls ++ L, c0 + mc, s0 + ms⟩,
      ⟨X.admits, X.cas, X.clock, X.frames, X.room, X.hears, X.method, X.code, (X.here.setHeapUsed s₂.heap s₂.slotsUsed).setVm hW'.alike, X.tail, State.WarmedH.trans X.warmed hW', X.limits, X.bytes, X.same.trans (hsame.setVm s.vm)⟩,
      ⟨g, mk, s₂, L, E, ce, rfl, rfl, hx, hce, hcv, hcl, rfl, hL, rfl, rfl⟩, ?_⟩
    show Steps p.tables e below _ (((({ U with heap := s₂.heap, slotsUsed := s₂.slotsUsed } : State).setVm s₂.vm).setTop g).pushFrame (.throwing q))
    rw [← hs₂]
    exact hsteps
end
variable {p : Program} {l : Launch} {e : Env} {R : Room} {s : State} {m : MethodId} {args : Array Value} {below : List Frame} {meth : Method} {c : Code} {T : State} {H : Heap} {locs : List Loc} {cells slots : Nat}
theorem vx_callVX (X : Stand p l e R s m args below meth c T locs cells slots) (hexec : p.tables.exec = Jvm.exec) {own C : String} {index : Nat} {y : MethodName} {bytes : ByteArray} {maxL : Nat} {ret : Option FieldType} {hh : List (Nat × Nat × Nat × Nat)}
    (hown : s.vm.findClass own = some m.cls) (hlink : (Cond.methodLink own index y).before args s = true) (hinst : (Cond.instanceMethod y).before args s = true) (hsel : (Cond.selects C y y).before args s = true)
    (hcode : (Cond.codeWith y bytes maxL ret hh).before args s = true) (hy : y.cls ≠ "java/lang/invoke/MethodHandle" ∧ y.cls ≠ "java/lang/invoke/VarHandle")
    {W9 : Nat} {Pre : Pt → Array Value → Prop} {Post : Pt → Array Value → Option Value → Pt → Prop} {PostX : Pt → Array Value → Addr → Pt → Prop} (hK : vx_Back l R p e below s args y 3 W9 Pre Post PostX)
    {b : Addr} {cellB : Cell} (hcell : T.heap[b]? = some cellB) (hobj : cellB.vm.isStatics = false) (hcls : s.vm.findClass C = some cellB.cls)
    {g : JFrame} (hg : g.method = m) (hsize : g.locals.size = c.maxLocals) {argsL rest : List Value} (hlen : ∀ sig, parseMethodDescriptor y.desc = some sig → argsL.length = sig.parameters.length)
    (hstack : g.stack = argsL.reverse ++ .ref b :: rest) (hW : 2 * g.monitorRoom + (rest.map fun v => v.category).sum ≤ W9) (hdg : decode c.code g.pc = .ok (.invokevirtual index, 3))
    (hpre : ∀ vm₁, s.WarmedH vm₁ → Pre ⟨T.setVm vm₁, locs, cells, slots⟩ (Value.ref b :: argsL).toArray) :
    (∃ (v : Option Value) (vm₁ : Vm) (B : Pt), s.WarmedH vm₁ ∧ Stand p l e R s m args below meth c B.U B.locs B.cells B.slots ∧ Post ⟨T.setVm vm₁, locs, cells, slots⟩ (Value.ref b :: argsL).toArray v B ∧
      ∀ target, Steps p.tables e below (B.U.setTop { g with pc := g.pc + 3, stack := v.toList ++ rest }) target → Steps p.tables e below (T.setTop g) target) ∨
    (∃ (q : Addr) (vm₁ : Vm) (B : Pt), s.WarmedH vm₁ ∧ Stand p l e R s m args below meth c B.U B.locs B.cells B.slots ∧ PostX ⟨T.setVm vm₁, locs, cells, slots⟩ (Value.ref b :: argsL).toArray q B ∧
      Steps p.tables e below (T.setTop g) ((B.U.setTop { g with stack := rest }).pushFrame (.throwing q))) := by
  obtain ⟨mk, methM, hnamed, hmethM, hstM, habM⟩ := Cond.instanceMethod_spec hinst
  obtain ⟨m8, methM', cM, hn8, hmethM', -, -, -, -, -, -, hsigM⟩ := Cond.codeWith_spec hcode
  cases Option.some.inj (hn8.symm.trans hnamed)
  cases hmethM.symm.trans hmethM'
  obtain ⟨c2, r2, m2, q1, q2, q3, q4, kP, hkP, hkPi⟩ := Cond.selects_spec hsel
  cases hcls.symm.trans q1
  cases (State.methodFound?_of_named hnamed hy).symm.trans q2
  cases hnamed.symm.trans q3
  have hselP : selectMethod e.platform s.vm cellB.cls mk = .method mk := by rw [Launch.admits_selectMethod X.admits]; exact q4
  obtain ⟨vm₁, X₁, hstep₁⟩ := X.invokevirtual hexec hown hlink hnamed hmethM hstM hkP hkPi hy (a := b) (cell := cellB) hcell
    (fun z h => by rw [h] at hobj; cases hobj) hselP hmethM habM hkP hkPi (g := g) hg (argsL := argsL) (rest := rest) (hlen _ hsigM) hstack hdg
  rcases hK m meth c ⟨T.setVm vm₁, locs, cells, slots⟩ { g with stack := rest } (.invokevirtual index) mk (Value.ref b :: argsL).toArray X₁ hg hsize hdg hW (X₁.named hnamed) (hpre vm₁ X₁.warmed) with ⟨v, B, X', hpost, hsteps⟩ | ⟨q, B, X', hpost, hsteps⟩
  · exact Or.inl ⟨v, vm₁, B, X₁.warmed, X', hpost, fun target h => hstep₁ _ fun acts => by rw [doInvoke_state]; exact hsteps.trans h⟩
  · exact Or.inr ⟨q, vm₁, B, X₁.warmed, X', hpost, hstep₁ _ fun acts => by rw [doInvoke_state]; exact hsteps⟩
theorem vx_callSX (X : Stand p l e R s m args below meth c T locs cells slots) (hexec : p.tables.exec = Jvm.exec) {own : String} {index : Nat} {y : MethodName} {bytes : ByteArray} {maxL : Nat} {ret : Option FieldType} {hh : List (Nat × Nat × Nat × Nat)}
    (hown : s.vm.findClass own = some m.cls) (hlink : (Cond.methodLink own index y).before args s = true) (hstat : (Cond.static y).before args s = true) (hinit : (Cond.initialized y.cls).before args s = true)
    (hcode : (Cond.codeWith y bytes maxL ret hh).before args s = true) (hy : y.cls ≠ "java/lang/invoke/MethodHandle" ∧ y.cls ≠ "java/lang/invoke/VarHandle")
    {W9 : Nat} {Pre : Pt → Array Value → Prop} {Post : Pt → Array Value → Option Value → Pt → Prop} {PostX : Pt → Array Value → Addr → Pt → Prop} (hK : vx_Back l R p e below s args y 3 W9 Pre Post PostX)
    {g : JFrame} (hg : g.method = m) (hsize : g.locals.size = c.maxLocals) {argsL rest : List Value} (hlen : ∀ sig, parseMethodDescriptor y.desc = some sig → argsL.length = sig.parameters.length)
    (hstack : g.stack = argsL.reverse ++ rest) (hW : 2 * g.monitorRoom + (rest.map fun v => v.category).sum ≤ W9) (hdg : decode c.code g.pc = .ok (.invokestatic index, 3))
    (hpre : ∀ vm₁, s.WarmedH vm₁ → Pre ⟨T.setVm vm₁, locs, cells, slots⟩ argsL.toArray) :
    (∃ (v : Option Value) (vm₁ : Vm) (B : Pt), s.WarmedH vm₁ ∧ Stand p l e R s m args below meth c B.U B.locs B.cells B.slots ∧ Post ⟨T.setVm vm₁, locs, cells, slots⟩ argsL.toArray v B ∧
      ∀ target, Steps p.tables e below (B.U.setTop { g with pc := g.pc + 3, stack := v.toList ++ rest }) target → Steps p.tables e below (T.setTop g) target) ∨
    (∃ (q : Addr) (vm₁ : Vm) (B : Pt), s.WarmedH vm₁ ∧ Stand p l e R s m args below meth c B.U B.locs B.cells B.slots ∧ PostX ⟨T.setVm vm₁, locs, cells, slots⟩ argsL.toArray q B ∧
      Steps p.tables e below (T.setTop g) ((B.U.setTop { g with stack := rest }).pushFrame (.throwing q))) := by
  obtain ⟨mk, methM, cM, hnamed, hmethM, -, -, -, -, -, -, hsigM⟩ := Cond.codeWith_spec hcode
  have hstatic : methM.isStatic = true := Cond.static_spec hnamed hmethM hstat
  obtain ⟨kP, hkP, -⟩ := className_of_methodNamed hnamed
  have hinitP : kP.init = .initialized := Cond.initialized_spec (findClass_of_methodNamed hnamed) hkP hinit
  obtain ⟨vm₁, X₁, hstep₁⟩ := X.invokestatic hexec hown hlink hnamed hmethM hstatic hkP hinitP hy (g := g) hg (argsL := argsL) (rest := rest) (hlen _ hsigM) hstack hdg
  rcases hK m meth c ⟨T.setVm vm₁, locs, cells, slots⟩ { g with stack := rest } (.invokestatic index) mk argsL.toArray X₁ hg hsize hdg hW (X₁.named hnamed) (hpre vm₁ X₁.warmed) with ⟨v, B, X', hpost, hsteps⟩ | ⟨q, B, X', hpost, hsteps⟩
  · exact Or.inl ⟨v, vm₁, B, X₁.warmed, X', hpost, fun target h => hstep₁ _ fun acts => by rw [doInvoke_state]; exact hsteps.trans h⟩
  · exact Or.inr ⟨q, vm₁, B, X₁.warmed, X', hpost, hstep₁ _ fun acts => by rw [doInvoke_state]; exact hsteps⟩
theorem vx_callVW (X : Stand p l e R s m args below meth c T locs cells slots) (hexec : p.tables.exec = Jvm.exec) {own C : String} {index : Nat} {y : MethodName} {bytes : ByteArray} {maxL : Nat} {ret : Option FieldType} {hh : List (Nat × Nat × Nat × Nat)}
    (hown : s.vm.findClass own = some m.cls) (hlink : (Cond.methodLink own index y).before args s = true) (hinst : (Cond.instanceMethod y).before args s = true) (hsel : (Cond.selects C y y).before args s = true)
    (hcode : (Cond.codeWith y bytes maxL ret hh).before args s = true) (hy : y.cls ≠ "java/lang/invoke/MethodHandle" ∧ y.cls ≠ "java/lang/invoke/VarHandle")
    {W9 : Nat} {Pre : Pt → Array Value → Prop} {Post : Pt → Array Value → Option Value → Pt → Prop} (hK : Back l R p e below s args y 3 W9 Pre Post)
    {b : Addr} {cellB : Cell} (hcell : T.heap[b]? = some cellB) (hobj : cellB.vm.isStatics = false) (hcls : s.vm.findClass C = some cellB.cls)
    {g : JFrame} (hg : g.method = m) (hsize : g.locals.size = c.maxLocals) {argsL rest : List Value} (hlen : ∀ sig, parseMethodDescriptor y.desc = some sig → argsL.length = sig.parameters.length)
    (hstack : g.stack = argsL.reverse ++ .ref b :: rest) (hW : 2 * g.monitorRoom + (rest.map fun v => v.category).sum ≤ W9) (hdg : decode c.code g.pc = .ok (.invokevirtual index, 3))
    (hpre : ∀ vm₁, s.WarmedH vm₁ → Pre ⟨T.setVm vm₁, locs, cells, slots⟩ (Value.ref b :: argsL).toArray) :
    ∃ (v : Option Value) (vm₁ : Vm) (B : Pt), s.WarmedH vm₁ ∧ Stand p l e R s m args below meth c B.U B.locs B.cells B.slots ∧ Post ⟨T.setVm vm₁, locs, cells, slots⟩ (Value.ref b :: argsL).toArray v B ∧
      ∀ target, Steps p.tables e below (B.U.setTop { g with pc := g.pc + 3, stack := v.toList ++ rest }) target → Steps p.tables e below (T.setTop g) target := by
  obtain ⟨mk, methM, hnamed, hmethM, hstM, habM⟩ := Cond.instanceMethod_spec hinst
  obtain ⟨m8, methM', cM, hn8, hmethM', -, -, -, -, -, -, hsigM⟩ := Cond.codeWith_spec hcode
  cases Option.some.inj (hn8.symm.trans hnamed)
  cases hmethM.symm.trans hmethM'
  obtain ⟨c2, r2, m2, q1, q2, q3, q4, kP, hkP, hkPi⟩ := Cond.selects_spec hsel
  cases hcls.symm.trans q1
  cases (State.methodFound?_of_named hnamed hy).symm.trans q2
  cases hnamed.symm.trans q3
  have hselP : selectMethod e.platform s.vm cellB.cls mk = .method mk := by rw [Launch.admits_selectMethod X.admits]; exact q4
  obtain ⟨vm₁, X₁, hstep₁⟩ := X.invokevirtual hexec hown hlink hnamed hmethM hstM hkP hkPi hy (a := b) (cell := cellB) hcell
    (fun z h => by rw [h] at hobj; cases hobj) hselP hmethM habM hkP hkPi (g := g) hg (argsL := argsL) (rest := rest) (hlen _ hsigM) hstack hdg
  obtain ⟨v, B, X', hpost, hsteps⟩ := hK m meth c ⟨T.setVm vm₁, locs, cells, slots⟩ { g with stack := rest } (.invokevirtual index) mk (Value.ref b :: argsL).toArray X₁ hg hsize hdg hW (X₁.named hnamed) (hpre vm₁ X₁.warmed)
  exact ⟨v, vm₁, B, X₁.warmed, X', hpost, fun target h => hstep₁ _ fun acts => by rw [doInvoke_state]; exact hsteps.trans h⟩
abbrev vx_CVW (R : Room) (s : State) (args : Array Value) (own C : String) (index : Nat) (y : MethodName) (bytes : ByteArray) (maxL : Nat) (ret : Option FieldType) (hh : List (Nat × Nat × Nat × Nat)) (ws : List Cond) (rm : Room) (mc ms n : Nat) : Prop :=
  (rm.cells = mc ∧ rm.slots = ms ∧ rm.frames + 1 ≤ R.frames ∧ 8 + (maxL + 11) + rm.locals ≤ R.locals ∧ (∀ w ∈ ws, ∀ (a' : Array Value) (U : State), s.WarmedH U.vm → w.before a' U = true) ∧ Cond.codeWith y bytes maxL ret hh ∈ ws) ∧
  (Cond.codeWith y bytes maxL ret hh).before args s = true ∧ (Cond.initialized y.cls).before args s = true ∧ (y.cls ≠ "java/lang/invoke/MethodHandle" ∧ y.cls ≠ "java/lang/invoke/VarHandle") ∧
  (∀ sig, parseMethodDescriptor y.desc = some sig → n = sig.parameters.length) ∧ (Cond.methodLink own index y).before args s = true ∧ (Cond.instanceMethod y).before args s = true ∧ (Cond.selects C y y).before args s = true
theorem vx_cwVW {own C : String} {index maxL mc ms : Nat} {y : MethodName} {bytes : ByteArray} {ret : Option FieldType} {hh : List (Nat × Nat × Nat × Nat)} {Ts ws ws' : List Cond} {rm : Room} (n : Nat) (ht : ∀ w ∈ Ts, w.before args s = true) (hT : GoodIn Ts (wsV own index C y ws)) (hw : ws = Cond.codeWith y bytes maxL ret hh :: ws') (hrc : rm.cells = mc) (hrs : rm.slots = ms)
    (hd : y.cls = C ∧ y.cls ≠ "java/lang/invoke/MethodHandle" ∧ y.cls ≠ "java/lang/invoke/VarHandle" ∧ (parseMethodDescriptor y.desc).map (fun d => d.parameters.length) = some n) (hR : rm.frames + 1 ≤ R.frames ∧ 8 + (maxL + 11) + rm.locals ≤ R.locals) :
    vx_CVW R s args own C index y bytes maxL ret hh ws rm mc ms n := by
  obtain ⟨hC, hd⟩ := hd
  subst hC
  have ok : ∀ w ∈ wsV own index y.cls y ws, w.before args s = true := fun w h => ht w (hT w h).1
  have hG : GoodIn Ts ws := fun w h => hT w (by unfold wsV; exact List.mem_append_right _ h)
  have hc : Cond.codeWith y bytes maxL ret hh ∈ ws := by rw [hw]; exact List.mem_cons_self
  refine ⟨⟨hrc, hrs, hR.1, hR.2, pay_in ht hG, hc⟩, ht _ (hG _ hc).1, ok _ (by simp [wsV]), ⟨hd.1, hd.2.1⟩, fun sig h => ?_, ok _ (by simp [wsV]), ok _ (by simp [wsV]), ok _ (by simp [wsV])⟩
  have h2 := hd.2.2
  rw [h] at h2
  exact (Option.some.inj h2).symm
theorem vx_runVW {y : MethodName} {bytes cc : ByteArray} {maxL nL mc ms n index : Nat} {ret : Option FieldType} {hh : List (Nat × Nat × Nat × Nat)} {ws : List Cond} {rm : Room} {Pc : Array Value → State → Prop} {Qc : Array Value → State → Outcome → State → Prop} {free : Addr → Prop} {Ts : List Cond} {own C : String} {b : Addr} {As rest : List Value} {g : JFrame}
    (S : CallFix p m c cc nL s args Ts own) (hM : Met l y ws rm Pc Qc mc ms free) (cw : vx_CVW R s args own C index y bytes maxL ret hh ws rm mc ms n) (hp : PreV s H C b Pc As)
    (hg : g.method = m) (hn : As.length = n) (hsize : g.locals.size = nL) (hstack : g.stack = As.reverse ++ .ref b :: rest) (hW : 2 * g.monitorRoom + (rest.map fun v => v.category).sum ≤ 8) (hdg : decode cc g.pc = .ok (.invokevirtual index, 3)) (hf : cells + mc ≤ R.cells ∧ slots + ms ≤ R.slots) :
    va_Run p l e R s m args below meth c H locs cells slots mc ms g rest (Qc (Value.ref b :: As).toArray) free := by
  obtain ⟨⟨hrc, hrs, hfr, hlo, hws, hcw⟩, hcode, hini, hy, hlen, hl, hin, hse⟩ := cw
  have hK : Back l R p e below s args y 3 8 (PreOf R mc ms Pc) (PostOf Qc mc ms free) := va_backW (hh := hh) (bytes := bytes) (maxL := maxL) (ret := ret) hM hp.1 hrc hrs hfr hlo hws hcw (fun a' U hW => word_at hW (Or.inl (by first | rfl | simp [Cond.onTables, Cond.keeps, Cond.steady])) hini)
  obtain ⟨hx, hb, hml, ho, -⟩ := S
  obtain ⟨-, ⟨cellB, hcB, hoB, hclB⟩, hPc⟩ := hp
  intro T hT X
  obtain ⟨v, vm₁, ⟨U', l2, c2, s2⟩, hW₁, X', ⟨g', mk, t, L, e1, e2, hq, h1, hL, h2, h3⟩, st⟩ := vx_callVW X hx (C := C) (hh := hh) (bytes := bytes) (maxL := maxL) (ret := ret) ho hl hin hse hcode hy hK (by rw [hT]; exact hcB) hoB hclB hg (hsize.trans hml.symm) (argsL := As) (rest := rest) (fun sig h => hn.trans (hlen sig h)) hstack hW (by rw [hb]; exact hdg)
    (fun vm₁ hW₁ => ⟨hf.1, hf.2, hPc (T.setVm vm₁) hT hW₁⟩)
  dsimp only [Pt.U, Pt.locs, Pt.cells, Pt.slots] at X' e1 e2 h1 h2 h3 st
  subst h1; subst h2; subst h3
  exact ⟨v, (T.setVm vm₁).calling g' mk (Value.ref b :: As).toArray, t, U', L, hT, X', hL, e1, e2, hq, st⟩
section
variable {y : MethodName} {bytes cc : ByteArray} {maxL nL mc ms n index : Nat} {ret : Option FieldType} {ws : List Cond} {rm : Room} {Pc : Array Value → State → Prop} {Qc : Array Value → State → Outcome → State → Prop} {XC : String → State → State → Prop} {free : Addr → Prop} {Ts : List Cond} {own C : String} {b : Addr} {As rest : List Value} {g : JFrame}
theorem vx_runVX {hh : List (Nat × Nat × Nat × Nat)} (S : CallFix p m c cc nL s args Ts own) (hM : vx_Met l y ws rm Pc Qc XC mc ms free) (cw : vx_CVW R s args own C index y bytes maxL ret hh ws rm mc ms n) (hp : PreV s H C b Pc As)
    (hg : g.method = m) (hn : As.length = n) (hsize : g.locals.size = nL) (hstack : g.stack = As.reverse ++ .ref b :: rest) (hW : 2 * g.monitorRoom + (rest.map fun v => v.category).sum ≤ 8) (hdg : decode cc g.pc = .ok (.invokevirtual index, 3)) (hf : cells + mc ≤ R.cells ∧ slots + ms ≤ R.slots) :
    vx_Run p l e R s m args below meth c H locs cells slots mc ms g rest (Qc (Value.ref b :: As).toArray) XC free := by
  obtain ⟨⟨hrc, hrs, hfr, hlo, hws, hcw⟩, hcode, hini, hy, hlen, hl, hin, hse⟩ := cw
  have hK : vx_Back l R p e below s args y 3 8 (PreOf R mc ms Pc) (PostOf Qc mc ms free) (vx_Post XC mc ms free) := vx_backW (hh := hh) (bytes := bytes) (maxL := maxL) (ret := ret) hM hp.1 hrc hrs hfr hlo hws hcw (fun a' U hW => word_at hW (Or.inl (by first | rfl | simp [Cond.onTables, Cond.keeps, Cond.steady])) hini)
  obtain ⟨hx, hb, hml, ho, -⟩ := S
  obtain ⟨-, ⟨cellB, hcB, hoB, hclB⟩, hPc⟩ := hp
  intro T hT X
  rcases vx_callVX X hx (C := C) (hh := hh) (bytes := bytes) (maxL := maxL) (ret := ret) ho hl hin hse hcode hy hK (by rw [hT]; exact hcB) hoB hclB hg (hsize.trans hml.symm) (argsL := As) (rest := rest) (fun sig h => hn.trans (hlen sig h)) hstack hW (by rw [hb]; exact hdg)
    (fun vm₁ hW₁ => ⟨hf.1, hf.2, hPc (T.setVm vm₁) hT hW₁⟩) with ⟨v, vm₁, ⟨U', l2, c2, s2⟩, hW₁, X', ⟨g', mk, t, L, e1, e2, hq, h1, hL, h2, h3⟩, st⟩ | ⟨q, vm₁, ⟨U', l2, c2, s2⟩, hW₁, X', ⟨g', mk, t, L, E, ce, e1, e2, hq, hce, hcv, hcl, h1, hL, h2, h3⟩, st⟩
  · dsimp only [Pt.U, Pt.locs, Pt.cells, Pt.slots] at X' e1 e2 h1 h2 h3 st
    subst h1; subst h2; subst h3
    exact Or.inl ⟨v, (T.setVm vm₁).calling g' mk (Value.ref b :: As).toArray, t, U', L, hT, X', hL, e1, e2, hq, st⟩
  · dsimp only [Pt.U, Pt.locs, Pt.cells, Pt.slots] at X' e1 e2 h1 h2 h3 st hcl
    subst h1; subst h2; subst h3
    exact Or.inr ⟨q, (T.setVm vm₁).calling g' mk (Value.ref b :: As).toArray, t, U', L, E, ce, hT, X', hL, e1, e2, hq, hce, hcv, vx_cls hW₁ hcl, st⟩
theorem vx_runSX {hh : List (Nat × Nat × Nat × Nat)} (S : CallFix p m c cc nL s args Ts own) (hM : vx_Met l y ws rm Pc Qc XC mc ms free) (cw : vx_CSW R s args own index y bytes maxL ret hh ws rm mc ms n) (hp : PreS s H Pc As)
    (hg : g.method = m) (hn : As.length = n) (hsize : g.locals.size = nL) (hstack : g.stack = As.reverse ++ rest) (hW : 2 * g.monitorRoom + (rest.map fun v => v.category).sum ≤ 8) (hdg : decode cc g.pc = .ok (.invokestatic index, 3)) (hf : cells + mc ≤ R.cells ∧ slots + ms ≤ R.slots) :
    vx_Run p l e R s m args below meth c H locs cells slots mc ms g rest (Qc As.toArray) XC free := by
  obtain ⟨⟨hrc, hrs, hfr, hlo, hws, hcw⟩, hcode, hini, hy, hlen, hl, hstt⟩ := cw
  have hK : vx_Back l R p e below s args y 3 8 (PreOf R mc ms Pc) (PostOf Qc mc ms free) (vx_Post XC mc ms free) := vx_backW (hh := hh) (bytes := bytes) (maxL := maxL) (ret := ret) hM hp.1 hrc hrs hfr hlo hws hcw (fun a' U hW => word_at hW (Or.inl (by first | rfl | simp [Cond.onTables, Cond.keeps, Cond.steady])) hini)
  obtain ⟨hx, hb, hml, ho, -⟩ := S
  intro T hT X
  rcases vx_callSX X hx (hh := hh) (bytes := bytes) (maxL := maxL) (ret := ret) ho hl hstt hini hcode hy hK hg (hsize.trans hml.symm) (argsL := As) (rest := rest) (fun sig h => hn.trans (hlen sig h)) hstack hW (by rw [hb]; exact hdg)
    (fun vm₁ hW₁ => ⟨hf.1, hf.2, hp.2 (T.setVm vm₁) hT hW₁⟩) with ⟨v, vm₁, ⟨U', l2, c2, s2⟩, hW₁, X', ⟨g', mk, t, L, e1, e2, hq, h1, hL, h2, h3⟩, st⟩ | ⟨q, vm₁, ⟨U', l2, c2, s2⟩, hW₁, X', ⟨g', mk, t, L, E, ce, e1, e2, hq, hce, hcv, hcl, h1, hL, h2, h3⟩, st⟩
  · dsimp only [Pt.U, Pt.locs, Pt.cells, Pt.slots] at X' e1 e2 h1 h2 h3 st
    subst h1; subst h2; subst h3
    exact Or.inl ⟨v, (T.setVm vm₁).calling g' mk As.toArray, t, U', L, hT, X', hL, e1, e2, hq, st⟩
  · dsimp only [Pt.U, Pt.locs, Pt.cells, Pt.slots] at X' e1 e2 h1 h2 h3 st hcl
    subst h1; subst h2; subst h3
    exact Or.inr ⟨q, (T.setVm vm₁).calling g' mk As.toArray, t, U', L, E, ce, hT, X', hL, e1, e2, hq, hce, hcv, vx_cls hW₁ hcl, st⟩
end
end VXH
theorem vx_ofWH {l : Launch} {y : MethodName} {ws ws' : List Cond} {rm : Room} {Pc : Array Value → State → Prop} {Qc : Array Value → State → Outcome → State → Prop} {XC : String → State → State → Prop} {mc ms : Nat} {free : Addr → Prop} {cc : ByteArray} {maxL : Nat} {ret : Option FieldType} {hh : List (Nat × Nat × Nat × Nat)}
    (hy : plainName y.cls = true) (hw : ws = Cond.codeWith y cc maxL ret hh :: ws')
    (body : ∀ p e s m args below meth c s₁, BodyLoose p l y (headSpec ws rm) cc maxL ret e s m args below meth c s₁ → c.maxLocals = maxL → Pc args s →
      W p l e (headSpec ws rm).room s m args below meth c s.heap [] 0 0 (vx_MQ below Qc XC args s mc ms free) (entryFrame m args maxL)) : vx_Met l y ws rm Pc Qc XC mc ms free := by
  refine MetFree.of_bodyS (code := cc) (maxLocals := maxL) (ret := ret) hy ?_ ?_
  · intro args s m h hn
    obtain ⟨m9, meth, c, hn9, h1, h2, h3, h4, -, h5, h6, -⟩ := Cond.codeWith_spec (atoms_spec (ws := ws) h _ (by rw [hw]; exact List.mem_cons_self))
    cases hn.symm.trans hn9
    exact ⟨meth, c, h1, h2, h3, h4, h5, h6⟩
  · intro p e s m args below meth c s₁ B hml hP _
    have hh0 : s₁.heap = s.heap := by rw [B.state]; rfl
    obtain ⟨t, a1, o, b1, b2, b3⟩ := body p e s m args below meth c s₁ B hml hP s₁ hh0 (Stand.of_body B)
    exact ⟨t, o, a1, b1, b2, b3⟩
/-! ===== END ===== -/
end
section
/-! names, fields (by the kit's printed list), words of the tables by their places -/
def RX0 : String := "SkyloadBureau$Dealing"
def TX0 : u_T := fun k => match k with
  | 0 => ("SkyloadBureau$Dealing", "fixed", "LSkyloadBureau$Line;", true)
  | 1 => ("SkyloadBureau$Dealing", "listed", "LSkyloadBureau$Line;", true)
  | 2 => ("SkyloadBureau$Dealing", "slotCount", "I", false)
  | 3 => ("SkyloadBureau$Dealing", "freeCount", "I", false)
  | _ => ("SkyloadBureau$Dealing", "listedWithout", "I", false)
def tyX0 : Nat → FieldType := fun k => match k with
  | 0 => .object "SkyloadBureau$Line"
  | 1 => .object "SkyloadBureau$Line"
  | 2 => .int
  | 3 => .int
  | _ => .int
abbrev wsX00 : List Cond := u_ws RX0 TX0 5
theorem nmX0 : ∀ a, a < 5 → ∀ b, b < 5 → a ≠ b → (TX0 a).2.1 ≠ (TX0 b).2.1 := by decide +kernel
theorem tyX0_ok : ∀ k, k < 5 → parseFieldDescriptor (TX0 k).2.2.1 = some (tyX0 k) := by decide +kernel
abbrev cX0_init : ByteArray := prog_2_method_1_code
def yX0_init : MethodName := ⟨RX0, "<init>", "()V"⟩
abbrev cX0_dealOut : ByteArray := prog_2_method_2_code
def yX0_dealOut : MethodName := ⟨RX0, "dealOut", "(LSkyloadBureau$Regulation;Ljava/util/ArrayList;)V"⟩
abbrev cX0_lineUp : ByteArray := prog_2_method_3_code
def yX0_lineUp : MethodName := ⟨RX0, "lineUp", "(LSkyloadBureau$Regulation;Ljava/util/ArrayList;)V"⟩
abbrev cX0_serve : ByteArray := prog_2_method_4_code
def yX0_serve : MethodName := ⟨RX0, "serve", "(LSkyloadBureau$Line;LSkyloadBureau$Regulation;)I"⟩
abbrev cX0_penaltyBySlots : ByteArray := prog_2_method_5_code
def yX0_penaltyBySlots : MethodName := ⟨RX0, "penaltyBySlots", "(LSkyloadBureau$Regulation;Ljava/util/ArrayList;I)I"⟩
def RX1 : String := "SkyloadBureau$Flight"
def TX1 : u_T := fun k => match k with
  | 0 => ("SkyloadBureau$Flight", "company", "I", true)
  | 1 => ("SkyloadBureau$Flight", "planned", "I", false)
  | 2 => ("SkyloadBureau$Flight", "state", "I", false)
  | 3 => ("SkyloadBureau$Flight", "isExempt", "Z", false)
  | 4 => ("SkyloadBureau$Flight", "slotTime", "I", false)
  | 5 => ("SkyloadBureau$Flight", "ruling", "I", false)
  | 6 => ("SkyloadBureau$Flight", "wentAt", "I", false)
  | 7 => ("SkyloadBureau$Flight", "latestMessage", "I", false)
  | 8 => ("SkyloadBureau$Flight", "entryCount", "I", false)
  | 9 => ("SkyloadBureau$Flight", "latestBehind", "I", false)
  | 10 => ("SkyloadBureau$Flight", "behinds", "[I", true)
  | 11 => ("SkyloadBureau$Flight", "stays", "[I", true)
  | 12 => ("SkyloadBureau$Flight", "reckonedDue", "I", false)
  | _ => ("SkyloadBureau$Flight", "reckonedRuling", "I", false)
def tyX1 : Nat → FieldType := fun k => match k with
  | 0 => .int
  | 1 => .int
  | 2 => .int
  | 3 => .boolean
  | 4 => .int
  | 5 => .int
  | 6 => .int
  | 7 => .int
  | 8 => .int
  | 9 => .int
  | 10 => .array .int
  | 11 => .array .int
  | 12 => .int
  | _ => .int
abbrev wsX10 : List Cond := u_ws RX1 TX1 14
theorem nmX1 : ∀ a, a < 14 → ∀ b, b < 14 → a ≠ b → (TX1 a).2.1 ≠ (TX1 b).2.1 := by decide +kernel
theorem tyX1_ok : ∀ k, k < 14 → parseFieldDescriptor (TX1 k).2.2.1 = some (tyX1 k) := by decide +kernel
abbrev cX1_init : ByteArray := prog_3_method_1_code
def yX1_init : MethodName := ⟨RX1, "<init>", "(II)V"⟩
abbrev cX1_canEnterNext : ByteArray := prog_3_method_2_code
def yX1_canEnterNext : MethodName := ⟨RX1, "canEnterNext", "(II)Z"⟩
abbrev cX1_addEntry : ByteArray := prog_3_method_3_code
def yX1_addEntry : MethodName := ⟨RX1, "addEntry", "(III)V"⟩
abbrev cX1_behindAt : ByteArray := prog_3_method_4_code
def yX1_behindAt : MethodName := ⟨RX1, "behindAt", "(I)I"⟩
abbrev cX1_stayAt : ByteArray := prog_3_method_5_code
def yX1_stayAt : MethodName := ⟨RX1, "stayAt", "(I)I"⟩
abbrev cX1_enters : ByteArray := prog_3_method_6_code
def yX1_enters : MethodName := ⟨RX1, "enters", "(I)Z"⟩
abbrev cX1_departure : ByteArray := prog_3_method_7_code
def yX1_departure : MethodName := ⟨RX1, "departure", "()I"⟩
abbrev cX1_timeOver : ByteArray := prog_3_method_8_code
def yX1_timeOver : MethodName := ⟨RX1, "timeOver", "(I)I"⟩
abbrev cX1_loads : ByteArray := prog_3_method_9_code
def yX1_loads : MethodName := ⟨RX1, "loads", "(I)Z"⟩
abbrev cX1_isInside : ByteArray := prog_3_method_10_code
def yX1_isInside : MethodName := ⟨RX1, "isInside", "(II)Z"⟩
abbrev cX1_isFixed : ByteArray := prog_3_method_11_code
def yX1_isFixed : MethodName := ⟨RX1, "isFixed", "()Z"⟩
abbrev cX1_isListed : ByteArray := prog_3_method_12_code
def yX1_isListed : MethodName := ⟨RX1, "isListed", "()Z"⟩
abbrev cX1_lineTime : ByteArray := prog_3_method_13_code
def yX1_lineTime : MethodName := ⟨RX1, "lineTime", "(I)I"⟩
abbrev cX1_loseSlotTime : ByteArray := prog_3_method_14_code
def yX1_loseSlotTime : MethodName := ⟨RX1, "loseSlotTime", "()V"⟩
abbrev cX1_delay : ByteArray := prog_3_method_15_code
def yX1_delay : MethodName := ⟨RX1, "delay", "()I"⟩
abbrev cX1_charge : ByteArray := prog_3_method_16_code
def yX1_charge : MethodName := ⟨RX1, "charge", "()I"⟩
abbrev cX1_wentOutOfWindow : ByteArray := prog_3_method_17_code
def yX1_wentOutOfWindow : MethodName := ⟨RX1, "wentOutOfWindow", "()Z"⟩
abbrev cX1_ledgerLine : ByteArray := prog_3_method_18_code
def yX1_ledgerLine : MethodName := ⟨RX1, "ledgerLine", "(I)I"⟩
abbrev cX1_forgetReckoned : ByteArray := prog_3_method_19_code
def yX1_forgetReckoned : MethodName := ⟨RX1, "forgetReckoned", "()V"⟩
abbrev cX1_reckon : ByteArray := prog_3_method_20_code
def yX1_reckon : MethodName := ⟨RX1, "reckon", "(II)V"⟩
abbrev cX1_takeReckoned : ByteArray := prog_3_method_21_code
def yX1_takeReckoned : MethodName := ⟨RX1, "takeReckoned", "(Z)V"⟩
abbrev cX1_sharesRuling : ByteArray := prog_3_method_22_code
def yX1_sharesRuling : MethodName := ⟨RX1, "sharesRuling", "(LSkyloadBureau$Flight;)Z"⟩
abbrev cX1_follow : ByteArray := prog_3_method_23_code
def yX1_follow : MethodName := ⟨RX1, "follow", "(II)V"⟩
def RX2 : String := "SkyloadBureau$Line"
def TX2 : u_T := fun k => match k with
  | 0 => ("SkyloadBureau$Line", "numbers", "[I", true)
  | 1 => ("SkyloadBureau$Line", "times", "[I", true)
  | 2 => ("SkyloadBureau$Line", "slots", "[I", true)
  | 3 => ("SkyloadBureau$Line", "targets", "[I", true)
  | _ => ("SkyloadBureau$Line", "count", "I", false)
def tyX2 : Nat → FieldType := fun k => match k with
  | 0 => .array .int
  | 1 => .array .int
  | 2 => .array .int
  | 3 => .array .int
  | _ => .int
abbrev wsX20 : List Cond := u_ws RX2 TX2 5
theorem nmX2 : ∀ a, a < 5 → ∀ b, b < 5 → a ≠ b → (TX2 a).2.1 ≠ (TX2 b).2.1 := by decide +kernel
theorem tyX2_ok : ∀ k, k < 5 → parseFieldDescriptor (TX2 k).2.2.1 = some (tyX2 k) := by decide +kernel
abbrev cX2_init : ByteArray := prog_4_method_1_code
def yX2_init : MethodName := ⟨RX2, "<init>", "()V"⟩
abbrev cX2_clear : ByteArray := prog_4_method_2_code
def yX2_clear : MethodName := ⟨RX2, "clear", "()V"⟩
abbrev cX2_add : ByteArray := prog_4_method_3_code
def yX2_add : MethodName := ⟨RX2, "add", "(II)V"⟩
abbrev cX2_has : ByteArray := prog_4_method_4_code
def yX2_has : MethodName := ⟨RX2, "has", "(I)Z"⟩
abbrev cX2_timeAt : ByteArray := prog_4_method_5_code
def yX2_timeAt : MethodName := ⟨RX2, "timeAt", "(I)I"⟩
abbrev cX2_give : ByteArray := prog_4_method_6_code
def yX2_give : MethodName := ⟨RX2, "give", "(III)V"⟩
abbrev cX2_hasGiven : ByteArray := prog_4_method_7_code
def yX2_hasGiven : MethodName := ⟨RX2, "hasGiven", "(I)Z"⟩
abbrev cX2_placeOf : ByteArray := prog_4_method_8_code
def yX2_placeOf : MethodName := ⟨RX2, "placeOf", "(I)I"⟩
abbrev cX2_penaltyOf : ByteArray := prog_4_method_9_code
def yX2_penaltyOf : MethodName := ⟨RX2, "penaltyOf", "(I)I"⟩
abbrev cX2_countAheadOf : ByteArray := prog_4_method_10_code
def yX2_countAheadOf : MethodName := ⟨RX2, "countAheadOf", "(II)I"⟩
abbrev cX2_canTake : ByteArray := prog_4_method_11_code
def yX2_canTake : MethodName := ⟨RX2, "canTake", "(II)Z"⟩
def RX3 : String := "SkyloadBureau$Regulation"
def TX3 : u_T := fun k => match k with
  | 0 => ("SkyloadBureau$Regulation", "sector", "I", true)
  | 1 => ("SkyloadBureau$Regulation", "from", "I", true)
  | 2 => ("SkyloadBureau$Regulation", "to", "I", true)
  | 3 => ("SkyloadBureau$Regulation", "rate", "I", false)
  | _ => ("SkyloadBureau$Regulation", "isEnded", "Z", false)
def tyX3 : Nat → FieldType := fun k => match k with
  | 0 => .int
  | 1 => .int
  | 2 => .int
  | 3 => .int
  | _ => .boolean
abbrev wsX30 : List Cond := u_ws RX3 TX3 5
theorem nmX3 : ∀ a, a < 5 → ∀ b, b < 5 → a ≠ b → (TX3 a).2.1 ≠ (TX3 b).2.1 := by decide +kernel
theorem tyX3_ok : ∀ k, k < 5 → parseFieldDescriptor (TX3 k).2.2.1 = some (tyX3 k) := by decide +kernel
abbrev cX3_init : ByteArray := prog_5_method_1_code
def yX3_init : MethodName := ⟨RX3, "<init>", "(IIII)V"⟩
abbrev cX3_holdsAt : ByteArray := prog_5_method_2_code
def yX3_holdsAt : MethodName := ⟨RX3, "holdsAt", "(I)Z"⟩
abbrev cX3_slotCount : ByteArray := prog_5_method_3_code
def yX3_slotCount : MethodName := ⟨RX3, "slotCount", "()I"⟩
abbrev cX3_slotBegin : ByteArray := prog_5_method_4_code
def yX3_slotBegin : MethodName := ⟨RX3, "slotBegin", "(I)I"⟩
abbrev cX3_slotEnd : ByteArray := prog_5_method_5_code
def yX3_slotEnd : MethodName := ⟨RX3, "slotEnd", "(I)I"⟩
def RX4 : String := "SkyloadBureau"
def TX4 : u_T := fun k => match k with
  | 0 => ("SkyloadBureau", "flights", "Ljava/util/ArrayList;", true)
  | 1 => ("SkyloadBureau", "regulations", "Ljava/util/ArrayList;", true)
  | 2 => ("SkyloadBureau", "dealing", "LSkyloadBureau$Dealing;", true)
  | _ => ("SkyloadBureau", "entering", "LSkyloadBureau$Line;", true)
def tyX4 : Nat → FieldType := fun k => match k with
  | 0 => .object "java/util/ArrayList"
  | 1 => .object "java/util/ArrayList"
  | 2 => .object "SkyloadBureau$Dealing"
  | _ => .object "SkyloadBureau$Line"
abbrev wsX40 : List Cond := u_ws RX4 TX4 4
theorem nmX4 : ∀ a, a < 4 → ∀ b, b < 4 → a ≠ b → (TX4 a).2.1 ≠ (TX4 b).2.1 := by decide +kernel
theorem tyX4_ok : ∀ k, k < 4 → parseFieldDescriptor (TX4 k).2.2.1 = some (tyX4 k) := by decide +kernel
abbrev cX4_init : ByteArray := prog_1_method_1_code
def yX4_init : MethodName := ⟨RX4, "<init>", "()V"⟩
abbrev cX4_flight : ByteArray := prog_1_method_2_code
def yX4_flight : MethodName := ⟨RX4, "flight", "(II)I"⟩
abbrev cX4_entry : ByteArray := prog_1_method_3_code
def yX4_entry : MethodName := ⟨RX4, "entry", "(IIII)I"⟩
abbrev cX4_exempt : ByteArray := prog_1_method_4_code
def yX4_exempt : MethodName := ⟨RX4, "exempt", "(IZ)Z"⟩
abbrev cX4_flightIs : ByteArray := prog_1_method_5_code
def yX4_flightIs : MethodName := ⟨RX4, "flightIs", "(II)I"⟩
abbrev cX4_over : ByteArray := prog_1_method_6_code
def yX4_over : MethodName := ⟨RX4, "over", "(II)I"⟩
abbrev cX4_load : ByteArray := prog_1_method_7_code
def yX4_load : MethodName := ⟨RX4, "load", "(III)I"⟩
abbrev cX4_inside : ByteArray := prog_1_method_8_code
def yX4_inside : MethodName := ⟨RX4, "inside", "(II)I"⟩
abbrev cX4_peak : ByteArray := prog_1_method_9_code
def yX4_peak : MethodName := ⟨RX4, "peak", "(II)I"⟩
abbrev cX4_peakAnew : ByteArray := prog_1_method_10_code
def yX4_peakAnew : MethodName := ⟨RX4, "peakAnew", "(II)I"⟩
abbrev cX4_regulation : ByteArray := prog_1_method_11_code
def yX4_regulation : MethodName := ⟨RX4, "regulation", "(IIII)I"⟩
abbrev cX4_rate : ByteArray := prog_1_method_12_code
def yX4_rate : MethodName := ⟨RX4, "rate", "(II)I"⟩
abbrev cX4_end : ByteArray := prog_1_method_13_code
def yX4_end : MethodName := ⟨RX4, "end", "(I)V"⟩
abbrev cX4_regulationIs : ByteArray := prog_1_method_14_code
def yX4_regulationIs : MethodName := ⟨RX4, "regulationIs", "(II)I"⟩
abbrev cX4_slot : ByteArray := prog_1_method_15_code
def yX4_slot : MethodName := ⟨RX4, "slot", "(II)I"⟩
abbrev cX4_penalty : ByteArray := prog_1_method_16_code
def yX4_penalty : MethodName := ⟨RX4, "penalty", "(II)I"⟩
abbrev cX4_due : ByteArray := prog_1_method_17_code
def yX4_due : MethodName := ⟨RX4, "due", "(I)I"⟩
abbrev cX4_dueAnew : ByteArray := prog_1_method_18_code
def yX4_dueAnew : MethodName := ⟨RX4, "dueAnew", "(I)I"⟩
abbrev cX4_allDue : ByteArray := prog_1_method_19_code
def yX4_allDue : MethodName := ⟨RX4, "allDue", "()I"⟩
abbrev cX4_would : ByteArray := prog_1_method_20_code
def yX4_would : MethodName := ⟨RX4, "would", "(IIII)I"⟩
abbrev cX4_deal : ByteArray := prog_1_method_21_code
def yX4_deal : MethodName := ⟨RX4, "deal", "(Z)I"⟩
abbrev cX4_swap : ByteArray := prog_1_method_22_code
def yX4_swap : MethodName := ⟨RX4, "swap", "(II)V"⟩
abbrev cX4_message : ByteArray := prog_1_method_23_code
def yX4_message : MethodName := ⟨RX4, "message", "(IIII)Z"⟩
abbrev cX4_companyIs : ByteArray := prog_1_method_24_code
def yX4_companyIs : MethodName := ⟨RX4, "companyIs", "(II)I"⟩
abbrev cX4_flightAt : ByteArray := prog_1_method_25_code
def yX4_flightAt : MethodName := ⟨RX4, "flightAt", "(I)LSkyloadBureau$Flight;"⟩
abbrev cX4_regulationAt : ByteArray := prog_1_method_26_code
def yX4_regulationAt : MethodName := ⟨RX4, "regulationAt", "(I)LSkyloadBureau$Regulation;"⟩
abbrev cX4_checkSector : ByteArray := prog_1_method_27_code
def yX4_checkSector : MethodName := ⟨RX4, "checkSector", "(I)V"⟩
abbrev cX4_checkCompany : ByteArray := prog_1_method_28_code
def yX4_checkCompany : MethodName := ⟨RX4, "checkCompany", "(I)V"⟩
abbrev cX4_checkRange : ByteArray := prog_1_method_29_code
def yX4_checkRange : MethodName := ⟨RX4, "checkRange", "(III)V"⟩
abbrev cX4_checkTerm : ByteArray := prog_1_method_30_code
def yX4_checkTerm : MethodName := ⟨RX4, "checkTerm", "(III)V"⟩
abbrev cX4_checkNotEnded : ByteArray := prog_1_method_31_code
def yX4_checkNotEnded : MethodName := ⟨RX4, "checkNotEnded", "(LSkyloadBureau$Regulation;)V"⟩
abbrev cX4_loadOf : ByteArray := prog_1_method_32_code
def yX4_loadOf : MethodName := ⟨RX4, "loadOf", "(III)I"⟩
abbrev cX4_lineUpEntering : ByteArray := prog_1_method_33_code
def yX4_lineUpEntering : MethodName := ⟨RX4, "lineUpEntering", "(I)V"⟩
abbrev cX4_reckonDues : ByteArray := prog_1_method_34_code
def yX4_reckonDues : MethodName := ⟨RX4, "reckonDues", "()V"⟩
abbrev cX4_reckonPenalties : ByteArray := prog_1_method_35_code
def yX4_reckonPenalties : MethodName := ⟨RX4, "reckonPenalties", "(LSkyloadBureau$Regulation;I)V"⟩
abbrev cX4_sumOfDues : ByteArray := prog_1_method_36_code
def yX4_sumOfDues : MethodName := ⟨RX4, "sumOfDues", "()I"⟩
abbrev cX4_chargedToRegulation : ByteArray := prog_1_method_37_code
def yX4_chargedToRegulation : MethodName := ⟨RX4, "chargedToRegulation", "(I)I"⟩
def RX5 : String := "SkyloadBureauModel"
def TX5 : u_T := fun k => match k with
  | 0 => ("SkyloadBureauModel", "thrown", "I", false)
  | 1 => ("SkyloadBureauModel", "flights", "I", false)
  | 2 => ("SkyloadBureauModel", "company", "[I", true)
  | 3 => ("SkyloadBureauModel", "planned", "[I", true)
  | 4 => ("SkyloadBureauModel", "how", "[I", true)
  | 5 => ("SkyloadBureauModel", "went", "[I", true)
  | 6 => ("SkyloadBureauModel", "slot", "[I", true)
  | 7 => ("SkyloadBureauModel", "ruling", "[I", true)
  | 8 => ("SkyloadBureauModel", "entries", "[I", true)
  | 9 => ("SkyloadBureauModel", "latest", "[I", true)
  | 10 => ("SkyloadBureauModel", "message", "[I", true)
  | 11 => ("SkyloadBureauModel", "isExempt", "[Z", true)
  | 12 => ("SkyloadBureauModel", "behind", "[I", true)
  | 13 => ("SkyloadBureauModel", "stays", "[I", true)
  | 14 => ("SkyloadBureauModel", "regulations", "I", false)
  | 15 => ("SkyloadBureauModel", "sector", "[I", true)
  | 16 => ("SkyloadBureauModel", "from", "[I", true)
  | 17 => ("SkyloadBureauModel", "to", "[I", true)
  | 18 => ("SkyloadBureauModel", "rate", "[I", true)
  | 19 => ("SkyloadBureauModel", "charged", "[I", true)
  | 20 => ("SkyloadBureauModel", "isEnded", "[Z", true)
  | 21 => ("SkyloadBureauModel", "bill", "[I", true)
  | 22 => ("SkyloadBureauModel", "outside", "[I", true)
  | 23 => ("SkyloadBureauModel", "isTaken", "[Z", true)
  | 24 => ("SkyloadBureauModel", "slots", "I", false)
  | 25 => ("SkyloadBureauModel", "free", "I", false)
  | 26 => ("SkyloadBureauModel", "fixed", "I", false)
  | 27 => ("SkyloadBureauModel", "listed", "I", false)
  | 28 => ("SkyloadBureauModel", "without", "I", false)
  | _ => ("SkyloadBureauModel", "penalty", "[I", true)
def tyX5 : Nat → FieldType := fun k => match k with
  | 0 => .int
  | 1 => .int
  | 2 => .array .int
  | 3 => .array .int
  | 4 => .array .int
  | 5 => .array .int
  | 6 => .array .int
  | 7 => .array .int
  | 8 => .array .int
  | 9 => .array .int
  | 10 => .array .int
  | 11 => .array .boolean
  | 12 => .array .int
  | 13 => .array .int
  | 14 => .int
  | 15 => .array .int
  | 16 => .array .int
  | 17 => .array .int
  | 18 => .array .int
  | 19 => .array .int
  | 20 => .array .boolean
  | 21 => .array .int
  | 22 => .array .int
  | 23 => .array .boolean
  | 24 => .int
  | 25 => .int
  | 26 => .int
  | 27 => .int
  | 28 => .int
  | _ => .array .int
abbrev wsX50 : List Cond := u_ws RX5 TX5 30
theorem nmX5 : ∀ a, a < 30 → ∀ b, b < 30 → a ≠ b → (TX5 a).2.1 ≠ (TX5 b).2.1 := by decide +kernel
theorem tyX5_ok : ∀ k, k < 30 → parseFieldDescriptor (TX5 k).2.2.1 = some (tyX5 k) := by decide +kernel
abbrev cX5_init : ByteArray := prog_7_method_1_code
def yX5_init : MethodName := ⟨RX5, "<init>", "()V"⟩
abbrev cX5_thrown : ByteArray := prog_7_method_2_code
def yX5_thrown : MethodName := ⟨RX5, "thrown", "()I"⟩
abbrev cX5_holds : ByteArray := prog_7_method_3_code
def yX5_holds : MethodName := ⟨RX5, "holds", "(I)Z"⟩
abbrev cX5_isIn : ByteArray := prog_7_method_4_code
def yX5_isIn : MethodName := ⟨RX5, "isIn", "(III)Z"⟩
abbrev cX5_isFlight : ByteArray := prog_7_method_5_code
def yX5_isFlight : MethodName := ⟨RX5, "isFlight", "(I)Z"⟩
abbrev cX5_isRegulation : ByteArray := prog_7_method_6_code
def yX5_isRegulation : MethodName := ⟨RX5, "isRegulation", "(I)Z"⟩
abbrev cX5_isSector : ByteArray := prog_7_method_7_code
def yX5_isSector : MethodName := ⟨RX5, "isSector", "(I)Z"⟩
abbrev cX5_flight : ByteArray := prog_7_method_8_code
def yX5_flight : MethodName := ⟨RX5, "flight", "(II)I"⟩
abbrev cX5_entry : ByteArray := prog_7_method_9_code
def yX5_entry : MethodName := ⟨RX5, "entry", "(IIII)I"⟩
abbrev cX5_exempt : ByteArray := prog_7_method_10_code
def yX5_exempt : MethodName := ⟨RX5, "exempt", "(IZ)Z"⟩
abbrev cX5_departure : ByteArray := prog_7_method_11_code
def yX5_departure : MethodName := ⟨RX5, "departure", "(I)I"⟩
abbrev cX5_flightIs : ByteArray := prog_7_method_12_code
def yX5_flightIs : MethodName := ⟨RX5, "flightIs", "(II)I"⟩
abbrev cX5_enters : ByteArray := prog_7_method_13_code
def yX5_enters : MethodName := ⟨RX5, "enters", "(II)Z"⟩
abbrev cX5_overOf : ByteArray := prog_7_method_14_code
def yX5_overOf : MethodName := ⟨RX5, "overOf", "(II)I"⟩
abbrev cX5_plannedOver : ByteArray := prog_7_method_15_code
def yX5_plannedOver : MethodName := ⟨RX5, "plannedOver", "(II)I"⟩
abbrev cX5_over : ByteArray := prog_7_method_16_code
def yX5_over : MethodName := ⟨RX5, "over", "(II)I"⟩
abbrev cX5_loadOf : ByteArray := prog_7_method_17_code
def yX5_loadOf : MethodName := ⟨RX5, "loadOf", "(III)I"⟩
abbrev cX5_load : ByteArray := prog_7_method_18_code
def yX5_load : MethodName := ⟨RX5, "load", "(III)I"⟩
abbrev cX5_inside : ByteArray := prog_7_method_19_code
def yX5_inside : MethodName := ⟨RX5, "inside", "(II)I"⟩
abbrev cX5_peak : ByteArray := prog_7_method_20_code
def yX5_peak : MethodName := ⟨RX5, "peak", "(II)I"⟩
abbrev cX5_peakAnew : ByteArray := prog_7_method_21_code
def yX5_peakAnew : MethodName := ⟨RX5, "peakAnew", "(II)I"⟩
abbrev cX5_isPart : ByteArray := prog_7_method_22_code
def yX5_isPart : MethodName := ⟨RX5, "isPart", "(III)Z"⟩
abbrev cX5_lays : ByteArray := prog_7_method_23_code
def yX5_lays : MethodName := ⟨RX5, "lays", "(IIIII)V"⟩
abbrev cX5_regulation : ByteArray := prog_7_method_24_code
def yX5_regulation : MethodName := ⟨RX5, "regulation", "(IIII)I"⟩
abbrev cX5_rate : ByteArray := prog_7_method_25_code
def yX5_rate : MethodName := ⟨RX5, "rate", "(II)I"⟩
abbrev cX5_end : ByteArray := prog_7_method_26_code
def yX5_end : MethodName := ⟨RX5, "end", "(I)V"⟩
abbrev cX5_begin : ByteArray := prog_7_method_27_code
def yX5_begin : MethodName := ⟨RX5, "begin", "(II)I"⟩
abbrev cX5_ending : ByteArray := prog_7_method_28_code
def yX5_ending : MethodName := ⟨RX5, "ending", "(II)I"⟩
abbrev cX5_timeOf : ByteArray := prog_7_method_29_code
def yX5_timeOf : MethodName := ⟨RX5, "timeOf", "(IIZ)I"⟩
abbrev cX5_nextOf : ByteArray := prog_7_method_30_code
def yX5_nextOf : MethodName := ⟨RX5, "nextOf", "(IIZ)I"⟩
abbrev cX5_takes : ByteArray := prog_7_method_31_code
def yX5_takes : MethodName := ⟨RX5, "takes", "(II)I"⟩
abbrev cX5_dealt : ByteArray := prog_7_method_32_code
def yX5_dealt : MethodName := ⟨RX5, "dealt", "(I)V"⟩
abbrev cX5_regulationIs : ByteArray := prog_7_method_33_code
def yX5_regulationIs : MethodName := ⟨RX5, "regulationIs", "(II)I"⟩
abbrev cX5_slot : ByteArray := prog_7_method_34_code
def yX5_slot : MethodName := ⟨RX5, "slot", "(II)I"⟩
abbrev cX5_penalty : ByteArray := prog_7_method_35_code
def yX5_penalty : MethodName := ⟨RX5, "penalty", "(II)I"⟩
abbrev cX5_dealAll : ByteArray := prog_7_method_36_code
def yX5_dealAll : MethodName := ⟨RX5, "dealAll", "(I)V"⟩
abbrev cX5_dueBy : ByteArray := prog_7_method_37_code
def yX5_dueBy : MethodName := ⟨RX5, "dueBy", "(II)I"⟩
abbrev cX5_dueOf : ByteArray := prog_7_method_38_code
def yX5_dueOf : MethodName := ⟨RX5, "dueOf", "(II)I"⟩
abbrev cX5_due : ByteArray := prog_7_method_39_code
def yX5_due : MethodName := ⟨RX5, "due", "(I)I"⟩
abbrev cX5_dueAnew : ByteArray := prog_7_method_40_code
def yX5_dueAnew : MethodName := ⟨RX5, "dueAnew", "(I)I"⟩
abbrev cX5_sumBy : ByteArray := prog_7_method_41_code
def yX5_sumBy : MethodName := ⟨RX5, "sumBy", "(I)I"⟩
abbrev cX5_allDue : ByteArray := prog_7_method_42_code
def yX5_allDue : MethodName := ⟨RX5, "allDue", "()I"⟩
abbrev cX5_would : ByteArray := prog_7_method_43_code
def yX5_would : MethodName := ⟨RX5, "would", "(IIII)I"⟩
abbrev cX5_deals : ByteArray := prog_7_method_44_code
def yX5_deals : MethodName := ⟨RX5, "deals", "(IZ)V"⟩
abbrev cX5_deal : ByteArray := prog_7_method_45_code
def yX5_deal : MethodName := ⟨RX5, "deal", "(Z)I"⟩
abbrev cX5_swap : ByteArray := prog_7_method_46_code
def yX5_swap : MethodName := ⟨RX5, "swap", "(II)V"⟩
abbrev cX5_goes : ByteArray := prog_7_method_47_code
def yX5_goes : MethodName := ⟨RX5, "goes", "(II)V"⟩
abbrev cX5_message : ByteArray := prog_7_method_48_code
def yX5_message : MethodName := ⟨RX5, "message", "(IIII)Z"⟩
abbrev cX5_companyIs : ByteArray := prog_7_method_49_code
def yX5_companyIs : MethodName := ⟨RX5, "companyIs", "(II)I"⟩
def RJx145de : String := "java/io/Serializable"
def TJx145de : u_T := fun k => match k with
  | _ => ("", "", "", false)
def tyJx145de : Nat → FieldType := fun k => match k with
  | _ => .int
abbrev wsJx145de0 : List Cond := u_ws RJx145de TJx145de 0
theorem nmJx145de : ∀ a, a < 0 → ∀ b, b < 0 → a ≠ b → (TJx145de a).2.1 ≠ (TJx145de b).2.1 := by decide +kernel
theorem tyJx145de_ok : ∀ k, k < 0 → parseFieldDescriptor (TJx145de k).2.2.1 = some (tyJx145de k) := by decide +kernel
def RJx8e188 : String := "java/lang/Cloneable"
def TJx8e188 : u_T := fun k => match k with
  | _ => ("", "", "", false)
def tyJx8e188 : Nat → FieldType := fun k => match k with
  | _ => .int
abbrev wsJx8e1880 : List Cond := u_ws RJx8e188 TJx8e188 0
theorem nmJx8e188 : ∀ a, a < 0 → ∀ b, b < 0 → a ≠ b → (TJx8e188 a).2.1 ≠ (TJx8e188 b).2.1 := by decide +kernel
theorem tyJx8e188_ok : ∀ k, k < 0 → parseFieldDescriptor (TJx8e188 k).2.2.1 = some (tyJx8e188 k) := by decide +kernel
def RJxab1ab : String := "java/lang/Iterable"
def TJxab1ab : u_T := fun k => match k with
  | _ => ("", "", "", false)
def tyJxab1ab : Nat → FieldType := fun k => match k with
  | _ => .int
abbrev wsJxab1ab0 : List Cond := u_ws RJxab1ab TJxab1ab 0
theorem nmJxab1ab : ∀ a, a < 0 → ∀ b, b < 0 → a ≠ b → (TJxab1ab a).2.1 ≠ (TJxab1ab b).2.1 := by decide +kernel
theorem tyJxab1ab_ok : ∀ k, k < 0 → parseFieldDescriptor (TJxab1ab k).2.2.1 = some (tyJxab1ab k) := by decide +kernel
def RJ9 : String := "java/lang/Math"
def TJ9 : u_T := fun k => match k with
  | _ => ("", "", "", false)
def tyJ9 : Nat → FieldType := fun k => match k with
  | _ => .int
abbrev wsJ90 : List Cond := u_ws RJ9 TJ9 0
theorem nmJ9 : ∀ a, a < 0 → ∀ b, b < 0 → a ≠ b → (TJ9 a).2.1 ≠ (TJ9 b).2.1 := by decide +kernel
theorem tyJ9_ok : ∀ k, k < 0 → parseFieldDescriptor (TJ9 k).2.2.1 = some (tyJ9 k) := by decide +kernel
abbrev cJ9_max_7cf53 : ByteArray := prog_15_method_65_code
def yJ9_max_7cf53 : MethodName := ⟨RJ9, "max", "(II)I"⟩
abbrev cJ9_min_7cf53 : ByteArray := prog_15_method_69_code
def yJ9_min_7cf53 : MethodName := ⟨RJ9, "min", "(II)I"⟩
def RJ0 : String := "java/lang/String"
def TJ0 : u_T := fun k => match k with
  | _ => ("", "", "", false)
def tyJ0 : Nat → FieldType := fun k => match k with
  | _ => .int
abbrev wsJ00 : List Cond := u_ws RJ0 TJ0 0
theorem nmJ0 : ∀ a, a < 0 → ∀ b, b < 0 → a ≠ b → (TJ0 a).2.1 ≠ (TJ0 b).2.1 := by decide +kernel
theorem tyJ0_ok : ∀ k, k < 0 → parseFieldDescriptor (TJ0 k).2.2.1 = some (tyJ0 k) := by decide +kernel
def RJ10 : String := "java/lang/System"
def TJ10 : u_T := fun k => match k with
  | _ => ("", "", "", false)
def tyJ10 : Nat → FieldType := fun k => match k with
  | _ => .int
abbrev wsJ100 : List Cond := u_ws RJ10 TJ10 0
theorem nmJ10 : ∀ a, a < 0 → ∀ b, b < 0 → a ≠ b → (TJ10 a).2.1 ≠ (TJ10 b).2.1 := by decide +kernel
theorem tyJ10_ok : ∀ k, k < 0 → parseFieldDescriptor (TJ10 k).2.2.1 = some (tyJ10 k) := by decide +kernel
def RJxa1e45 : String := "java/util/AbstractCollection"
def TJxa1e45 : u_T := fun k => match k with
  | _ => ("", "", "", false)
def tyJxa1e45 : Nat → FieldType := fun k => match k with
  | _ => .int
abbrev wsJxa1e450 : List Cond := u_ws RJxa1e45 TJxa1e45 0
theorem nmJxa1e45 : ∀ a, a < 0 → ∀ b, b < 0 → a ≠ b → (TJxa1e45 a).2.1 ≠ (TJxa1e45 b).2.1 := by decide +kernel
theorem tyJxa1e45_ok : ∀ k, k < 0 → parseFieldDescriptor (TJxa1e45 k).2.2.1 = some (tyJxa1e45 k) := by decide +kernel
abbrev cJxa1e45_init_da8c8 : ByteArray := prog_20_method_1_code
def yJxa1e45_init_da8c8 : MethodName := ⟨RJxa1e45, "<init>", "()V"⟩
def RJxc12de : String := "java/util/AbstractList"
def TJxc12de : u_T := fun k => match k with
  | _ => ("", "", "", false)
def tyJxc12de : Nat → FieldType := fun k => match k with
  | _ => .int
abbrev wsJxc12de0 : List Cond := u_ws RJxc12de TJxc12de 0
theorem nmJxc12de : ∀ a, a < 0 → ∀ b, b < 0 → a ≠ b → (TJxc12de a).2.1 ≠ (TJxc12de b).2.1 := by decide +kernel
theorem tyJxc12de_ok : ∀ k, k < 0 → parseFieldDescriptor (TJxc12de k).2.2.1 = some (tyJxc12de k) := by decide +kernel
abbrev cJxc12de_init_da8c8 : ByteArray := prog_21_method_1_code
def yJxc12de_init_da8c8 : MethodName := ⟨RJxc12de, "<init>", "()V"⟩
def RJx4a65c : String := "java/util/ArrayList"
def TJx4a65c : u_T := fun k => match k with
  | 0 => ("java/util/AbstractList", "modCount", "I", false)
  | 1 => ("java/util/ArrayList", "elementData", "[Ljava/lang/Object;", false)
  | _ => ("java/util/ArrayList", "size", "I", false)
def tyJx4a65c : Nat → FieldType := fun k => match k with
  | 0 => .int
  | 1 => .array (.object "java/lang/Object")
  | _ => .int
abbrev wsJx4a65c0 : List Cond := u_ws RJx4a65c TJx4a65c 3
theorem nmJx4a65c : ∀ a, a < 3 → ∀ b, b < 3 → a ≠ b → (TJx4a65c a).2.1 ≠ (TJx4a65c b).2.1 := by decide +kernel
theorem tyJx4a65c_ok : ∀ k, k < 3 → parseFieldDescriptor (TJx4a65c k).2.2.1 = some (tyJx4a65c k) := by decide +kernel
abbrev cJx4a65c_init_da8c8 : ByteArray := prog_22_method_2_code
def yJx4a65c_init_da8c8 : MethodName := ⟨RJx4a65c, "<init>", "()V"⟩
abbrev cJx4a65c_grow_92f84 : ByteArray := prog_22_method_6_code
def yJx4a65c_grow_92f84 : MethodName := ⟨RJx4a65c, "grow", "(I)[Ljava/lang/Object;"⟩
abbrev cJx4a65c_grow_d5877 : ByteArray := prog_22_method_7_code
def yJx4a65c_grow_d5877 : MethodName := ⟨RJx4a65c, "grow", "()[Ljava/lang/Object;"⟩
abbrev cJx4a65c_size_8abf5 : ByteArray := prog_22_method_8_code
def yJx4a65c_size_8abf5 : MethodName := ⟨RJx4a65c, "size", "()I"⟩
abbrev cJx4a65c_elementData_915e3 : ByteArray := prog_22_method_18_code
def yJx4a65c_elementData_915e3 : MethodName := ⟨RJx4a65c, "elementData", "(I)Ljava/lang/Object;"⟩
abbrev cJx4a65c_get_915e3 : ByteArray := prog_22_method_20_code
def yJx4a65c_get_915e3 : MethodName := ⟨RJx4a65c, "get", "(I)Ljava/lang/Object;"⟩
abbrev cJx4a65c_add_72be8 : ByteArray := prog_22_method_24_code
def yJx4a65c_add_72be8 : MethodName := ⟨RJx4a65c, "add", "(Ljava/lang/Object;[Ljava/lang/Object;I)V"⟩
abbrev cJx4a65c_add_9ea2d : ByteArray := prog_22_method_25_code
def yJx4a65c_add_9ea2d : MethodName := ⟨RJx4a65c, "add", "(Ljava/lang/Object;)Z"⟩
def RJ7 : String := "java/util/Arrays"
def TJ7 : u_T := fun k => match k with
  | _ => ("", "", "", false)
def tyJ7 : Nat → FieldType := fun k => match k with
  | _ => .int
abbrev wsJ70 : List Cond := u_ws RJ7 TJ7 0
theorem nmJ7 : ∀ a, a < 0 → ∀ b, b < 0 → a ≠ b → (TJ7 a).2.1 ≠ (TJ7 b).2.1 := by decide +kernel
theorem tyJ7_ok : ∀ k, k < 0 → parseFieldDescriptor (TJ7 k).2.2.1 = some (tyJ7 k) := by decide +kernel
abbrev cJ7_copyOf_1904c : ByteArray := prog_23_method_119_code
def yJ7_copyOf_1904c : MethodName := ⟨RJ7, "copyOf", "([Ljava/lang/Object;I)[Ljava/lang/Object;"⟩
abbrev cJ7_copyOf_6403c : ByteArray := prog_23_method_120_code
def yJ7_copyOf_6403c : MethodName := ⟨RJ7, "copyOf", "([Ljava/lang/Object;ILjava/lang/Class;)[Ljava/lang/Object;"⟩
def RJx5ef63 : String := "java/util/Collection"
def TJx5ef63 : u_T := fun k => match k with
  | _ => ("", "", "", false)
def tyJx5ef63 : Nat → FieldType := fun k => match k with
  | _ => .int
abbrev wsJx5ef630 : List Cond := u_ws RJx5ef63 TJx5ef63 0
theorem nmJx5ef63 : ∀ a, a < 0 → ∀ b, b < 0 → a ≠ b → (TJx5ef63 a).2.1 ≠ (TJx5ef63 b).2.1 := by decide +kernel
theorem tyJx5ef63_ok : ∀ k, k < 0 → parseFieldDescriptor (TJx5ef63 k).2.2.1 = some (tyJx5ef63 k) := by decide +kernel
def RJxbd725 : String := "java/util/List"
def TJxbd725 : u_T := fun k => match k with
  | _ => ("", "", "", false)
def tyJxbd725 : Nat → FieldType := fun k => match k with
  | _ => .int
abbrev wsJxbd7250 : List Cond := u_ws RJxbd725 TJxbd725 0
theorem nmJxbd725 : ∀ a, a < 0 → ∀ b, b < 0 → a ≠ b → (TJxbd725 a).2.1 ≠ (TJxbd725 b).2.1 := by decide +kernel
theorem tyJxbd725_ok : ∀ k, k < 0 → parseFieldDescriptor (TJxbd725 k).2.2.1 = some (tyJxbd725 k) := by decide +kernel
def RJ15 : String := "java/util/Objects"
def TJ15 : u_T := fun k => match k with
  | _ => ("", "", "", false)
def tyJ15 : Nat → FieldType := fun k => match k with
  | _ => .int
abbrev wsJ150 : List Cond := u_ws RJ15 TJ15 0
theorem nmJ15 : ∀ a, a < 0 → ∀ b, b < 0 → a ≠ b → (TJ15 a).2.1 ≠ (TJ15 b).2.1 := by decide +kernel
theorem tyJ15_ok : ∀ k, k < 0 → parseFieldDescriptor (TJ15 k).2.2.1 = some (tyJ15 k) := by decide +kernel
abbrev cJ15_checkIndex_7cf53 : ByteArray := prog_26_method_17_code
def yJ15_checkIndex_7cf53 : MethodName := ⟨RJ15, "checkIndex", "(II)I"⟩
def RJxf0a74 : String := "java/util/RandomAccess"
def TJxf0a74 : u_T := fun k => match k with
  | _ => ("", "", "", false)
def tyJxf0a74 : Nat → FieldType := fun k => match k with
  | _ => .int
abbrev wsJxf0a740 : List Cond := u_ws RJxf0a74 TJxf0a74 0
theorem nmJxf0a74 : ∀ a, a < 0 → ∀ b, b < 0 → a ≠ b → (TJxf0a74 a).2.1 ≠ (TJxf0a74 b).2.1 := by decide +kernel
theorem tyJxf0a74_ok : ∀ k, k < 0 → parseFieldDescriptor (TJxf0a74 k).2.2.1 = some (tyJxf0a74 k) := by decide +kernel
def RJxa66e6 : String := "java/util/SequencedCollection"
def TJxa66e6 : u_T := fun k => match k with
  | _ => ("", "", "", false)
def tyJxa66e6 : Nat → FieldType := fun k => match k with
  | _ => .int
abbrev wsJxa66e60 : List Cond := u_ws RJxa66e6 TJxa66e6 0
theorem nmJxa66e6 : ∀ a, a < 0 → ∀ b, b < 0 → a ≠ b → (TJxa66e6 a).2.1 ≠ (TJxa66e6 b).2.1 := by decide +kernel
theorem tyJxa66e6_ok : ∀ k, k < 0 → parseFieldDescriptor (TJxa66e6 k).2.2.1 = some (tyJxa66e6 k) := by decide +kernel
def RJ8 : String := "jdk/internal/util/ArraysSupport"
def TJ8 : u_T := fun k => match k with
  | _ => ("", "", "", false)
def tyJ8 : Nat → FieldType := fun k => match k with
  | _ => .int
abbrev wsJ80 : List Cond := u_ws RJ8 TJ8 0
theorem nmJ8 : ∀ a, a < 0 → ∀ b, b < 0 → a ≠ b → (TJ8 a).2.1 ≠ (TJ8 b).2.1 := by decide +kernel
theorem tyJ8_ok : ∀ k, k < 0 → parseFieldDescriptor (TJ8 k).2.2.1 = some (tyJ8 k) := by decide +kernel
abbrev cJ8_newLength_cabcc : ByteArray := prog_29_method_27_code
def yJ8_newLength_cabcc : MethodName := ⟨RJ8, "newLength", "(III)I"⟩
abbrev cJ8_hugeLength_7cf53 : ByteArray := prog_29_method_28_code
def yJ8_hugeLength_7cf53 : MethodName := ⟨RJ8, "hugeLength", "(II)I"⟩
def RJ3 : String := "jdk/internal/util/Preconditions"
def TJ3 : u_T := fun k => match k with
  | _ => ("", "", "", false)
def tyJ3 : Nat → FieldType := fun k => match k with
  | _ => .int
abbrev wsJ30 : List Cond := u_ws RJ3 TJ3 0
theorem nmJ3 : ∀ a, a < 0 → ∀ b, b < 0 → a ≠ b → (TJ3 a).2.1 ≠ (TJ3 b).2.1 := by decide +kernel
theorem tyJ3_ok : ∀ k, k < 0 → parseFieldDescriptor (TJ3 k).2.2.1 = some (tyJ3 k) := by decide +kernel
abbrev cJ3_checkIndex_8e157 : ByteArray := prog_30_method_11_code
def yJ3_checkIndex_8e157 : MethodName := ⟨RJ3, "checkIndex", "(IILjava/util/function/BiFunction;)I"⟩
def RL : String := "SkyloadBureauLaw"
abbrev cL_flight : ByteArray := method_3_code
def yL_flight : MethodName := ⟨RL, "flight", "(LSkyloadBureau;II[J)I"⟩
abbrev cL_entry : ByteArray := method_4_code
def yL_entry : MethodName := ⟨RL, "entry", "(LSkyloadBureau;IIII[J)I"⟩
abbrev cL_exempt : ByteArray := method_5_code
def yL_exempt : MethodName := ⟨RL, "exempt", "(LSkyloadBureau;IZ[J)I"⟩
abbrev cL_flightIs : ByteArray := method_6_code
def yL_flightIs : MethodName := ⟨RL, "flightIs", "(LSkyloadBureau;II[J)I"⟩
abbrev cL_over : ByteArray := method_7_code
def yL_over : MethodName := ⟨RL, "over", "(LSkyloadBureau;II[J)I"⟩
abbrev cL_load : ByteArray := method_8_code
def yL_load : MethodName := ⟨RL, "load", "(LSkyloadBureau;III[J)I"⟩
abbrev cL_inside : ByteArray := method_9_code
def yL_inside : MethodName := ⟨RL, "inside", "(LSkyloadBureau;II[J)I"⟩
abbrev cL_peak : ByteArray := method_10_code
def yL_peak : MethodName := ⟨RL, "peak", "(LSkyloadBureau;II[J)I"⟩
abbrev cL_peakAnew : ByteArray := method_11_code
def yL_peakAnew : MethodName := ⟨RL, "peakAnew", "(LSkyloadBureau;II[J)I"⟩
abbrev cL_regulation : ByteArray := method_12_code
def yL_regulation : MethodName := ⟨RL, "regulation", "(LSkyloadBureau;IIII[J)I"⟩
abbrev cL_rate : ByteArray := method_13_code
def yL_rate : MethodName := ⟨RL, "rate", "(LSkyloadBureau;II[J)I"⟩
abbrev cL_end : ByteArray := method_14_code
def yL_end : MethodName := ⟨RL, "end", "(LSkyloadBureau;I)I"⟩
abbrev cL_regulationIs : ByteArray := method_15_code
def yL_regulationIs : MethodName := ⟨RL, "regulationIs", "(LSkyloadBureau;II[J)I"⟩
abbrev cL_slot : ByteArray := method_16_code
def yL_slot : MethodName := ⟨RL, "slot", "(LSkyloadBureau;II[J)I"⟩
abbrev cL_penalty : ByteArray := method_17_code
def yL_penalty : MethodName := ⟨RL, "penalty", "(LSkyloadBureau;II[J)I"⟩
abbrev cL_due : ByteArray := method_18_code
def yL_due : MethodName := ⟨RL, "due", "(LSkyloadBureau;I[J)I"⟩
abbrev cL_dueAnew : ByteArray := method_19_code
def yL_dueAnew : MethodName := ⟨RL, "dueAnew", "(LSkyloadBureau;I[J)I"⟩
abbrev cL_would : ByteArray := method_20_code
def yL_would : MethodName := ⟨RL, "would", "(LSkyloadBureau;IIII[J)I"⟩
abbrev cL_swap : ByteArray := method_21_code
def yL_swap : MethodName := ⟨RL, "swap", "(LSkyloadBureau;II)I"⟩
abbrev cL_message : ByteArray := method_22_code
def yL_message : MethodName := ⟨RL, "message", "(LSkyloadBureau;IIII[J)I"⟩
abbrev cL_companyIs : ByteArray := method_23_code
def yL_companyIs : MethodName := ⟨RL, "companyIs", "(LSkyloadBureau;II[J)I"⟩
abbrev cL_law : ByteArray := code
def yL_law : MethodName := ⟨RL, "law", "([I)Z"⟩
abbrev vwCl : List vw_C := [(RJx4a65c, TJx4a65c, 3), (RX0, TX0, 5), (RX1, TX1, 14), (RX2, TX2, 5), (RX3, TX3, 5), (RX4, TX4, 4), (RX5, TX5, 30)]
def lw_G : List Cond := lw_tbl.filter goodWord
end
section
/-! words of the tables by their places -/
theorem qw_0 : Cond.selects RX4 yX4_reckonDues yX4_reckonDues ∈ lw_G := List.mem_filter.mpr ⟨List.mem_of_getElem? (i := 0) (by decide +kernel), by decide +kernel⟩
theorem qw_1 : Cond.selects RX4 yX4_reckonPenalties yX4_reckonPenalties ∈ lw_G := List.mem_filter.mpr ⟨List.mem_of_getElem? (i := 1) (by decide +kernel), by decide +kernel⟩
theorem qw_2 : Cond.selects RX0 yX0_lineUp yX0_lineUp ∈ lw_G := List.mem_filter.mpr ⟨List.mem_of_getElem? (i := 2) (by decide +kernel), by decide +kernel⟩
theorem qw_3 : Cond.selects RX0 yX0_serve yX0_serve ∈ lw_G := List.mem_filter.mpr ⟨List.mem_of_getElem? (i := 3) (by decide +kernel), by decide +kernel⟩
theorem qw_4 : Cond.selects RX4 yX4_sumOfDues yX4_sumOfDues ∈ lw_G := List.mem_filter.mpr ⟨List.mem_of_getElem? (i := 4) (by decide +kernel), by decide +kernel⟩
theorem qw_5 : Cond.selects "java/lang/Throwable" (⟨"java/lang/Throwable", "fillInStackTrace", "(I)Ljava/lang/Throwable;"⟩ : MethodName) (⟨"java/lang/Throwable", "fillInStackTrace", "(I)Ljava/lang/Throwable;"⟩ : MethodName) ∈ lw_G := List.mem_filter.mpr ⟨List.mem_of_getElem? (i := 5) (by decide +kernel), by decide +kernel⟩
theorem qw_6 : Cond.selects RJx4a65c yJx4a65c_add_72be8 yJx4a65c_add_72be8 ∈ lw_G := List.mem_filter.mpr ⟨List.mem_of_getElem? (i := 6) (by decide +kernel), by decide +kernel⟩
theorem qw_7 : Cond.selects RJx4a65c yJx4a65c_grow_d5877 yJx4a65c_grow_d5877 ∈ lw_G := List.mem_filter.mpr ⟨List.mem_of_getElem? (i := 7) (by decide +kernel), by decide +kernel⟩
theorem qw_8 : Cond.selects RJx4a65c yJx4a65c_grow_92f84 yJx4a65c_grow_92f84 ∈ lw_G := List.mem_filter.mpr ⟨List.mem_of_getElem? (i := 8) (by decide +kernel), by decide +kernel⟩
theorem qw_9 : Cond.selects RX4 yX4_flightAt yX4_flightAt ∈ lw_G := List.mem_filter.mpr ⟨List.mem_of_getElem? (i := 9) (by decide +kernel), by decide +kernel⟩
theorem qw_10 : Cond.selects RX4 yX4_loadOf yX4_loadOf ∈ lw_G := List.mem_filter.mpr ⟨List.mem_of_getElem? (i := 10) (by decide +kernel), by decide +kernel⟩
theorem qw_11 : Cond.selects RX4 yX4_lineUpEntering yX4_lineUpEntering ∈ lw_G := List.mem_filter.mpr ⟨List.mem_of_getElem? (i := 11) (by decide +kernel), by decide +kernel⟩
theorem qw_12 : Cond.selects RX4 yX4_regulationAt yX4_regulationAt ∈ lw_G := List.mem_filter.mpr ⟨List.mem_of_getElem? (i := 12) (by decide +kernel), by decide +kernel⟩
theorem qw_13 : Cond.selects RX4 yX4_chargedToRegulation yX4_chargedToRegulation ∈ lw_G := List.mem_filter.mpr ⟨List.mem_of_getElem? (i := 13) (by decide +kernel), by decide +kernel⟩
theorem qw_14 : Cond.selects RX5 yX5_holds yX5_holds ∈ lw_G := List.mem_filter.mpr ⟨List.mem_of_getElem? (i := 14) (by decide +kernel), by decide +kernel⟩
theorem qw_15 : Cond.selects RX5 yX5_isFlight yX5_isFlight ∈ lw_G := List.mem_filter.mpr ⟨List.mem_of_getElem? (i := 15) (by decide +kernel), by decide +kernel⟩
theorem qw_16 : Cond.selects RX5 yX5_departure yX5_departure ∈ lw_G := List.mem_filter.mpr ⟨List.mem_of_getElem? (i := 16) (by decide +kernel), by decide +kernel⟩
theorem qw_17 : Cond.selects RX5 yX5_enters yX5_enters ∈ lw_G := List.mem_filter.mpr ⟨List.mem_of_getElem? (i := 17) (by decide +kernel), by decide +kernel⟩
theorem qw_18 : Cond.selects RX5 yX5_overOf yX5_overOf ∈ lw_G := List.mem_filter.mpr ⟨List.mem_of_getElem? (i := 18) (by decide +kernel), by decide +kernel⟩
theorem qw_19 : Cond.selects RX5 yX5_loadOf yX5_loadOf ∈ lw_G := List.mem_filter.mpr ⟨List.mem_of_getElem? (i := 19) (by decide +kernel), by decide +kernel⟩
theorem qw_20 : Cond.selects RX5 yX5_lays yX5_lays ∈ lw_G := List.mem_filter.mpr ⟨List.mem_of_getElem? (i := 20) (by decide +kernel), by decide +kernel⟩
theorem qw_21 : Cond.selects RX5 yX5_isRegulation yX5_isRegulation ∈ lw_G := List.mem_filter.mpr ⟨List.mem_of_getElem? (i := 21) (by decide +kernel), by decide +kernel⟩
theorem qw_22 : Cond.selects RX5 yX5_dealt yX5_dealt ∈ lw_G := List.mem_filter.mpr ⟨List.mem_of_getElem? (i := 22) (by decide +kernel), by decide +kernel⟩
theorem qw_23 : Cond.selects RX5 yX5_begin yX5_begin ∈ lw_G := List.mem_filter.mpr ⟨List.mem_of_getElem? (i := 23) (by decide +kernel), by decide +kernel⟩
theorem qw_24 : Cond.selects RX5 yX5_nextOf yX5_nextOf ∈ lw_G := List.mem_filter.mpr ⟨List.mem_of_getElem? (i := 24) (by decide +kernel), by decide +kernel⟩
theorem qw_25 : Cond.selects RX5 yX5_timeOf yX5_timeOf ∈ lw_G := List.mem_filter.mpr ⟨List.mem_of_getElem? (i := 25) (by decide +kernel), by decide +kernel⟩
theorem qw_26 : Cond.selects RX5 yX5_plannedOver yX5_plannedOver ∈ lw_G := List.mem_filter.mpr ⟨List.mem_of_getElem? (i := 26) (by decide +kernel), by decide +kernel⟩
theorem qw_27 : Cond.selects RX5 yX5_takes yX5_takes ∈ lw_G := List.mem_filter.mpr ⟨List.mem_of_getElem? (i := 27) (by decide +kernel), by decide +kernel⟩
theorem qw_28 : Cond.selects RX5 yX5_ending yX5_ending ∈ lw_G := List.mem_filter.mpr ⟨List.mem_of_getElem? (i := 28) (by decide +kernel), by decide +kernel⟩
theorem qw_29 : Cond.selects RX5 yX5_dealAll yX5_dealAll ∈ lw_G := List.mem_filter.mpr ⟨List.mem_of_getElem? (i := 29) (by decide +kernel), by decide +kernel⟩
theorem qw_30 : Cond.selects RX5 yX5_dueOf yX5_dueOf ∈ lw_G := List.mem_filter.mpr ⟨List.mem_of_getElem? (i := 30) (by decide +kernel), by decide +kernel⟩
theorem qw_31 : Cond.selects RX5 yX5_dueBy yX5_dueBy ∈ lw_G := List.mem_filter.mpr ⟨List.mem_of_getElem? (i := 31) (by decide +kernel), by decide +kernel⟩
theorem qw_32 : Cond.selects RX5 yX5_sumBy yX5_sumBy ∈ lw_G := List.mem_filter.mpr ⟨List.mem_of_getElem? (i := 32) (by decide +kernel), by decide +kernel⟩
theorem qw_33 : Cond.selects RX5 yX5_deals yX5_deals ∈ lw_G := List.mem_filter.mpr ⟨List.mem_of_getElem? (i := 33) (by decide +kernel), by decide +kernel⟩
theorem qw_34 : Cond.selects RX5 yX5_goes yX5_goes ∈ lw_G := List.mem_filter.mpr ⟨List.mem_of_getElem? (i := 34) (by decide +kernel), by decide +kernel⟩
theorem qw_35 : Cond.initialized "SkyloadBureauLaw" ∈ lw_G := List.mem_filter.mpr ⟨List.mem_of_getElem? (i := 35) (by decide +kernel), by decide +kernel⟩
theorem qw_36 : Cond.initialized "SkyloadBureau" ∈ lw_G := List.mem_filter.mpr ⟨List.mem_of_getElem? (i := 36) (by decide +kernel), by decide +kernel⟩
theorem qw_37 : Cond.initialized "java/util/AbstractCollection" ∈ lw_G := List.mem_filter.mpr ⟨List.mem_of_getElem? (i := 37) (by decide +kernel), by decide +kernel⟩
theorem qw_38 : Cond.initialized "java/util/AbstractList" ∈ lw_G := List.mem_filter.mpr ⟨List.mem_of_getElem? (i := 38) (by decide +kernel), by decide +kernel⟩
theorem qw_39 : Cond.initialized "java/util/ArrayList" ∈ lw_G := List.mem_filter.mpr ⟨List.mem_of_getElem? (i := 39) (by decide +kernel), by decide +kernel⟩
theorem qw_40 : Cond.initialized "SkyloadBureau$Dealing" ∈ lw_G := List.mem_filter.mpr ⟨List.mem_of_getElem? (i := 40) (by decide +kernel), by decide +kernel⟩
theorem qw_41 : Cond.initialized "SkyloadBureau$Line" ∈ lw_G := List.mem_filter.mpr ⟨List.mem_of_getElem? (i := 41) (by decide +kernel), by decide +kernel⟩
theorem qw_42 : Cond.initialized "SkyloadBureauModel" ∈ lw_G := List.mem_filter.mpr ⟨List.mem_of_getElem? (i := 42) (by decide +kernel), by decide +kernel⟩
theorem qw_43 : Cond.initialized "java/lang/Throwable" ∈ lw_G := List.mem_filter.mpr ⟨List.mem_of_getElem? (i := 43) (by decide +kernel), by decide +kernel⟩
theorem qw_44 : Cond.initialized "java/lang/Exception" ∈ lw_G := List.mem_filter.mpr ⟨List.mem_of_getElem? (i := 44) (by decide +kernel), by decide +kernel⟩
theorem qw_45 : Cond.initialized "java/lang/RuntimeException" ∈ lw_G := List.mem_filter.mpr ⟨List.mem_of_getElem? (i := 45) (by decide +kernel), by decide +kernel⟩
theorem qw_46 : Cond.initialized "java/lang/IndexOutOfBoundsException" ∈ lw_G := List.mem_filter.mpr ⟨List.mem_of_getElem? (i := 46) (by decide +kernel), by decide +kernel⟩
theorem qw_47 : Cond.initialized "java/lang/IllegalArgumentException" ∈ lw_G := List.mem_filter.mpr ⟨List.mem_of_getElem? (i := 47) (by decide +kernel), by decide +kernel⟩
theorem qw_48 : Cond.initialized "java/lang/IllegalStateException" ∈ lw_G := List.mem_filter.mpr ⟨List.mem_of_getElem? (i := 48) (by decide +kernel), by decide +kernel⟩
theorem qw_49 : Cond.initialized "SkyloadBureau$Flight" ∈ lw_G := List.mem_filter.mpr ⟨List.mem_of_getElem? (i := 49) (by decide +kernel), by decide +kernel⟩
theorem qw_50 : Cond.initialized "jdk/internal/util/ArraysSupport" ∈ lw_G := List.mem_filter.mpr ⟨List.mem_of_getElem? (i := 50) (by decide +kernel), by decide +kernel⟩
theorem qw_51 : Cond.initialized "java/lang/Math" ∈ lw_G := List.mem_filter.mpr ⟨List.mem_of_getElem? (i := 51) (by decide +kernel), by decide +kernel⟩
theorem qw_52 : Cond.initialized "java/util/Arrays" ∈ lw_G := List.mem_filter.mpr ⟨List.mem_of_getElem? (i := 52) (by decide +kernel), by decide +kernel⟩
theorem qw_53 : Cond.initialized "java/lang/System" ∈ lw_G := List.mem_filter.mpr ⟨List.mem_of_getElem? (i := 53) (by decide +kernel), by decide +kernel⟩
theorem qw_54 : Cond.initialized "java/util/Objects" ∈ lw_G := List.mem_filter.mpr ⟨List.mem_of_getElem? (i := 54) (by decide +kernel), by decide +kernel⟩
theorem qw_55 : Cond.initialized "jdk/internal/util/Preconditions" ∈ lw_G := List.mem_filter.mpr ⟨List.mem_of_getElem? (i := 55) (by decide +kernel), by decide +kernel⟩
theorem qw_56 : Cond.initialized "SkyloadBureau$Regulation" ∈ lw_G := List.mem_filter.mpr ⟨List.mem_of_getElem? (i := 56) (by decide +kernel), by decide +kernel⟩
theorem qw_57 : Cond.classLink "SkyloadBureauLaw" 8 "SkyloadBureau" ∈ lw_G := List.mem_filter.mpr ⟨List.mem_of_getElem? (i := 57) (by decide +kernel), by decide +kernel⟩
theorem qw_58 : Cond.instantiable "SkyloadBureau" 4 ∈ lw_G := List.mem_filter.mpr ⟨List.mem_of_getElem? (i := 58) (by decide +kernel), by decide +kernel⟩
theorem qw_59 : Cond.methodLink "SkyloadBureauLaw" 86 yX4_init ∈ lw_G := List.mem_filter.mpr ⟨List.mem_of_getElem? (i := 59) (by decide +kernel), by decide +kernel⟩
theorem qw_60 : Cond.instanceMethod yX4_init ∈ lw_G := List.mem_filter.mpr ⟨List.mem_of_getElem? (i := 60) (by decide +kernel), by decide +kernel⟩
theorem qw_61 : Cond.code yX4_init prog_1_method_1_code 1 (Option.none : Option Jvm.ClassFile.FieldType) ∈ lw_G := List.mem_filter.mpr ⟨List.mem_of_getElem? (i := 61) (by decide +kernel), by decide +kernel⟩
theorem qw_62 : Cond.methodLink "SkyloadBureau" 1 (⟨"java/lang/Object", "<init>", "()V"⟩ : MethodName) ∈ lw_G := List.mem_filter.mpr ⟨List.mem_of_getElem? (i := 62) (by decide +kernel), by decide +kernel⟩
theorem qw_63 : Cond.instanceMethod (⟨"java/lang/Object", "<init>", "()V"⟩ : MethodName) ∈ lw_G := List.mem_filter.mpr ⟨List.mem_of_getElem? (i := 63) (by decide +kernel), by decide +kernel⟩
theorem qw_64 : Cond.code (⟨"java/lang/Object", "<init>", "()V"⟩ : MethodName) object_method_1_code 1 (Option.none : Option Jvm.ClassFile.FieldType) ∈ lw_G := List.mem_filter.mpr ⟨List.mem_of_getElem? (i := 64) (by decide +kernel), by decide +kernel⟩
theorem qw_65 : Cond.classLink "SkyloadBureau" 7 "java/util/ArrayList" ∈ lw_G := List.mem_filter.mpr ⟨List.mem_of_getElem? (i := 65) (by decide +kernel), by decide +kernel⟩
theorem qw_66 : Cond.instantiable "java/util/ArrayList" 3 ∈ lw_G := List.mem_filter.mpr ⟨List.mem_of_getElem? (i := 66) (by decide +kernel), by decide +kernel⟩
theorem qw_67 : Cond.methodLink "SkyloadBureau" 9 yJx4a65c_init_da8c8 ∈ lw_G := List.mem_filter.mpr ⟨List.mem_of_getElem? (i := 67) (by decide +kernel), by decide +kernel⟩
theorem qw_68 : Cond.instanceMethod yJx4a65c_init_da8c8 ∈ lw_G := List.mem_filter.mpr ⟨List.mem_of_getElem? (i := 68) (by decide +kernel), by decide +kernel⟩
theorem qw_69 : Cond.code yJx4a65c_init_da8c8 prog_22_method_2_code 1 (Option.none : Option Jvm.ClassFile.FieldType) ∈ lw_G := List.mem_filter.mpr ⟨List.mem_of_getElem? (i := 69) (by decide +kernel), by decide +kernel⟩
theorem qw_70 : Cond.methodLink "java/util/ArrayList" 1 yJxc12de_init_da8c8 ∈ lw_G := List.mem_filter.mpr ⟨List.mem_of_getElem? (i := 70) (by decide +kernel), by decide +kernel⟩
theorem qw_71 : Cond.instanceMethod yJxc12de_init_da8c8 ∈ lw_G := List.mem_filter.mpr ⟨List.mem_of_getElem? (i := 71) (by decide +kernel), by decide +kernel⟩
theorem qw_72 : Cond.code yJxc12de_init_da8c8 prog_21_method_1_code 1 (Option.none : Option Jvm.ClassFile.FieldType) ∈ lw_G := List.mem_filter.mpr ⟨List.mem_of_getElem? (i := 72) (by decide +kernel), by decide +kernel⟩
theorem qw_73 : Cond.methodLink "java/util/AbstractList" 1 yJxa1e45_init_da8c8 ∈ lw_G := List.mem_filter.mpr ⟨List.mem_of_getElem? (i := 73) (by decide +kernel), by decide +kernel⟩
theorem qw_74 : Cond.instanceMethod yJxa1e45_init_da8c8 ∈ lw_G := List.mem_filter.mpr ⟨List.mem_of_getElem? (i := 74) (by decide +kernel), by decide +kernel⟩
theorem qw_75 : Cond.code yJxa1e45_init_da8c8 prog_20_method_1_code 1 (Option.none : Option Jvm.ClassFile.FieldType) ∈ lw_G := List.mem_filter.mpr ⟨List.mem_of_getElem? (i := 75) (by decide +kernel), by decide +kernel⟩
theorem qw_76 : Cond.methodLink "java/util/AbstractCollection" 1 (⟨"java/lang/Object", "<init>", "()V"⟩ : MethodName) ∈ lw_G := List.mem_filter.mpr ⟨List.mem_of_getElem? (i := 76) (by decide +kernel), by decide +kernel⟩
theorem qw_77 : Cond.fieldLink "java/util/ArrayList" 39 "java/util/ArrayList" "DEFAULTCAPACITY_EMPTY_ELEMENTDATA" "[Ljava/lang/Object;" ∈ lw_G := List.mem_filter.mpr ⟨List.mem_of_getElem? (i := 77) (by decide +kernel), by decide +kernel⟩
theorem qw_79 : Cond.fieldLink "java/util/ArrayList" 9 "java/util/ArrayList" "elementData" "[Ljava/lang/Object;" ∈ lw_G := List.mem_filter.mpr ⟨List.mem_of_getElem? (i := 79) (by decide +kernel), by decide +kernel⟩
theorem qw_80 : Cond.fieldLink "java/util/ArrayList" 48 "java/util/ArrayList" "size" "I" ∈ lw_G := List.mem_filter.mpr ⟨List.mem_of_getElem? (i := 80) (by decide +kernel), by decide +kernel⟩
theorem qw_81 : Cond.fieldLink "java/util/AbstractList" 7 "java/util/AbstractList" "modCount" "I" ∈ lw_G := List.mem_filter.mpr ⟨List.mem_of_getElem? (i := 81) (by decide +kernel), by decide +kernel⟩
theorem qw_82 : Cond.fieldLink "java/util/ArrayList" 63 "java/util/ArrayList" "modCount" "I" ∈ lw_G := List.mem_filter.mpr ⟨List.mem_of_getElem? (i := 82) (by decide +kernel), by decide +kernel⟩
theorem qw_83 : Cond.sameField "java/util/ArrayList" "java/util/AbstractList" "modCount" "I" ∈ lw_G := List.mem_filter.mpr ⟨List.mem_of_getElem? (i := 83) (by decide +kernel), by decide +kernel⟩
theorem qw_84 : Cond.lays "java/util/ArrayList" "java/util/ArrayList" "elementData" "[Ljava/lang/Object;" ∈ lw_G := List.mem_filter.mpr ⟨List.mem_of_getElem? (i := 84) (by decide +kernel), by decide +kernel⟩
theorem qw_86 : Cond.lays "java/util/ArrayList" "java/util/ArrayList" "size" "I" ∈ lw_G := List.mem_filter.mpr ⟨List.mem_of_getElem? (i := 86) (by decide +kernel), by decide +kernel⟩
theorem qw_88 : Cond.lays "java/util/ArrayList" "java/util/AbstractList" "modCount" "I" ∈ lw_G := List.mem_filter.mpr ⟨List.mem_of_getElem? (i := 88) (by decide +kernel), by decide +kernel⟩
theorem qw_90 : Cond.superclass "java/util/ArrayList" "java/util/AbstractList" ∈ lw_G := List.mem_filter.mpr ⟨List.mem_of_getElem? (i := 90) (by decide +kernel), by decide +kernel⟩
theorem qw_91 : Cond.classLink "SkyloadBureau" 19 "SkyloadBureau$Dealing" ∈ lw_G := List.mem_filter.mpr ⟨List.mem_of_getElem? (i := 91) (by decide +kernel), by decide +kernel⟩
theorem qw_92 : Cond.instantiable "SkyloadBureau$Dealing" 5 ∈ lw_G := List.mem_filter.mpr ⟨List.mem_of_getElem? (i := 92) (by decide +kernel), by decide +kernel⟩
theorem qw_94 : Cond.instanceMethod yX0_init ∈ lw_G := List.mem_filter.mpr ⟨List.mem_of_getElem? (i := 94) (by decide +kernel), by decide +kernel⟩
theorem qw_95 : Cond.code yX0_init prog_2_method_1_code 1 (Option.none : Option Jvm.ClassFile.FieldType) ∈ lw_G := List.mem_filter.mpr ⟨List.mem_of_getElem? (i := 95) (by decide +kernel), by decide +kernel⟩
theorem qw_96 : Cond.methodLink "SkyloadBureau$Dealing" 3 (⟨"java/lang/Object", "<init>", "()V"⟩ : MethodName) ∈ lw_G := List.mem_filter.mpr ⟨List.mem_of_getElem? (i := 96) (by decide +kernel), by decide +kernel⟩
theorem qw_97 : Cond.classLink "SkyloadBureau$Dealing" 9 "SkyloadBureau$Line" ∈ lw_G := List.mem_filter.mpr ⟨List.mem_of_getElem? (i := 97) (by decide +kernel), by decide +kernel⟩
theorem qw_98 : Cond.instantiable "SkyloadBureau$Line" 5 ∈ lw_G := List.mem_filter.mpr ⟨List.mem_of_getElem? (i := 98) (by decide +kernel), by decide +kernel⟩
theorem qw_100 : Cond.instanceMethod yX2_init ∈ lw_G := List.mem_filter.mpr ⟨List.mem_of_getElem? (i := 100) (by decide +kernel), by decide +kernel⟩
theorem qw_101 : Cond.code yX2_init prog_4_method_1_code 1 (Option.none : Option Jvm.ClassFile.FieldType) ∈ lw_G := List.mem_filter.mpr ⟨List.mem_of_getElem? (i := 101) (by decide +kernel), by decide +kernel⟩
theorem qw_102 : Cond.methodLink "SkyloadBureau$Line" 3 (⟨"java/lang/Object", "<init>", "()V"⟩ : MethodName) ∈ lw_G := List.mem_filter.mpr ⟨List.mem_of_getElem? (i := 102) (by decide +kernel), by decide +kernel⟩
theorem qw_103 : Cond.fieldLink "SkyloadBureau$Line" 9 "SkyloadBureau$Line" "numbers" "[I" ∈ lw_G := List.mem_filter.mpr ⟨List.mem_of_getElem? (i := 103) (by decide +kernel), by decide +kernel⟩
theorem qw_104 : Cond.fieldLink "SkyloadBureau$Line" 15 "SkyloadBureau$Line" "times" "[I" ∈ lw_G := List.mem_filter.mpr ⟨List.mem_of_getElem? (i := 104) (by decide +kernel), by decide +kernel⟩
theorem qw_105 : Cond.fieldLink "SkyloadBureau$Line" 18 "SkyloadBureau$Line" "slots" "[I" ∈ lw_G := List.mem_filter.mpr ⟨List.mem_of_getElem? (i := 105) (by decide +kernel), by decide +kernel⟩
theorem qw_106 : Cond.fieldLink "SkyloadBureau$Line" 21 "SkyloadBureau$Line" "targets" "[I" ∈ lw_G := List.mem_filter.mpr ⟨List.mem_of_getElem? (i := 106) (by decide +kernel), by decide +kernel⟩
theorem qw_107 : Cond.fieldLink "SkyloadBureau$Line" 24 "SkyloadBureau$Line" "count" "I" ∈ lw_G := List.mem_filter.mpr ⟨List.mem_of_getElem? (i := 107) (by decide +kernel), by decide +kernel⟩
theorem qw_108 : Cond.fieldLink "SkyloadBureau$Dealing" 39 "SkyloadBureau$Line" "count" "I" ∈ lw_G := List.mem_filter.mpr ⟨List.mem_of_getElem? (i := 108) (by decide +kernel), by decide +kernel⟩
theorem qw_109 : Cond.fieldLink "SkyloadBureau" 176 "SkyloadBureau$Line" "count" "I" ∈ lw_G := List.mem_filter.mpr ⟨List.mem_of_getElem? (i := 109) (by decide +kernel), by decide +kernel⟩
theorem qw_110 : Cond.laysFinal "SkyloadBureau$Line" "SkyloadBureau$Line" "numbers" "[I" ∈ lw_G := List.mem_filter.mpr ⟨List.mem_of_getElem? (i := 110) (by decide +kernel), by decide +kernel⟩
theorem qw_112 : Cond.laysFinal "SkyloadBureau$Line" "SkyloadBureau$Line" "times" "[I" ∈ lw_G := List.mem_filter.mpr ⟨List.mem_of_getElem? (i := 112) (by decide +kernel), by decide +kernel⟩
theorem qw_114 : Cond.laysFinal "SkyloadBureau$Line" "SkyloadBureau$Line" "slots" "[I" ∈ lw_G := List.mem_filter.mpr ⟨List.mem_of_getElem? (i := 114) (by decide +kernel), by decide +kernel⟩
theorem qw_116 : Cond.laysFinal "SkyloadBureau$Line" "SkyloadBureau$Line" "targets" "[I" ∈ lw_G := List.mem_filter.mpr ⟨List.mem_of_getElem? (i := 116) (by decide +kernel), by decide +kernel⟩
theorem qw_118 : Cond.lays "SkyloadBureau$Line" "SkyloadBureau$Line" "count" "I" ∈ lw_G := List.mem_filter.mpr ⟨List.mem_of_getElem? (i := 118) (by decide +kernel), by decide +kernel⟩
theorem qw_120 : Cond.superclass "SkyloadBureau$Line" "java/lang/Object" ∈ lw_G := List.mem_filter.mpr ⟨List.mem_of_getElem? (i := 120) (by decide +kernel), by decide +kernel⟩
theorem qw_121 : Cond.arrayClass FieldType.int ∈ lw_G := List.mem_filter.mpr ⟨List.mem_of_getElem? (i := 121) (by decide +kernel), by decide +kernel⟩
theorem qw_122 : Cond.fieldLink "SkyloadBureau$Dealing" 12 "SkyloadBureau$Dealing" "fixed" "LSkyloadBureau$Line;" ∈ lw_G := List.mem_filter.mpr ⟨List.mem_of_getElem? (i := 122) (by decide +kernel), by decide +kernel⟩
theorem qw_123 : Cond.fieldLink "SkyloadBureau" 173 "SkyloadBureau$Dealing" "fixed" "LSkyloadBureau$Line;" ∈ lw_G := List.mem_filter.mpr ⟨List.mem_of_getElem? (i := 123) (by decide +kernel), by decide +kernel⟩
theorem qw_124 : Cond.fieldLink "SkyloadBureau$Dealing" 18 "SkyloadBureau$Dealing" "listed" "LSkyloadBureau$Line;" ∈ lw_G := List.mem_filter.mpr ⟨List.mem_of_getElem? (i := 124) (by decide +kernel), by decide +kernel⟩
theorem qw_125 : Cond.fieldLink "SkyloadBureau" 179 "SkyloadBureau$Dealing" "listed" "LSkyloadBureau$Line;" ∈ lw_G := List.mem_filter.mpr ⟨List.mem_of_getElem? (i := 125) (by decide +kernel), by decide +kernel⟩
theorem qw_126 : Cond.fieldLink "SkyloadBureau$Dealing" 21 "SkyloadBureau$Dealing" "slotCount" "I" ∈ lw_G := List.mem_filter.mpr ⟨List.mem_of_getElem? (i := 126) (by decide +kernel), by decide +kernel⟩
theorem qw_127 : Cond.fieldLink "SkyloadBureau" 167 "SkyloadBureau$Dealing" "slotCount" "I" ∈ lw_G := List.mem_filter.mpr ⟨List.mem_of_getElem? (i := 127) (by decide +kernel), by decide +kernel⟩
theorem qw_128 : Cond.fieldLink "SkyloadBureau$Dealing" 25 "SkyloadBureau$Dealing" "freeCount" "I" ∈ lw_G := List.mem_filter.mpr ⟨List.mem_of_getElem? (i := 128) (by decide +kernel), by decide +kernel⟩
theorem qw_129 : Cond.fieldLink "SkyloadBureau" 170 "SkyloadBureau$Dealing" "freeCount" "I" ∈ lw_G := List.mem_filter.mpr ⟨List.mem_of_getElem? (i := 129) (by decide +kernel), by decide +kernel⟩
theorem qw_130 : Cond.fieldLink "SkyloadBureau$Dealing" 28 "SkyloadBureau$Dealing" "listedWithout" "I" ∈ lw_G := List.mem_filter.mpr ⟨List.mem_of_getElem? (i := 130) (by decide +kernel), by decide +kernel⟩
theorem qw_131 : Cond.fieldLink "SkyloadBureau" 182 "SkyloadBureau$Dealing" "listedWithout" "I" ∈ lw_G := List.mem_filter.mpr ⟨List.mem_of_getElem? (i := 131) (by decide +kernel), by decide +kernel⟩
theorem qw_132 : Cond.laysFinal "SkyloadBureau$Dealing" "SkyloadBureau$Dealing" "fixed" "LSkyloadBureau$Line;" ∈ lw_G := List.mem_filter.mpr ⟨List.mem_of_getElem? (i := 132) (by decide +kernel), by decide +kernel⟩
theorem qw_134 : Cond.laysFinal "SkyloadBureau$Dealing" "SkyloadBureau$Dealing" "listed" "LSkyloadBureau$Line;" ∈ lw_G := List.mem_filter.mpr ⟨List.mem_of_getElem? (i := 134) (by decide +kernel), by decide +kernel⟩
theorem qw_136 : Cond.lays "SkyloadBureau$Dealing" "SkyloadBureau$Dealing" "slotCount" "I" ∈ lw_G := List.mem_filter.mpr ⟨List.mem_of_getElem? (i := 136) (by decide +kernel), by decide +kernel⟩
theorem qw_138 : Cond.lays "SkyloadBureau$Dealing" "SkyloadBureau$Dealing" "freeCount" "I" ∈ lw_G := List.mem_filter.mpr ⟨List.mem_of_getElem? (i := 138) (by decide +kernel), by decide +kernel⟩
theorem qw_140 : Cond.lays "SkyloadBureau$Dealing" "SkyloadBureau$Dealing" "listedWithout" "I" ∈ lw_G := List.mem_filter.mpr ⟨List.mem_of_getElem? (i := 140) (by decide +kernel), by decide +kernel⟩
theorem qw_142 : Cond.superclass "SkyloadBureau$Dealing" "java/lang/Object" ∈ lw_G := List.mem_filter.mpr ⟨List.mem_of_getElem? (i := 142) (by decide +kernel), by decide +kernel⟩
theorem qw_143 : Cond.classLink "SkyloadBureau" 26 "SkyloadBureau$Line" ∈ lw_G := List.mem_filter.mpr ⟨List.mem_of_getElem? (i := 143) (by decide +kernel), by decide +kernel⟩
theorem qw_145 : Cond.fieldLink "SkyloadBureau" 10 "SkyloadBureau" "flights" "Ljava/util/ArrayList;" ∈ lw_G := List.mem_filter.mpr ⟨List.mem_of_getElem? (i := 145) (by decide +kernel), by decide +kernel⟩
theorem qw_146 : Cond.fieldLink "SkyloadBureau" 16 "SkyloadBureau" "regulations" "Ljava/util/ArrayList;" ∈ lw_G := List.mem_filter.mpr ⟨List.mem_of_getElem? (i := 146) (by decide +kernel), by decide +kernel⟩
theorem qw_147 : Cond.fieldLink "SkyloadBureau" 22 "SkyloadBureau" "dealing" "LSkyloadBureau$Dealing;" ∈ lw_G := List.mem_filter.mpr ⟨List.mem_of_getElem? (i := 147) (by decide +kernel), by decide +kernel⟩
theorem qw_148 : Cond.fieldLink "SkyloadBureau" 29 "SkyloadBureau" "entering" "LSkyloadBureau$Line;" ∈ lw_G := List.mem_filter.mpr ⟨List.mem_of_getElem? (i := 148) (by decide +kernel), by decide +kernel⟩
theorem qw_149 : Cond.laysFinal "SkyloadBureau" "SkyloadBureau" "flights" "Ljava/util/ArrayList;" ∈ lw_G := List.mem_filter.mpr ⟨List.mem_of_getElem? (i := 149) (by decide +kernel), by decide +kernel⟩
theorem qw_151 : Cond.laysFinal "SkyloadBureau" "SkyloadBureau" "regulations" "Ljava/util/ArrayList;" ∈ lw_G := List.mem_filter.mpr ⟨List.mem_of_getElem? (i := 151) (by decide +kernel), by decide +kernel⟩
theorem qw_153 : Cond.laysFinal "SkyloadBureau" "SkyloadBureau" "dealing" "LSkyloadBureau$Dealing;" ∈ lw_G := List.mem_filter.mpr ⟨List.mem_of_getElem? (i := 153) (by decide +kernel), by decide +kernel⟩
theorem qw_155 : Cond.laysFinal "SkyloadBureau" "SkyloadBureau" "entering" "LSkyloadBureau$Line;" ∈ lw_G := List.mem_filter.mpr ⟨List.mem_of_getElem? (i := 155) (by decide +kernel), by decide +kernel⟩
theorem qw_157 : Cond.superclass "SkyloadBureau" "java/lang/Object" ∈ lw_G := List.mem_filter.mpr ⟨List.mem_of_getElem? (i := 157) (by decide +kernel), by decide +kernel⟩
theorem qw_158 : Cond.methodLink "SkyloadBureauLaw" 153 yX4_allDue ∈ lw_G := List.mem_filter.mpr ⟨List.mem_of_getElem? (i := 158) (by decide +kernel), by decide +kernel⟩
theorem qw_159 : Cond.instanceMethod yX4_allDue ∈ lw_G := List.mem_filter.mpr ⟨List.mem_of_getElem? (i := 159) (by decide +kernel), by decide +kernel⟩
theorem qw_160 : Cond.selects "SkyloadBureau" yX4_allDue yX4_allDue ∈ lw_G := List.mem_filter.mpr ⟨List.mem_of_getElem? (i := 160) (by decide +kernel), by decide +kernel⟩
theorem qw_161 : Cond.code yX4_allDue prog_1_method_19_code 1 (some FieldType.int) ∈ lw_G := List.mem_filter.mpr ⟨List.mem_of_getElem? (i := 161) (by decide +kernel), by decide +kernel⟩
theorem qw_162 : Cond.methodLink "SkyloadBureau" 201 yX4_reckonDues ∈ lw_G := List.mem_filter.mpr ⟨List.mem_of_getElem? (i := 162) (by decide +kernel), by decide +kernel⟩
theorem qw_164 : Cond.instanceMethod yX4_reckonDues ∈ lw_G := List.mem_filter.mpr ⟨List.mem_of_getElem? (i := 164) (by decide +kernel), by decide +kernel⟩
theorem qw_165 : Cond.code yX4_reckonDues prog_1_method_34_code 2 (Option.none : Option Jvm.ClassFile.FieldType) ∈ lw_G := List.mem_filter.mpr ⟨List.mem_of_getElem? (i := 165) (by decide +kernel), by decide +kernel⟩
theorem qw_166 : Cond.methodLink "SkyloadBureau" 41 yJx4a65c_size_8abf5 ∈ lw_G := List.mem_filter.mpr ⟨List.mem_of_getElem? (i := 166) (by decide +kernel), by decide +kernel⟩
theorem qw_167 : Cond.instanceMethod yJx4a65c_size_8abf5 ∈ lw_G := List.mem_filter.mpr ⟨List.mem_of_getElem? (i := 167) (by decide +kernel), by decide +kernel⟩
theorem qw_168 : Cond.selects "java/util/ArrayList" yJx4a65c_size_8abf5 yJx4a65c_size_8abf5 ∈ lw_G := List.mem_filter.mpr ⟨List.mem_of_getElem? (i := 168) (by decide +kernel), by decide +kernel⟩
theorem qw_169 : Cond.code yJx4a65c_size_8abf5 prog_22_method_8_code 1 (some FieldType.int) ∈ lw_G := List.mem_filter.mpr ⟨List.mem_of_getElem? (i := 169) (by decide +kernel), by decide +kernel⟩
theorem qw_170 : Cond.methodLink "SkyloadBureau" 116 yJx4a65c_get_915e3 ∈ lw_G := List.mem_filter.mpr ⟨List.mem_of_getElem? (i := 170) (by decide +kernel), by decide +kernel⟩
theorem qw_171 : Cond.instanceMethod yJx4a65c_get_915e3 ∈ lw_G := List.mem_filter.mpr ⟨List.mem_of_getElem? (i := 171) (by decide +kernel), by decide +kernel⟩
theorem qw_172 : Cond.selects "java/util/ArrayList" yJx4a65c_get_915e3 yJx4a65c_get_915e3 ∈ lw_G := List.mem_filter.mpr ⟨List.mem_of_getElem? (i := 172) (by decide +kernel), by decide +kernel⟩
theorem qw_173 : Cond.code yJx4a65c_get_915e3 prog_22_method_20_code 2 (some (FieldType.object "java/lang/Object")) ∈ lw_G := List.mem_filter.mpr ⟨List.mem_of_getElem? (i := 173) (by decide +kernel), by decide +kernel⟩
theorem qw_174 : Cond.methodLink "java/util/ArrayList" 118 yJ15_checkIndex_7cf53 ∈ lw_G := List.mem_filter.mpr ⟨List.mem_of_getElem? (i := 174) (by decide +kernel), by decide +kernel⟩
theorem qw_175 : Cond.static yJ15_checkIndex_7cf53 ∈ lw_G := List.mem_filter.mpr ⟨List.mem_of_getElem? (i := 175) (by decide +kernel), by decide +kernel⟩
theorem qw_176 : Cond.code yJ15_checkIndex_7cf53 prog_26_method_17_code 2 (some FieldType.int) ∈ lw_G := List.mem_filter.mpr ⟨List.mem_of_getElem? (i := 176) (by decide +kernel), by decide +kernel⟩
theorem qw_177 : Cond.methodLink "java/util/Objects" 105 yJ3_checkIndex_8e157 ∈ lw_G := List.mem_filter.mpr ⟨List.mem_of_getElem? (i := 177) (by decide +kernel), by decide +kernel⟩
theorem qw_178 : Cond.static yJ3_checkIndex_8e157 ∈ lw_G := List.mem_filter.mpr ⟨List.mem_of_getElem? (i := 178) (by decide +kernel), by decide +kernel⟩
theorem qw_179 : Cond.code yJ3_checkIndex_8e157 prog_30_method_11_code 3 (some FieldType.int) ∈ lw_G := List.mem_filter.mpr ⟨List.mem_of_getElem? (i := 179) (by decide +kernel), by decide +kernel⟩
theorem qw_180 : Cond.methodLink "java/util/ArrayList" 123 yJx4a65c_elementData_915e3 ∈ lw_G := List.mem_filter.mpr ⟨List.mem_of_getElem? (i := 180) (by decide +kernel), by decide +kernel⟩
theorem qw_181 : Cond.instanceMethod yJx4a65c_elementData_915e3 ∈ lw_G := List.mem_filter.mpr ⟨List.mem_of_getElem? (i := 181) (by decide +kernel), by decide +kernel⟩
theorem qw_182 : Cond.selects "java/util/ArrayList" yJx4a65c_elementData_915e3 yJx4a65c_elementData_915e3 ∈ lw_G := List.mem_filter.mpr ⟨List.mem_of_getElem? (i := 182) (by decide +kernel), by decide +kernel⟩
theorem qw_183 : Cond.code yJx4a65c_elementData_915e3 prog_22_method_18_code 2 (some (FieldType.object "java/lang/Object")) ∈ lw_G := List.mem_filter.mpr ⟨List.mem_of_getElem? (i := 183) (by decide +kernel), by decide +kernel⟩
theorem qw_184 : Cond.classLink "SkyloadBureau" 52 "SkyloadBureau$Flight" ∈ lw_G := List.mem_filter.mpr ⟨List.mem_of_getElem? (i := 184) (by decide +kernel), by decide +kernel⟩
theorem qw_185 : Cond.methodLink "SkyloadBureau" 270 yX1_forgetReckoned ∈ lw_G := List.mem_filter.mpr ⟨List.mem_of_getElem? (i := 185) (by decide +kernel), by decide +kernel⟩
theorem qw_186 : Cond.instanceMethod yX1_forgetReckoned ∈ lw_G := List.mem_filter.mpr ⟨List.mem_of_getElem? (i := 186) (by decide +kernel), by decide +kernel⟩
theorem qw_187 : Cond.selects "SkyloadBureau$Flight" yX1_forgetReckoned yX1_forgetReckoned ∈ lw_G := List.mem_filter.mpr ⟨List.mem_of_getElem? (i := 187) (by decide +kernel), by decide +kernel⟩
theorem qw_188 : Cond.code yX1_forgetReckoned prog_3_method_19_code 1 (Option.none : Option Jvm.ClassFile.FieldType) ∈ lw_G := List.mem_filter.mpr ⟨List.mem_of_getElem? (i := 188) (by decide +kernel), by decide +kernel⟩
theorem qw_189 : Cond.classLink "SkyloadBureau" 144 "SkyloadBureau$Regulation" ∈ lw_G := List.mem_filter.mpr ⟨List.mem_of_getElem? (i := 189) (by decide +kernel), by decide +kernel⟩
theorem qw_190 : Cond.methodLink "SkyloadBureau" 214 yX4_reckonPenalties ∈ lw_G := List.mem_filter.mpr ⟨List.mem_of_getElem? (i := 190) (by decide +kernel), by decide +kernel⟩
theorem qw_192 : Cond.instanceMethod yX4_reckonPenalties ∈ lw_G := List.mem_filter.mpr ⟨List.mem_of_getElem? (i := 192) (by decide +kernel), by decide +kernel⟩
theorem qw_193 : Cond.code yX4_reckonPenalties prog_1_method_35_code 4 (Option.none : Option Jvm.ClassFile.FieldType) ∈ lw_G := List.mem_filter.mpr ⟨List.mem_of_getElem? (i := 193) (by decide +kernel), by decide +kernel⟩
theorem qw_194 : Cond.methodLink "SkyloadBureau" 163 yX0_dealOut ∈ lw_G := List.mem_filter.mpr ⟨List.mem_of_getElem? (i := 194) (by decide +kernel), by decide +kernel⟩
theorem qw_195 : Cond.instanceMethod yX0_dealOut ∈ lw_G := List.mem_filter.mpr ⟨List.mem_of_getElem? (i := 195) (by decide +kernel), by decide +kernel⟩
theorem qw_196 : Cond.selects "SkyloadBureau$Dealing" yX0_dealOut yX0_dealOut ∈ lw_G := List.mem_filter.mpr ⟨List.mem_of_getElem? (i := 196) (by decide +kernel), by decide +kernel⟩
theorem qw_197 : Cond.code yX0_dealOut prog_2_method_2_code 4 (Option.none : Option Jvm.ClassFile.FieldType) ∈ lw_G := List.mem_filter.mpr ⟨List.mem_of_getElem? (i := 197) (by decide +kernel), by decide +kernel⟩
theorem qw_198 : Cond.methodLink "SkyloadBureau$Dealing" 31 yX0_lineUp ∈ lw_G := List.mem_filter.mpr ⟨List.mem_of_getElem? (i := 198) (by decide +kernel), by decide +kernel⟩
theorem qw_200 : Cond.instanceMethod yX0_lineUp ∈ lw_G := List.mem_filter.mpr ⟨List.mem_of_getElem? (i := 200) (by decide +kernel), by decide +kernel⟩
theorem qw_201 : Cond.code yX0_lineUp prog_2_method_3_code 6 (Option.none : Option Jvm.ClassFile.FieldType) ∈ lw_G := List.mem_filter.mpr ⟨List.mem_of_getElem? (i := 201) (by decide +kernel), by decide +kernel⟩
theorem qw_202 : Cond.methodLink "SkyloadBureau$Dealing" 42 yX2_clear ∈ lw_G := List.mem_filter.mpr ⟨List.mem_of_getElem? (i := 202) (by decide +kernel), by decide +kernel⟩
theorem qw_203 : Cond.instanceMethod yX2_clear ∈ lw_G := List.mem_filter.mpr ⟨List.mem_of_getElem? (i := 203) (by decide +kernel), by decide +kernel⟩
theorem qw_204 : Cond.selects "SkyloadBureau$Line" yX2_clear yX2_clear ∈ lw_G := List.mem_filter.mpr ⟨List.mem_of_getElem? (i := 204) (by decide +kernel), by decide +kernel⟩
theorem qw_205 : Cond.code yX2_clear prog_4_method_2_code 1 (Option.none : Option Jvm.ClassFile.FieldType) ∈ lw_G := List.mem_filter.mpr ⟨List.mem_of_getElem? (i := 205) (by decide +kernel), by decide +kernel⟩
theorem qw_206 : Cond.methodLink "SkyloadBureau$Dealing" 45 yX3_slotCount ∈ lw_G := List.mem_filter.mpr ⟨List.mem_of_getElem? (i := 206) (by decide +kernel), by decide +kernel⟩
theorem qw_207 : Cond.instanceMethod yX3_slotCount ∈ lw_G := List.mem_filter.mpr ⟨List.mem_of_getElem? (i := 207) (by decide +kernel), by decide +kernel⟩
theorem qw_208 : Cond.selects "SkyloadBureau$Regulation" yX3_slotCount yX3_slotCount ∈ lw_G := List.mem_filter.mpr ⟨List.mem_of_getElem? (i := 208) (by decide +kernel), by decide +kernel⟩
theorem qw_209 : Cond.code yX3_slotCount prog_5_method_3_code 1 (some FieldType.int) ∈ lw_G := List.mem_filter.mpr ⟨List.mem_of_getElem? (i := 209) (by decide +kernel), by decide +kernel⟩
theorem qw_210 : Cond.methodLink "SkyloadBureau$Dealing" 54 yJx4a65c_size_8abf5 ∈ lw_G := List.mem_filter.mpr ⟨List.mem_of_getElem? (i := 210) (by decide +kernel), by decide +kernel⟩
theorem qw_211 : Cond.methodLink "SkyloadBureau$Dealing" 59 yJx4a65c_get_915e3 ∈ lw_G := List.mem_filter.mpr ⟨List.mem_of_getElem? (i := 211) (by decide +kernel), by decide +kernel⟩
theorem qw_212 : Cond.classLink "SkyloadBureau$Dealing" 63 "SkyloadBureau$Flight" ∈ lw_G := List.mem_filter.mpr ⟨List.mem_of_getElem? (i := 212) (by decide +kernel), by decide +kernel⟩
theorem qw_213 : Cond.methodLink "SkyloadBureau$Dealing" 68 yX1_lineTime ∈ lw_G := List.mem_filter.mpr ⟨List.mem_of_getElem? (i := 213) (by decide +kernel), by decide +kernel⟩
theorem qw_214 : Cond.instanceMethod yX1_lineTime ∈ lw_G := List.mem_filter.mpr ⟨List.mem_of_getElem? (i := 214) (by decide +kernel), by decide +kernel⟩
theorem qw_215 : Cond.selects "SkyloadBureau$Flight" yX1_lineTime yX1_lineTime ∈ lw_G := List.mem_filter.mpr ⟨List.mem_of_getElem? (i := 215) (by decide +kernel), by decide +kernel⟩
theorem qw_216 : Cond.code yX1_lineTime prog_3_method_13_code 3 (some FieldType.int) ∈ lw_G := List.mem_filter.mpr ⟨List.mem_of_getElem? (i := 216) (by decide +kernel), by decide +kernel⟩
theorem qw_217 : Cond.methodLink "SkyloadBureau$Flight" 60 yX1_behindAt ∈ lw_G := List.mem_filter.mpr ⟨List.mem_of_getElem? (i := 217) (by decide +kernel), by decide +kernel⟩
theorem qw_218 : Cond.instanceMethod yX1_behindAt ∈ lw_G := List.mem_filter.mpr ⟨List.mem_of_getElem? (i := 218) (by decide +kernel), by decide +kernel⟩
theorem qw_219 : Cond.selects "SkyloadBureau$Flight" yX1_behindAt yX1_behindAt ∈ lw_G := List.mem_filter.mpr ⟨List.mem_of_getElem? (i := 219) (by decide +kernel), by decide +kernel⟩
theorem qw_220 : Cond.code yX1_behindAt prog_3_method_4_code 2 (some FieldType.int) ∈ lw_G := List.mem_filter.mpr ⟨List.mem_of_getElem? (i := 220) (by decide +kernel), by decide +kernel⟩
theorem qw_221 : Cond.methodLink "SkyloadBureau$Dealing" 72 yX3_holdsAt ∈ lw_G := List.mem_filter.mpr ⟨List.mem_of_getElem? (i := 221) (by decide +kernel), by decide +kernel⟩
theorem qw_222 : Cond.instanceMethod yX3_holdsAt ∈ lw_G := List.mem_filter.mpr ⟨List.mem_of_getElem? (i := 222) (by decide +kernel), by decide +kernel⟩
theorem qw_223 : Cond.selects "SkyloadBureau$Regulation" yX3_holdsAt yX3_holdsAt ∈ lw_G := List.mem_filter.mpr ⟨List.mem_of_getElem? (i := 223) (by decide +kernel), by decide +kernel⟩
theorem qw_224 : Cond.code yX3_holdsAt prog_5_method_2_code 2 (some FieldType.boolean) ∈ lw_G := List.mem_filter.mpr ⟨List.mem_of_getElem? (i := 224) (by decide +kernel), by decide +kernel⟩
theorem qw_225 : Cond.methodLink "SkyloadBureau$Dealing" 76 yX1_isFixed ∈ lw_G := List.mem_filter.mpr ⟨List.mem_of_getElem? (i := 225) (by decide +kernel), by decide +kernel⟩
theorem qw_226 : Cond.instanceMethod yX1_isFixed ∈ lw_G := List.mem_filter.mpr ⟨List.mem_of_getElem? (i := 226) (by decide +kernel), by decide +kernel⟩
theorem qw_227 : Cond.selects "SkyloadBureau$Flight" yX1_isFixed yX1_isFixed ∈ lw_G := List.mem_filter.mpr ⟨List.mem_of_getElem? (i := 227) (by decide +kernel), by decide +kernel⟩
theorem qw_228 : Cond.code yX1_isFixed prog_3_method_11_code 1 (some FieldType.boolean) ∈ lw_G := List.mem_filter.mpr ⟨List.mem_of_getElem? (i := 228) (by decide +kernel), by decide +kernel⟩
theorem qw_229 : Cond.methodLink "SkyloadBureau$Dealing" 80 yX2_add ∈ lw_G := List.mem_filter.mpr ⟨List.mem_of_getElem? (i := 229) (by decide +kernel), by decide +kernel⟩
theorem qw_230 : Cond.instanceMethod yX2_add ∈ lw_G := List.mem_filter.mpr ⟨List.mem_of_getElem? (i := 230) (by decide +kernel), by decide +kernel⟩
theorem qw_231 : Cond.selects "SkyloadBureau$Line" yX2_add yX2_add ∈ lw_G := List.mem_filter.mpr ⟨List.mem_of_getElem? (i := 231) (by decide +kernel), by decide +kernel⟩
theorem qw_232 : Cond.code yX2_add prog_4_method_3_code 4 (Option.none : Option Jvm.ClassFile.FieldType) ∈ lw_G := List.mem_filter.mpr ⟨List.mem_of_getElem? (i := 232) (by decide +kernel), by decide +kernel⟩
theorem qw_233 : Cond.methodLink "SkyloadBureau$Dealing" 84 yX1_isListed ∈ lw_G := List.mem_filter.mpr ⟨List.mem_of_getElem? (i := 233) (by decide +kernel), by decide +kernel⟩
theorem qw_234 : Cond.instanceMethod yX1_isListed ∈ lw_G := List.mem_filter.mpr ⟨List.mem_of_getElem? (i := 234) (by decide +kernel), by decide +kernel⟩
theorem qw_235 : Cond.selects "SkyloadBureau$Flight" yX1_isListed yX1_isListed ∈ lw_G := List.mem_filter.mpr ⟨List.mem_of_getElem? (i := 235) (by decide +kernel), by decide +kernel⟩
theorem qw_236 : Cond.code yX1_isListed prog_3_method_12_code 1 (some FieldType.boolean) ∈ lw_G := List.mem_filter.mpr ⟨List.mem_of_getElem? (i := 236) (by decide +kernel), by decide +kernel⟩
theorem qw_237 : Cond.methodLink "SkyloadBureau$Dealing" 35 yX0_serve ∈ lw_G := List.mem_filter.mpr ⟨List.mem_of_getElem? (i := 237) (by decide +kernel), by decide +kernel⟩
theorem qw_239 : Cond.instanceMethod yX0_serve ∈ lw_G := List.mem_filter.mpr ⟨List.mem_of_getElem? (i := 239) (by decide +kernel), by decide +kernel⟩
theorem qw_240 : Cond.code yX0_serve prog_2_method_4_code 7 (some FieldType.int) ∈ lw_G := List.mem_filter.mpr ⟨List.mem_of_getElem? (i := 240) (by decide +kernel), by decide +kernel⟩
theorem qw_241 : Cond.methodLink "SkyloadBureau$Dealing" 87 yX2_timeAt ∈ lw_G := List.mem_filter.mpr ⟨List.mem_of_getElem? (i := 241) (by decide +kernel), by decide +kernel⟩
theorem qw_242 : Cond.instanceMethod yX2_timeAt ∈ lw_G := List.mem_filter.mpr ⟨List.mem_of_getElem? (i := 242) (by decide +kernel), by decide +kernel⟩
theorem qw_243 : Cond.selects "SkyloadBureau$Line" yX2_timeAt yX2_timeAt ∈ lw_G := List.mem_filter.mpr ⟨List.mem_of_getElem? (i := 243) (by decide +kernel), by decide +kernel⟩
theorem qw_244 : Cond.code yX2_timeAt prog_4_method_5_code 2 (some FieldType.int) ∈ lw_G := List.mem_filter.mpr ⟨List.mem_of_getElem? (i := 244) (by decide +kernel), by decide +kernel⟩
theorem qw_245 : Cond.methodLink "SkyloadBureau$Line" 28 yX2_has ∈ lw_G := List.mem_filter.mpr ⟨List.mem_of_getElem? (i := 245) (by decide +kernel), by decide +kernel⟩
theorem qw_246 : Cond.instanceMethod yX2_has ∈ lw_G := List.mem_filter.mpr ⟨List.mem_of_getElem? (i := 246) (by decide +kernel), by decide +kernel⟩
theorem qw_247 : Cond.selects "SkyloadBureau$Line" yX2_has yX2_has ∈ lw_G := List.mem_filter.mpr ⟨List.mem_of_getElem? (i := 247) (by decide +kernel), by decide +kernel⟩
theorem qw_248 : Cond.code yX2_has prog_4_method_4_code 2 (some FieldType.boolean) ∈ lw_G := List.mem_filter.mpr ⟨List.mem_of_getElem? (i := 248) (by decide +kernel), by decide +kernel⟩
theorem qw_249 : Cond.methodLink "SkyloadBureau$Dealing" 90 yX3_slotEnd ∈ lw_G := List.mem_filter.mpr ⟨List.mem_of_getElem? (i := 249) (by decide +kernel), by decide +kernel⟩
theorem qw_250 : Cond.instanceMethod yX3_slotEnd ∈ lw_G := List.mem_filter.mpr ⟨List.mem_of_getElem? (i := 250) (by decide +kernel), by decide +kernel⟩
theorem qw_251 : Cond.selects "SkyloadBureau$Regulation" yX3_slotEnd yX3_slotEnd ∈ lw_G := List.mem_filter.mpr ⟨List.mem_of_getElem? (i := 251) (by decide +kernel), by decide +kernel⟩
theorem qw_252 : Cond.code yX3_slotEnd prog_5_method_5_code 2 (some FieldType.int) ∈ lw_G := List.mem_filter.mpr ⟨List.mem_of_getElem? (i := 252) (by decide +kernel), by decide +kernel⟩
theorem qw_253 : Cond.methodLink "SkyloadBureau$Regulation" 28 yX3_slotBegin ∈ lw_G := List.mem_filter.mpr ⟨List.mem_of_getElem? (i := 253) (by decide +kernel), by decide +kernel⟩
theorem qw_254 : Cond.instanceMethod yX3_slotBegin ∈ lw_G := List.mem_filter.mpr ⟨List.mem_of_getElem? (i := 254) (by decide +kernel), by decide +kernel⟩
theorem qw_255 : Cond.selects "SkyloadBureau$Regulation" yX3_slotBegin yX3_slotBegin ∈ lw_G := List.mem_filter.mpr ⟨List.mem_of_getElem? (i := 255) (by decide +kernel), by decide +kernel⟩
theorem qw_256 : Cond.code yX3_slotBegin prog_5_method_4_code 2 (some FieldType.int) ∈ lw_G := List.mem_filter.mpr ⟨List.mem_of_getElem? (i := 256) (by decide +kernel), by decide +kernel⟩
theorem qw_257 : Cond.methodLink "SkyloadBureau$Regulation" 32 yJ9_min_7cf53 ∈ lw_G := List.mem_filter.mpr ⟨List.mem_of_getElem? (i := 257) (by decide +kernel), by decide +kernel⟩
theorem qw_258 : Cond.static yJ9_min_7cf53 ∈ lw_G := List.mem_filter.mpr ⟨List.mem_of_getElem? (i := 258) (by decide +kernel), by decide +kernel⟩
theorem qw_259 : Cond.code yJ9_min_7cf53 prog_15_method_69_code 2 (some FieldType.int) ∈ lw_G := List.mem_filter.mpr ⟨List.mem_of_getElem? (i := 259) (by decide +kernel), by decide +kernel⟩
theorem qw_260 : Cond.methodLink "SkyloadBureau$Dealing" 93 yX2_hasGiven ∈ lw_G := List.mem_filter.mpr ⟨List.mem_of_getElem? (i := 260) (by decide +kernel), by decide +kernel⟩
theorem qw_261 : Cond.instanceMethod yX2_hasGiven ∈ lw_G := List.mem_filter.mpr ⟨List.mem_of_getElem? (i := 261) (by decide +kernel), by decide +kernel⟩
theorem qw_262 : Cond.selects "SkyloadBureau$Line" yX2_hasGiven yX2_hasGiven ∈ lw_G := List.mem_filter.mpr ⟨List.mem_of_getElem? (i := 262) (by decide +kernel), by decide +kernel⟩
theorem qw_263 : Cond.code yX2_hasGiven prog_4_method_7_code 3 (some FieldType.boolean) ∈ lw_G := List.mem_filter.mpr ⟨List.mem_of_getElem? (i := 263) (by decide +kernel), by decide +kernel⟩
theorem qw_264 : Cond.methodLink "SkyloadBureau$Dealing" 96 yX3_slotBegin ∈ lw_G := List.mem_filter.mpr ⟨List.mem_of_getElem? (i := 264) (by decide +kernel), by decide +kernel⟩
theorem qw_265 : Cond.methodLink "SkyloadBureau$Dealing" 99 yJ9_max_7cf53 ∈ lw_G := List.mem_filter.mpr ⟨List.mem_of_getElem? (i := 265) (by decide +kernel), by decide +kernel⟩
theorem qw_266 : Cond.static yJ9_max_7cf53 ∈ lw_G := List.mem_filter.mpr ⟨List.mem_of_getElem? (i := 266) (by decide +kernel), by decide +kernel⟩
theorem qw_267 : Cond.code yJ9_max_7cf53 prog_15_method_65_code 2 (some FieldType.int) ∈ lw_G := List.mem_filter.mpr ⟨List.mem_of_getElem? (i := 267) (by decide +kernel), by decide +kernel⟩
theorem qw_268 : Cond.methodLink "SkyloadBureau$Dealing" 105 yX2_give ∈ lw_G := List.mem_filter.mpr ⟨List.mem_of_getElem? (i := 268) (by decide +kernel), by decide +kernel⟩
theorem qw_269 : Cond.instanceMethod yX2_give ∈ lw_G := List.mem_filter.mpr ⟨List.mem_of_getElem? (i := 269) (by decide +kernel), by decide +kernel⟩
theorem qw_270 : Cond.selects "SkyloadBureau$Line" yX2_give yX2_give ∈ lw_G := List.mem_filter.mpr ⟨List.mem_of_getElem? (i := 270) (by decide +kernel), by decide +kernel⟩
theorem qw_271 : Cond.code yX2_give prog_4_method_6_code 4 (Option.none : Option Jvm.ClassFile.FieldType) ∈ lw_G := List.mem_filter.mpr ⟨List.mem_of_getElem? (i := 271) (by decide +kernel), by decide +kernel⟩
theorem qw_272 : Cond.methodLink "SkyloadBureau" 198 yX2_penaltyOf ∈ lw_G := List.mem_filter.mpr ⟨List.mem_of_getElem? (i := 272) (by decide +kernel), by decide +kernel⟩
theorem qw_273 : Cond.instanceMethod yX2_penaltyOf ∈ lw_G := List.mem_filter.mpr ⟨List.mem_of_getElem? (i := 273) (by decide +kernel), by decide +kernel⟩
theorem qw_274 : Cond.selects "SkyloadBureau$Line" yX2_penaltyOf yX2_penaltyOf ∈ lw_G := List.mem_filter.mpr ⟨List.mem_of_getElem? (i := 274) (by decide +kernel), by decide +kernel⟩
theorem qw_275 : Cond.code yX2_penaltyOf prog_4_method_9_code 3 (some FieldType.int) ∈ lw_G := List.mem_filter.mpr ⟨List.mem_of_getElem? (i := 275) (by decide +kernel), by decide +kernel⟩
theorem qw_276 : Cond.methodLink "SkyloadBureau$Line" 32 yX2_placeOf ∈ lw_G := List.mem_filter.mpr ⟨List.mem_of_getElem? (i := 276) (by decide +kernel), by decide +kernel⟩
theorem qw_277 : Cond.instanceMethod yX2_placeOf ∈ lw_G := List.mem_filter.mpr ⟨List.mem_of_getElem? (i := 277) (by decide +kernel), by decide +kernel⟩
theorem qw_278 : Cond.selects "SkyloadBureau$Line" yX2_placeOf yX2_placeOf ∈ lw_G := List.mem_filter.mpr ⟨List.mem_of_getElem? (i := 278) (by decide +kernel), by decide +kernel⟩
theorem qw_279 : Cond.code yX2_placeOf prog_4_method_8_code 3 (some FieldType.int) ∈ lw_G := List.mem_filter.mpr ⟨List.mem_of_getElem? (i := 279) (by decide +kernel), by decide +kernel⟩
theorem qw_280 : Cond.methodLink "SkyloadBureau" 273 yX1_reckon ∈ lw_G := List.mem_filter.mpr ⟨List.mem_of_getElem? (i := 280) (by decide +kernel), by decide +kernel⟩
theorem qw_281 : Cond.instanceMethod yX1_reckon ∈ lw_G := List.mem_filter.mpr ⟨List.mem_of_getElem? (i := 281) (by decide +kernel), by decide +kernel⟩
theorem qw_282 : Cond.selects "SkyloadBureau$Flight" yX1_reckon yX1_reckon ∈ lw_G := List.mem_filter.mpr ⟨List.mem_of_getElem? (i := 282) (by decide +kernel), by decide +kernel⟩
theorem qw_283 : Cond.code yX1_reckon prog_3_method_20_code 3 (Option.none : Option Jvm.ClassFile.FieldType) ∈ lw_G := List.mem_filter.mpr ⟨List.mem_of_getElem? (i := 283) (by decide +kernel), by decide +kernel⟩
theorem qw_284 : Cond.methodLink "SkyloadBureau" 211 yX4_sumOfDues ∈ lw_G := List.mem_filter.mpr ⟨List.mem_of_getElem? (i := 284) (by decide +kernel), by decide +kernel⟩
theorem qw_286 : Cond.instanceMethod yX4_sumOfDues ∈ lw_G := List.mem_filter.mpr ⟨List.mem_of_getElem? (i := 286) (by decide +kernel), by decide +kernel⟩
theorem qw_287 : Cond.code yX4_sumOfDues prog_1_method_36_code 3 (some FieldType.int) ∈ lw_G := List.mem_filter.mpr ⟨List.mem_of_getElem? (i := 287) (by decide +kernel), by decide +kernel⟩
theorem qw_288 : Cond.methodLink "SkyloadBureauLaw" 160 yX4_deal ∈ lw_G := List.mem_filter.mpr ⟨List.mem_of_getElem? (i := 288) (by decide +kernel), by decide +kernel⟩
theorem qw_289 : Cond.instanceMethod yX4_deal ∈ lw_G := List.mem_filter.mpr ⟨List.mem_of_getElem? (i := 289) (by decide +kernel), by decide +kernel⟩
theorem qw_290 : Cond.selects "SkyloadBureau" yX4_deal yX4_deal ∈ lw_G := List.mem_filter.mpr ⟨List.mem_of_getElem? (i := 290) (by decide +kernel), by decide +kernel⟩
theorem qw_291 : Cond.code yX4_deal prog_1_method_21_code 5 (some FieldType.int) ∈ lw_G := List.mem_filter.mpr ⟨List.mem_of_getElem? (i := 291) (by decide +kernel), by decide +kernel⟩
theorem qw_292 : Cond.methodLink "SkyloadBureau" 218 yX1_takeReckoned ∈ lw_G := List.mem_filter.mpr ⟨List.mem_of_getElem? (i := 292) (by decide +kernel), by decide +kernel⟩
theorem qw_293 : Cond.instanceMethod yX1_takeReckoned ∈ lw_G := List.mem_filter.mpr ⟨List.mem_of_getElem? (i := 293) (by decide +kernel), by decide +kernel⟩
theorem qw_294 : Cond.selects "SkyloadBureau$Flight" yX1_takeReckoned yX1_takeReckoned ∈ lw_G := List.mem_filter.mpr ⟨List.mem_of_getElem? (i := 294) (by decide +kernel), by decide +kernel⟩
theorem qw_295 : Cond.code yX1_takeReckoned prog_3_method_21_code 3 (Option.none : Option Jvm.ClassFile.FieldType) ∈ lw_G := List.mem_filter.mpr ⟨List.mem_of_getElem? (i := 295) (by decide +kernel), by decide +kernel⟩
theorem qw_296 : Cond.methodLink "SkyloadBureau$Flight" 87 yX1_isListed ∈ lw_G := List.mem_filter.mpr ⟨List.mem_of_getElem? (i := 296) (by decide +kernel), by decide +kernel⟩
theorem qw_297 : Cond.methodLink "SkyloadBureau$Flight" 90 yX1_loseSlotTime ∈ lw_G := List.mem_filter.mpr ⟨List.mem_of_getElem? (i := 297) (by decide +kernel), by decide +kernel⟩
theorem qw_298 : Cond.instanceMethod yX1_loseSlotTime ∈ lw_G := List.mem_filter.mpr ⟨List.mem_of_getElem? (i := 298) (by decide +kernel), by decide +kernel⟩
theorem qw_299 : Cond.selects "SkyloadBureau$Flight" yX1_loseSlotTime yX1_loseSlotTime ∈ lw_G := List.mem_filter.mpr ⟨List.mem_of_getElem? (i := 299) (by decide +kernel), by decide +kernel⟩
theorem qw_300 : Cond.code yX1_loseSlotTime prog_3_method_14_code 1 (Option.none : Option Jvm.ClassFile.FieldType) ∈ lw_G := List.mem_filter.mpr ⟨List.mem_of_getElem? (i := 300) (by decide +kernel), by decide +kernel⟩
theorem qw_301 : Cond.methodLink "SkyloadBureau" 222 yX1_delay ∈ lw_G := List.mem_filter.mpr ⟨List.mem_of_getElem? (i := 301) (by decide +kernel), by decide +kernel⟩
theorem qw_302 : Cond.instanceMethod yX1_delay ∈ lw_G := List.mem_filter.mpr ⟨List.mem_of_getElem? (i := 302) (by decide +kernel), by decide +kernel⟩
theorem qw_303 : Cond.selects "SkyloadBureau$Flight" yX1_delay yX1_delay ∈ lw_G := List.mem_filter.mpr ⟨List.mem_of_getElem? (i := 303) (by decide +kernel), by decide +kernel⟩
theorem qw_304 : Cond.code yX1_delay prog_3_method_15_code 1 (some FieldType.int) ∈ lw_G := List.mem_filter.mpr ⟨List.mem_of_getElem? (i := 304) (by decide +kernel), by decide +kernel⟩
theorem qw_305 : Cond.methodLink "SkyloadBureauLaw" 90 yL_flight ∈ lw_G := List.mem_filter.mpr ⟨List.mem_of_getElem? (i := 305) (by decide +kernel), by decide +kernel⟩
theorem qw_306 : Cond.static yL_flight ∈ lw_G := List.mem_filter.mpr ⟨List.mem_of_getElem? (i := 306) (by decide +kernel), by decide +kernel⟩
theorem qw_307 : Cond.codeWith yL_flight method_3_code 5 (some FieldType.int) [(0, 10, 13, 13), (0, 10, 17, 15), (0, 10, 21, 17)] ∈ lw_G := List.mem_filter.mpr ⟨List.mem_of_getElem? (i := 307) (by decide +kernel), by decide +kernel⟩
theorem qw_308 : Cond.classLink "SkyloadBureauLaw" 13 "java/lang/IndexOutOfBoundsException" ∈ lw_G := List.mem_filter.mpr ⟨List.mem_of_getElem? (i := 308) (by decide +kernel), by decide +kernel⟩
theorem qw_309 : Cond.classLink "SkyloadBureauLaw" 15 "java/lang/IllegalArgumentException" ∈ lw_G := List.mem_filter.mpr ⟨List.mem_of_getElem? (i := 309) (by decide +kernel), by decide +kernel⟩
theorem qw_310 : Cond.classLink "SkyloadBureauLaw" 17 "java/lang/IllegalStateException" ∈ lw_G := List.mem_filter.mpr ⟨List.mem_of_getElem? (i := 310) (by decide +kernel), by decide +kernel⟩
theorem qw_311 : Cond.methodLink "SkyloadBureauLaw" 7 yX4_flight ∈ lw_G := List.mem_filter.mpr ⟨List.mem_of_getElem? (i := 311) (by decide +kernel), by decide +kernel⟩
theorem qw_312 : Cond.instanceMethod yX4_flight ∈ lw_G := List.mem_filter.mpr ⟨List.mem_of_getElem? (i := 312) (by decide +kernel), by decide +kernel⟩
theorem qw_313 : Cond.selects "SkyloadBureau" yX4_flight yX4_flight ∈ lw_G := List.mem_filter.mpr ⟨List.mem_of_getElem? (i := 313) (by decide +kernel), by decide +kernel⟩
theorem qw_314 : Cond.code yX4_flight prog_1_method_2_code 3 (some FieldType.int) ∈ lw_G := List.mem_filter.mpr ⟨List.mem_of_getElem? (i := 314) (by decide +kernel), by decide +kernel⟩
theorem qw_315 : Cond.methodLink "SkyloadBureau" 33 yX4_checkCompany ∈ lw_G := List.mem_filter.mpr ⟨List.mem_of_getElem? (i := 315) (by decide +kernel), by decide +kernel⟩
theorem qw_316 : Cond.static yX4_checkCompany ∈ lw_G := List.mem_filter.mpr ⟨List.mem_of_getElem? (i := 316) (by decide +kernel), by decide +kernel⟩
theorem qw_317 : Cond.code yX4_checkCompany prog_1_method_28_code 1 (Option.none : Option Jvm.ClassFile.FieldType) ∈ lw_G := List.mem_filter.mpr ⟨List.mem_of_getElem? (i := 317) (by decide +kernel), by decide +kernel⟩
theorem qw_318 : Cond.classLink "SkyloadBureau" 188 "java/lang/IndexOutOfBoundsException" ∈ lw_G := List.mem_filter.mpr ⟨List.mem_of_getElem? (i := 318) (by decide +kernel), by decide +kernel⟩
theorem qw_319 : Cond.instantiable "java/lang/IndexOutOfBoundsException" 6 ∈ lw_G := List.mem_filter.mpr ⟨List.mem_of_getElem? (i := 319) (by decide +kernel), by decide +kernel⟩
theorem qw_327 : Cond.selects "java/lang/IndexOutOfBoundsException" (⟨"java/lang/Throwable", "fillInStackTrace", "(I)Ljava/lang/Throwable;"⟩ : MethodName) (⟨"java/lang/Throwable", "fillInStackTrace", "(I)Ljava/lang/Throwable;"⟩ : MethodName) ∈ lw_G := List.mem_filter.mpr ⟨List.mem_of_getElem? (i := 327) (by decide +kernel), by decide +kernel⟩
theorem qw_328 : Cond.selects "java/lang/IndexOutOfBoundsException" (⟨"java/lang/Throwable", "fillInStackTrace", "()Ljava/lang/Throwable;"⟩ : MethodName) (⟨"java/lang/Throwable", "fillInStackTrace", "()Ljava/lang/Throwable;"⟩ : MethodName) ∈ lw_G := List.mem_filter.mpr ⟨List.mem_of_getElem? (i := 328) (by decide +kernel), by decide +kernel⟩
theorem qw_329 : Cond.lays "java/lang/IndexOutOfBoundsException" "java/lang/Throwable" "cause" "Ljava/lang/Throwable;" ∈ lw_G := List.mem_filter.mpr ⟨List.mem_of_getElem? (i := 329) (by decide +kernel), by decide +kernel⟩
theorem qw_330 : Cond.lays "java/lang/Throwable" "java/lang/Throwable" "cause" "Ljava/lang/Throwable;" ∈ lw_G := List.mem_filter.mpr ⟨List.mem_of_getElem? (i := 330) (by decide +kernel), by decide +kernel⟩
theorem qw_331 : Cond.lays "java/lang/IndexOutOfBoundsException" "java/lang/Throwable" "stackTrace" "[Ljava/lang/StackTraceElement;" ∈ lw_G := List.mem_filter.mpr ⟨List.mem_of_getElem? (i := 331) (by decide +kernel), by decide +kernel⟩
theorem qw_332 : Cond.lays "java/lang/Throwable" "java/lang/Throwable" "stackTrace" "[Ljava/lang/StackTraceElement;" ∈ lw_G := List.mem_filter.mpr ⟨List.mem_of_getElem? (i := 332) (by decide +kernel), by decide +kernel⟩
theorem qw_333 : Cond.lays "java/lang/IndexOutOfBoundsException" "java/lang/Throwable" "suppressedExceptions" "Ljava/util/List;" ∈ lw_G := List.mem_filter.mpr ⟨List.mem_of_getElem? (i := 333) (by decide +kernel), by decide +kernel⟩
theorem qw_334 : Cond.lays "java/lang/Throwable" "java/lang/Throwable" "suppressedExceptions" "Ljava/util/List;" ∈ lw_G := List.mem_filter.mpr ⟨List.mem_of_getElem? (i := 334) (by decide +kernel), by decide +kernel⟩
theorem qw_335 : Cond.lays "java/lang/IndexOutOfBoundsException" "java/lang/Throwable" "detailMessage" "Ljava/lang/String;" ∈ lw_G := List.mem_filter.mpr ⟨List.mem_of_getElem? (i := 335) (by decide +kernel), by decide +kernel⟩
theorem qw_336 : Cond.lays "java/lang/Throwable" "java/lang/Throwable" "detailMessage" "Ljava/lang/String;" ∈ lw_G := List.mem_filter.mpr ⟨List.mem_of_getElem? (i := 336) (by decide +kernel), by decide +kernel⟩
theorem qw_337 : Cond.lays "java/lang/IndexOutOfBoundsException" "java/lang/Throwable" "backtrace" "Ljava/lang/Object;" ∈ lw_G := List.mem_filter.mpr ⟨List.mem_of_getElem? (i := 337) (by decide +kernel), by decide +kernel⟩
theorem qw_338 : Cond.lays "java/lang/Throwable" "java/lang/Throwable" "backtrace" "Ljava/lang/Object;" ∈ lw_G := List.mem_filter.mpr ⟨List.mem_of_getElem? (i := 338) (by decide +kernel), by decide +kernel⟩
theorem qw_339 : Cond.fieldLink "java/lang/Throwable" 198 "java/lang/Throwable" "backtrace" "Ljava/lang/Object;" ∈ lw_G := List.mem_filter.mpr ⟨List.mem_of_getElem? (i := 339) (by decide +kernel), by decide +kernel⟩
theorem qw_340 : Cond.superclass "java/lang/Throwable" "java/lang/Object" ∈ lw_G := List.mem_filter.mpr ⟨List.mem_of_getElem? (i := 340) (by decide +kernel), by decide +kernel⟩
theorem qw_341 : Cond.instanceMethod (⟨"java/lang/Throwable", "<init>", "()V"⟩ : MethodName) ∈ lw_G := List.mem_filter.mpr ⟨List.mem_of_getElem? (i := 341) (by decide +kernel), by decide +kernel⟩
theorem qw_342 : Cond.code (⟨"java/lang/Throwable", "<init>", "()V"⟩ : MethodName) prog_19_method_1_code 1 (Option.none : Option Jvm.ClassFile.FieldType) ∈ lw_G := List.mem_filter.mpr ⟨List.mem_of_getElem? (i := 342) (by decide +kernel), by decide +kernel⟩
theorem qw_343 : Cond.methodLink "java/lang/Throwable" 1 (⟨"java/lang/Object", "<init>", "()V"⟩ : MethodName) ∈ lw_G := List.mem_filter.mpr ⟨List.mem_of_getElem? (i := 343) (by decide +kernel), by decide +kernel⟩
theorem qw_344 : Cond.fieldLink "java/lang/Throwable" 13 "java/lang/Throwable" "UNASSIGNED_STACK" "[Ljava/lang/StackTraceElement;" ∈ lw_G := List.mem_filter.mpr ⟨List.mem_of_getElem? (i := 344) (by decide +kernel), by decide +kernel⟩
theorem qw_346 : Cond.fieldLink "java/lang/Throwable" 20 "java/lang/Throwable" "SUPPRESSED_SENTINEL" "Ljava/util/List;" ∈ lw_G := List.mem_filter.mpr ⟨List.mem_of_getElem? (i := 346) (by decide +kernel), by decide +kernel⟩
theorem qw_348 : Cond.methodLink "java/lang/Throwable" 27 (⟨"java/lang/Throwable", "fillInStackTrace", "()Ljava/lang/Throwable;"⟩ : MethodName) ∈ lw_G := List.mem_filter.mpr ⟨List.mem_of_getElem? (i := 348) (by decide +kernel), by decide +kernel⟩
theorem qw_349 : Cond.instanceMethod (⟨"java/lang/Throwable", "fillInStackTrace", "()Ljava/lang/Throwable;"⟩ : MethodName) ∈ lw_G := List.mem_filter.mpr ⟨List.mem_of_getElem? (i := 349) (by decide +kernel), by decide +kernel⟩
theorem qw_350 : Cond.sameMethod "java/lang/Throwable" "java/lang/Throwable" "fillInStackTrace" "()Ljava/lang/Throwable;" ∈ lw_G := List.mem_filter.mpr ⟨List.mem_of_getElem? (i := 350) (by decide +kernel), by decide +kernel⟩
theorem qw_351 : Cond.selects "java/lang/IllegalArgumentException" (⟨"java/lang/Throwable", "fillInStackTrace", "()Ljava/lang/Throwable;"⟩ : MethodName) (⟨"java/lang/Throwable", "fillInStackTrace", "()Ljava/lang/Throwable;"⟩ : MethodName) ∈ lw_G := List.mem_filter.mpr ⟨List.mem_of_getElem? (i := 351) (by decide +kernel), by decide +kernel⟩
theorem qw_352 : Cond.selects "java/lang/IllegalStateException" (⟨"java/lang/Throwable", "fillInStackTrace", "()Ljava/lang/Throwable;"⟩ : MethodName) (⟨"java/lang/Throwable", "fillInStackTrace", "()Ljava/lang/Throwable;"⟩ : MethodName) ∈ lw_G := List.mem_filter.mpr ⟨List.mem_of_getElem? (i := 352) (by decide +kernel), by decide +kernel⟩
theorem qw_353 : Cond.codeSync (⟨"java/lang/Throwable", "fillInStackTrace", "()Ljava/lang/Throwable;"⟩ : MethodName) prog_19_method_18_code 1 (some (FieldType.object "java/lang/Throwable")) ∈ lw_G := List.mem_filter.mpr ⟨List.mem_of_getElem? (i := 353) (by decide +kernel), by decide +kernel⟩
theorem qw_354 : Cond.methodLink "java/lang/Throwable" 202 (⟨"java/lang/Throwable", "fillInStackTrace", "(I)Ljava/lang/Throwable;"⟩ : MethodName) ∈ lw_G := List.mem_filter.mpr ⟨List.mem_of_getElem? (i := 354) (by decide +kernel), by decide +kernel⟩
theorem qw_356 : Cond.instanceMethod (⟨"java/lang/Throwable", "fillInStackTrace", "(I)Ljava/lang/Throwable;"⟩ : MethodName) ∈ lw_G := List.mem_filter.mpr ⟨List.mem_of_getElem? (i := 356) (by decide +kernel), by decide +kernel⟩
theorem qw_357 : Cond.instantiable "java/lang/Throwable" 6 ∈ lw_G := List.mem_filter.mpr ⟨List.mem_of_getElem? (i := 357) (by decide +kernel), by decide +kernel⟩
theorem qw_358 : Cond.native (⟨"java/lang/Throwable", "fillInStackTrace", "(I)Ljava/lang/Throwable;"⟩ : MethodName) ∈ lw_G := List.mem_filter.mpr ⟨List.mem_of_getElem? (i := 358) (by decide +kernel), by decide +kernel⟩
theorem qw_360 : Cond.methodLink "SkyloadBureau" 192 (⟨"java/lang/IndexOutOfBoundsException", "<init>", "(Ljava/lang/String;)V"⟩ : MethodName) ∈ lw_G := List.mem_filter.mpr ⟨List.mem_of_getElem? (i := 360) (by decide +kernel), by decide +kernel⟩
theorem qw_361 : Cond.instanceMethod (⟨"java/lang/IndexOutOfBoundsException", "<init>", "(Ljava/lang/String;)V"⟩ : MethodName) ∈ lw_G := List.mem_filter.mpr ⟨List.mem_of_getElem? (i := 361) (by decide +kernel), by decide +kernel⟩
theorem qw_362 : Cond.code (⟨"java/lang/IndexOutOfBoundsException", "<init>", "(Ljava/lang/String;)V"⟩ : MethodName) prog_13_method_2_code 2 (Option.none : Option Jvm.ClassFile.FieldType) ∈ lw_G := List.mem_filter.mpr ⟨List.mem_of_getElem? (i := 362) (by decide +kernel), by decide +kernel⟩
theorem qw_363 : Cond.methodLink "java/lang/IndexOutOfBoundsException" 7 (⟨"java/lang/RuntimeException", "<init>", "(Ljava/lang/String;)V"⟩ : MethodName) ∈ lw_G := List.mem_filter.mpr ⟨List.mem_of_getElem? (i := 363) (by decide +kernel), by decide +kernel⟩
theorem qw_364 : Cond.instanceMethod (⟨"java/lang/RuntimeException", "<init>", "(Ljava/lang/String;)V"⟩ : MethodName) ∈ lw_G := List.mem_filter.mpr ⟨List.mem_of_getElem? (i := 364) (by decide +kernel), by decide +kernel⟩
theorem qw_365 : Cond.code (⟨"java/lang/RuntimeException", "<init>", "(Ljava/lang/String;)V"⟩ : MethodName) prog_16_method_2_code 2 (Option.none : Option Jvm.ClassFile.FieldType) ∈ lw_G := List.mem_filter.mpr ⟨List.mem_of_getElem? (i := 365) (by decide +kernel), by decide +kernel⟩
theorem qw_366 : Cond.methodLink "java/lang/RuntimeException" 7 (⟨"java/lang/Exception", "<init>", "(Ljava/lang/String;)V"⟩ : MethodName) ∈ lw_G := List.mem_filter.mpr ⟨List.mem_of_getElem? (i := 366) (by decide +kernel), by decide +kernel⟩
theorem qw_367 : Cond.instanceMethod (⟨"java/lang/Exception", "<init>", "(Ljava/lang/String;)V"⟩ : MethodName) ∈ lw_G := List.mem_filter.mpr ⟨List.mem_of_getElem? (i := 367) (by decide +kernel), by decide +kernel⟩
theorem qw_368 : Cond.code (⟨"java/lang/Exception", "<init>", "(Ljava/lang/String;)V"⟩ : MethodName) prog_10_method_2_code 2 (Option.none : Option Jvm.ClassFile.FieldType) ∈ lw_G := List.mem_filter.mpr ⟨List.mem_of_getElem? (i := 368) (by decide +kernel), by decide +kernel⟩
theorem qw_369 : Cond.methodLink "java/lang/Exception" 7 (⟨"java/lang/Throwable", "<init>", "(Ljava/lang/String;)V"⟩ : MethodName) ∈ lw_G := List.mem_filter.mpr ⟨List.mem_of_getElem? (i := 369) (by decide +kernel), by decide +kernel⟩
theorem qw_370 : Cond.instanceMethod (⟨"java/lang/Throwable", "<init>", "(Ljava/lang/String;)V"⟩ : MethodName) ∈ lw_G := List.mem_filter.mpr ⟨List.mem_of_getElem? (i := 370) (by decide +kernel), by decide +kernel⟩
theorem qw_371 : Cond.code (⟨"java/lang/Throwable", "<init>", "(Ljava/lang/String;)V"⟩ : MethodName) prog_19_method_2_code 2 (Option.none : Option Jvm.ClassFile.FieldType) ∈ lw_G := List.mem_filter.mpr ⟨List.mem_of_getElem? (i := 371) (by decide +kernel), by decide +kernel⟩
theorem qw_373 : Cond.fieldLink "java/lang/Throwable" 31 "java/lang/Throwable" "detailMessage" "Ljava/lang/String;" ∈ lw_G := List.mem_filter.mpr ⟨List.mem_of_getElem? (i := 373) (by decide +kernel), by decide +kernel⟩
theorem qw_374 : Cond.fieldLink "java/lang/Throwable" 7 "java/lang/Throwable" "cause" "Ljava/lang/Throwable;" ∈ lw_G := List.mem_filter.mpr ⟨List.mem_of_getElem? (i := 374) (by decide +kernel), by decide +kernel⟩
theorem qw_375 : Cond.fieldLink "java/lang/Throwable" 17 "java/lang/Throwable" "stackTrace" "[Ljava/lang/StackTraceElement;" ∈ lw_G := List.mem_filter.mpr ⟨List.mem_of_getElem? (i := 375) (by decide +kernel), by decide +kernel⟩
theorem qw_376 : Cond.fieldLink "java/lang/Throwable" 24 "java/lang/Throwable" "suppressedExceptions" "Ljava/util/List;" ∈ lw_G := List.mem_filter.mpr ⟨List.mem_of_getElem? (i := 376) (by decide +kernel), by decide +kernel⟩
theorem qw_381 : Cond.lays "java/lang/IndexOutOfBoundsException" "java/lang/Throwable" "depth" "I" ∈ lw_G := List.mem_filter.mpr ⟨List.mem_of_getElem? (i := 381) (by decide +kernel), by decide +kernel⟩
theorem qw_384 : Cond.superclass "java/lang/IndexOutOfBoundsException" "java/lang/RuntimeException" ∈ lw_G := List.mem_filter.mpr ⟨List.mem_of_getElem? (i := 384) (by decide +kernel), by decide +kernel⟩
theorem qw_385 : Cond.arrayClass FieldType.byte ∈ lw_G := List.mem_filter.mpr ⟨List.mem_of_getElem? (i := 385) (by decide +kernel), by decide +kernel⟩
theorem qw_386 : Cond.methodLink "SkyloadBureau" 37 yX4_checkRange ∈ lw_G := List.mem_filter.mpr ⟨List.mem_of_getElem? (i := 386) (by decide +kernel), by decide +kernel⟩
theorem qw_387 : Cond.static yX4_checkRange ∈ lw_G := List.mem_filter.mpr ⟨List.mem_of_getElem? (i := 387) (by decide +kernel), by decide +kernel⟩
theorem qw_388 : Cond.code yX4_checkRange prog_1_method_29_code 3 (Option.none : Option Jvm.ClassFile.FieldType) ∈ lw_G := List.mem_filter.mpr ⟨List.mem_of_getElem? (i := 388) (by decide +kernel), by decide +kernel⟩
theorem qw_389 : Cond.classLink "SkyloadBureau" 225 "java/lang/IllegalArgumentException" ∈ lw_G := List.mem_filter.mpr ⟨List.mem_of_getElem? (i := 389) (by decide +kernel), by decide +kernel⟩
theorem qw_390 : Cond.instantiable "java/lang/IllegalArgumentException" 6 ∈ lw_G := List.mem_filter.mpr ⟨List.mem_of_getElem? (i := 390) (by decide +kernel), by decide +kernel⟩
theorem qw_392 : Cond.selects "java/lang/IllegalArgumentException" (⟨"java/lang/Throwable", "fillInStackTrace", "(I)Ljava/lang/Throwable;"⟩ : MethodName) (⟨"java/lang/Throwable", "fillInStackTrace", "(I)Ljava/lang/Throwable;"⟩ : MethodName) ∈ lw_G := List.mem_filter.mpr ⟨List.mem_of_getElem? (i := 392) (by decide +kernel), by decide +kernel⟩
theorem qw_393 : Cond.lays "java/lang/IllegalArgumentException" "java/lang/Throwable" "cause" "Ljava/lang/Throwable;" ∈ lw_G := List.mem_filter.mpr ⟨List.mem_of_getElem? (i := 393) (by decide +kernel), by decide +kernel⟩
theorem qw_394 : Cond.lays "java/lang/IllegalArgumentException" "java/lang/Throwable" "stackTrace" "[Ljava/lang/StackTraceElement;" ∈ lw_G := List.mem_filter.mpr ⟨List.mem_of_getElem? (i := 394) (by decide +kernel), by decide +kernel⟩
theorem qw_395 : Cond.lays "java/lang/IllegalArgumentException" "java/lang/Throwable" "suppressedExceptions" "Ljava/util/List;" ∈ lw_G := List.mem_filter.mpr ⟨List.mem_of_getElem? (i := 395) (by decide +kernel), by decide +kernel⟩
theorem qw_396 : Cond.lays "java/lang/IllegalArgumentException" "java/lang/Throwable" "detailMessage" "Ljava/lang/String;" ∈ lw_G := List.mem_filter.mpr ⟨List.mem_of_getElem? (i := 396) (by decide +kernel), by decide +kernel⟩
theorem qw_397 : Cond.lays "java/lang/IllegalArgumentException" "java/lang/Throwable" "backtrace" "Ljava/lang/Object;" ∈ lw_G := List.mem_filter.mpr ⟨List.mem_of_getElem? (i := 397) (by decide +kernel), by decide +kernel⟩
theorem qw_399 : Cond.methodLink "SkyloadBureau" 229 (⟨"java/lang/IllegalArgumentException", "<init>", "(Ljava/lang/String;)V"⟩ : MethodName) ∈ lw_G := List.mem_filter.mpr ⟨List.mem_of_getElem? (i := 399) (by decide +kernel), by decide +kernel⟩
theorem qw_400 : Cond.instanceMethod (⟨"java/lang/IllegalArgumentException", "<init>", "(Ljava/lang/String;)V"⟩ : MethodName) ∈ lw_G := List.mem_filter.mpr ⟨List.mem_of_getElem? (i := 400) (by decide +kernel), by decide +kernel⟩
theorem qw_401 : Cond.code (⟨"java/lang/IllegalArgumentException", "<init>", "(Ljava/lang/String;)V"⟩ : MethodName) prog_11_method_2_code 2 (Option.none : Option Jvm.ClassFile.FieldType) ∈ lw_G := List.mem_filter.mpr ⟨List.mem_of_getElem? (i := 401) (by decide +kernel), by decide +kernel⟩
theorem qw_402 : Cond.methodLink "java/lang/IllegalArgumentException" 7 (⟨"java/lang/RuntimeException", "<init>", "(Ljava/lang/String;)V"⟩ : MethodName) ∈ lw_G := List.mem_filter.mpr ⟨List.mem_of_getElem? (i := 402) (by decide +kernel), by decide +kernel⟩
theorem qw_403 : Cond.lays "java/lang/IllegalArgumentException" "java/lang/Throwable" "depth" "I" ∈ lw_G := List.mem_filter.mpr ⟨List.mem_of_getElem? (i := 403) (by decide +kernel), by decide +kernel⟩
theorem qw_404 : Cond.superclass "java/lang/IllegalArgumentException" "java/lang/RuntimeException" ∈ lw_G := List.mem_filter.mpr ⟨List.mem_of_getElem? (i := 404) (by decide +kernel), by decide +kernel⟩
theorem qw_405 : Cond.classLink "SkyloadBureau" 45 "java/lang/IllegalStateException" ∈ lw_G := List.mem_filter.mpr ⟨List.mem_of_getElem? (i := 405) (by decide +kernel), by decide +kernel⟩
theorem qw_406 : Cond.instantiable "java/lang/IllegalStateException" 6 ∈ lw_G := List.mem_filter.mpr ⟨List.mem_of_getElem? (i := 406) (by decide +kernel), by decide +kernel⟩
theorem qw_408 : Cond.selects "java/lang/IllegalStateException" (⟨"java/lang/Throwable", "fillInStackTrace", "(I)Ljava/lang/Throwable;"⟩ : MethodName) (⟨"java/lang/Throwable", "fillInStackTrace", "(I)Ljava/lang/Throwable;"⟩ : MethodName) ∈ lw_G := List.mem_filter.mpr ⟨List.mem_of_getElem? (i := 408) (by decide +kernel), by decide +kernel⟩
theorem qw_409 : Cond.lays "java/lang/IllegalStateException" "java/lang/Throwable" "cause" "Ljava/lang/Throwable;" ∈ lw_G := List.mem_filter.mpr ⟨List.mem_of_getElem? (i := 409) (by decide +kernel), by decide +kernel⟩
theorem qw_410 : Cond.lays "java/lang/IllegalStateException" "java/lang/Throwable" "stackTrace" "[Ljava/lang/StackTraceElement;" ∈ lw_G := List.mem_filter.mpr ⟨List.mem_of_getElem? (i := 410) (by decide +kernel), by decide +kernel⟩
theorem qw_411 : Cond.lays "java/lang/IllegalStateException" "java/lang/Throwable" "suppressedExceptions" "Ljava/util/List;" ∈ lw_G := List.mem_filter.mpr ⟨List.mem_of_getElem? (i := 411) (by decide +kernel), by decide +kernel⟩
theorem qw_412 : Cond.lays "java/lang/IllegalStateException" "java/lang/Throwable" "detailMessage" "Ljava/lang/String;" ∈ lw_G := List.mem_filter.mpr ⟨List.mem_of_getElem? (i := 412) (by decide +kernel), by decide +kernel⟩
theorem qw_413 : Cond.lays "java/lang/IllegalStateException" "java/lang/Throwable" "backtrace" "Ljava/lang/Object;" ∈ lw_G := List.mem_filter.mpr ⟨List.mem_of_getElem? (i := 413) (by decide +kernel), by decide +kernel⟩
theorem qw_415 : Cond.methodLink "SkyloadBureau" 49 (⟨"java/lang/IllegalStateException", "<init>", "(Ljava/lang/String;)V"⟩ : MethodName) ∈ lw_G := List.mem_filter.mpr ⟨List.mem_of_getElem? (i := 415) (by decide +kernel), by decide +kernel⟩
theorem qw_416 : Cond.instanceMethod (⟨"java/lang/IllegalStateException", "<init>", "(Ljava/lang/String;)V"⟩ : MethodName) ∈ lw_G := List.mem_filter.mpr ⟨List.mem_of_getElem? (i := 416) (by decide +kernel), by decide +kernel⟩
theorem qw_417 : Cond.code (⟨"java/lang/IllegalStateException", "<init>", "(Ljava/lang/String;)V"⟩ : MethodName) prog_12_method_2_code 2 (Option.none : Option Jvm.ClassFile.FieldType) ∈ lw_G := List.mem_filter.mpr ⟨List.mem_of_getElem? (i := 417) (by decide +kernel), by decide +kernel⟩
theorem qw_418 : Cond.methodLink "java/lang/IllegalStateException" 7 (⟨"java/lang/RuntimeException", "<init>", "(Ljava/lang/String;)V"⟩ : MethodName) ∈ lw_G := List.mem_filter.mpr ⟨List.mem_of_getElem? (i := 418) (by decide +kernel), by decide +kernel⟩
theorem qw_419 : Cond.lays "java/lang/IllegalStateException" "java/lang/Throwable" "depth" "I" ∈ lw_G := List.mem_filter.mpr ⟨List.mem_of_getElem? (i := 419) (by decide +kernel), by decide +kernel⟩
theorem qw_420 : Cond.superclass "java/lang/IllegalStateException" "java/lang/RuntimeException" ∈ lw_G := List.mem_filter.mpr ⟨List.mem_of_getElem? (i := 420) (by decide +kernel), by decide +kernel⟩
theorem qw_421 : Cond.instantiable "SkyloadBureau$Flight" 14 ∈ lw_G := List.mem_filter.mpr ⟨List.mem_of_getElem? (i := 421) (by decide +kernel), by decide +kernel⟩
theorem qw_422 : Cond.methodLink "SkyloadBureau" 54 yX1_init ∈ lw_G := List.mem_filter.mpr ⟨List.mem_of_getElem? (i := 422) (by decide +kernel), by decide +kernel⟩
theorem qw_423 : Cond.instanceMethod yX1_init ∈ lw_G := List.mem_filter.mpr ⟨List.mem_of_getElem? (i := 423) (by decide +kernel), by decide +kernel⟩
theorem qw_424 : Cond.code yX1_init prog_3_method_1_code 4 (Option.none : Option Jvm.ClassFile.FieldType) ∈ lw_G := List.mem_filter.mpr ⟨List.mem_of_getElem? (i := 424) (by decide +kernel), by decide +kernel⟩
theorem qw_425 : Cond.methodLink "SkyloadBureau$Flight" 3 (⟨"java/lang/Object", "<init>", "()V"⟩ : MethodName) ∈ lw_G := List.mem_filter.mpr ⟨List.mem_of_getElem? (i := 425) (by decide +kernel), by decide +kernel⟩
theorem qw_426 : Cond.fieldLink "SkyloadBureau$Flight" 50 "SkyloadBureau$Flight" "company" "I" ∈ lw_G := List.mem_filter.mpr ⟨List.mem_of_getElem? (i := 426) (by decide +kernel), by decide +kernel⟩
theorem qw_427 : Cond.fieldLink "SkyloadBureau" 247 "SkyloadBureau$Flight" "company" "I" ∈ lw_G := List.mem_filter.mpr ⟨List.mem_of_getElem? (i := 427) (by decide +kernel), by decide +kernel⟩
theorem qw_428 : Cond.fieldLink "SkyloadBureau$Flight" 53 "SkyloadBureau$Flight" "planned" "I" ∈ lw_G := List.mem_filter.mpr ⟨List.mem_of_getElem? (i := 428) (by decide +kernel), by decide +kernel⟩
theorem qw_429 : Cond.fieldLink "SkyloadBureau" 93 "SkyloadBureau$Flight" "planned" "I" ∈ lw_G := List.mem_filter.mpr ⟨List.mem_of_getElem? (i := 429) (by decide +kernel), by decide +kernel⟩
theorem qw_430 : Cond.fieldLink "SkyloadBureau$Flight" 9 "SkyloadBureau$Flight" "state" "I" ∈ lw_G := List.mem_filter.mpr ⟨List.mem_of_getElem? (i := 430) (by decide +kernel), by decide +kernel⟩
theorem qw_431 : Cond.fieldLink "SkyloadBureau" 81 "SkyloadBureau$Flight" "state" "I" ∈ lw_G := List.mem_filter.mpr ⟨List.mem_of_getElem? (i := 431) (by decide +kernel), by decide +kernel⟩
theorem qw_432 : Cond.fieldLink "SkyloadBureau$Flight" 15 "SkyloadBureau$Flight" "isExempt" "Z" ∈ lw_G := List.mem_filter.mpr ⟨List.mem_of_getElem? (i := 432) (by decide +kernel), by decide +kernel⟩
theorem qw_433 : Cond.fieldLink "SkyloadBureau" 86 "SkyloadBureau$Flight" "isExempt" "Z" ∈ lw_G := List.mem_filter.mpr ⟨List.mem_of_getElem? (i := 433) (by decide +kernel), by decide +kernel⟩
theorem qw_434 : Cond.fieldLink "SkyloadBureau$Flight" 19 "SkyloadBureau$Flight" "slotTime" "I" ∈ lw_G := List.mem_filter.mpr ⟨List.mem_of_getElem? (i := 434) (by decide +kernel), by decide +kernel⟩
theorem qw_435 : Cond.fieldLink "SkyloadBureau" 96 "SkyloadBureau$Flight" "slotTime" "I" ∈ lw_G := List.mem_filter.mpr ⟨List.mem_of_getElem? (i := 435) (by decide +kernel), by decide +kernel⟩
theorem qw_436 : Cond.fieldLink "SkyloadBureau$Flight" 22 "SkyloadBureau$Flight" "ruling" "I" ∈ lw_G := List.mem_filter.mpr ⟨List.mem_of_getElem? (i := 436) (by decide +kernel), by decide +kernel⟩
theorem qw_437 : Cond.fieldLink "SkyloadBureau" 99 "SkyloadBureau$Flight" "ruling" "I" ∈ lw_G := List.mem_filter.mpr ⟨List.mem_of_getElem? (i := 437) (by decide +kernel), by decide +kernel⟩
theorem qw_438 : Cond.fieldLink "SkyloadBureau$Flight" 25 "SkyloadBureau$Flight" "wentAt" "I" ∈ lw_G := List.mem_filter.mpr ⟨List.mem_of_getElem? (i := 438) (by decide +kernel), by decide +kernel⟩
theorem qw_439 : Cond.fieldLink "SkyloadBureau$Flight" 28 "SkyloadBureau$Flight" "latestMessage" "I" ∈ lw_G := List.mem_filter.mpr ⟨List.mem_of_getElem? (i := 439) (by decide +kernel), by decide +kernel⟩
theorem qw_440 : Cond.fieldLink "SkyloadBureau" 105 "SkyloadBureau$Flight" "latestMessage" "I" ∈ lw_G := List.mem_filter.mpr ⟨List.mem_of_getElem? (i := 440) (by decide +kernel), by decide +kernel⟩
theorem qw_441 : Cond.fieldLink "SkyloadBureau$Flight" 31 "SkyloadBureau$Flight" "entryCount" "I" ∈ lw_G := List.mem_filter.mpr ⟨List.mem_of_getElem? (i := 441) (by decide +kernel), by decide +kernel⟩
theorem qw_442 : Cond.fieldLink "SkyloadBureau" 77 "SkyloadBureau$Flight" "entryCount" "I" ∈ lw_G := List.mem_filter.mpr ⟨List.mem_of_getElem? (i := 442) (by decide +kernel), by decide +kernel⟩
theorem qw_443 : Cond.fieldLink "SkyloadBureau$Flight" 34 "SkyloadBureau$Flight" "latestBehind" "I" ∈ lw_G := List.mem_filter.mpr ⟨List.mem_of_getElem? (i := 443) (by decide +kernel), by decide +kernel⟩
theorem qw_444 : Cond.fieldLink "SkyloadBureau$Flight" 37 "SkyloadBureau$Flight" "behinds" "[I" ∈ lw_G := List.mem_filter.mpr ⟨List.mem_of_getElem? (i := 444) (by decide +kernel), by decide +kernel⟩
theorem qw_445 : Cond.fieldLink "SkyloadBureau$Flight" 41 "SkyloadBureau$Flight" "stays" "[I" ∈ lw_G := List.mem_filter.mpr ⟨List.mem_of_getElem? (i := 445) (by decide +kernel), by decide +kernel⟩
theorem qw_446 : Cond.fieldLink "SkyloadBureau$Flight" 44 "SkyloadBureau$Flight" "reckonedDue" "I" ∈ lw_G := List.mem_filter.mpr ⟨List.mem_of_getElem? (i := 446) (by decide +kernel), by decide +kernel⟩
theorem qw_447 : Cond.fieldLink "SkyloadBureau" 204 "SkyloadBureau$Flight" "reckonedDue" "I" ∈ lw_G := List.mem_filter.mpr ⟨List.mem_of_getElem? (i := 447) (by decide +kernel), by decide +kernel⟩
theorem qw_448 : Cond.fieldLink "SkyloadBureau$Flight" 47 "SkyloadBureau$Flight" "reckonedRuling" "I" ∈ lw_G := List.mem_filter.mpr ⟨List.mem_of_getElem? (i := 448) (by decide +kernel), by decide +kernel⟩
theorem qw_449 : Cond.laysFinal "SkyloadBureau$Flight" "SkyloadBureau$Flight" "company" "I" ∈ lw_G := List.mem_filter.mpr ⟨List.mem_of_getElem? (i := 449) (by decide +kernel), by decide +kernel⟩
theorem qw_451 : Cond.lays "SkyloadBureau$Flight" "SkyloadBureau$Flight" "planned" "I" ∈ lw_G := List.mem_filter.mpr ⟨List.mem_of_getElem? (i := 451) (by decide +kernel), by decide +kernel⟩
theorem qw_453 : Cond.lays "SkyloadBureau$Flight" "SkyloadBureau$Flight" "state" "I" ∈ lw_G := List.mem_filter.mpr ⟨List.mem_of_getElem? (i := 453) (by decide +kernel), by decide +kernel⟩
theorem qw_455 : Cond.lays "SkyloadBureau$Flight" "SkyloadBureau$Flight" "isExempt" "Z" ∈ lw_G := List.mem_filter.mpr ⟨List.mem_of_getElem? (i := 455) (by decide +kernel), by decide +kernel⟩
theorem qw_457 : Cond.lays "SkyloadBureau$Flight" "SkyloadBureau$Flight" "slotTime" "I" ∈ lw_G := List.mem_filter.mpr ⟨List.mem_of_getElem? (i := 457) (by decide +kernel), by decide +kernel⟩
theorem qw_459 : Cond.lays "SkyloadBureau$Flight" "SkyloadBureau$Flight" "ruling" "I" ∈ lw_G := List.mem_filter.mpr ⟨List.mem_of_getElem? (i := 459) (by decide +kernel), by decide +kernel⟩
theorem qw_461 : Cond.lays "SkyloadBureau$Flight" "SkyloadBureau$Flight" "wentAt" "I" ∈ lw_G := List.mem_filter.mpr ⟨List.mem_of_getElem? (i := 461) (by decide +kernel), by decide +kernel⟩
theorem qw_463 : Cond.lays "SkyloadBureau$Flight" "SkyloadBureau$Flight" "latestMessage" "I" ∈ lw_G := List.mem_filter.mpr ⟨List.mem_of_getElem? (i := 463) (by decide +kernel), by decide +kernel⟩
theorem qw_465 : Cond.lays "SkyloadBureau$Flight" "SkyloadBureau$Flight" "entryCount" "I" ∈ lw_G := List.mem_filter.mpr ⟨List.mem_of_getElem? (i := 465) (by decide +kernel), by decide +kernel⟩
theorem qw_467 : Cond.lays "SkyloadBureau$Flight" "SkyloadBureau$Flight" "latestBehind" "I" ∈ lw_G := List.mem_filter.mpr ⟨List.mem_of_getElem? (i := 467) (by decide +kernel), by decide +kernel⟩
theorem qw_469 : Cond.laysFinal "SkyloadBureau$Flight" "SkyloadBureau$Flight" "behinds" "[I" ∈ lw_G := List.mem_filter.mpr ⟨List.mem_of_getElem? (i := 469) (by decide +kernel), by decide +kernel⟩
theorem qw_471 : Cond.laysFinal "SkyloadBureau$Flight" "SkyloadBureau$Flight" "stays" "[I" ∈ lw_G := List.mem_filter.mpr ⟨List.mem_of_getElem? (i := 471) (by decide +kernel), by decide +kernel⟩
theorem qw_473 : Cond.lays "SkyloadBureau$Flight" "SkyloadBureau$Flight" "reckonedDue" "I" ∈ lw_G := List.mem_filter.mpr ⟨List.mem_of_getElem? (i := 473) (by decide +kernel), by decide +kernel⟩
theorem qw_475 : Cond.lays "SkyloadBureau$Flight" "SkyloadBureau$Flight" "reckonedRuling" "I" ∈ lw_G := List.mem_filter.mpr ⟨List.mem_of_getElem? (i := 475) (by decide +kernel), by decide +kernel⟩
theorem qw_477 : Cond.superclass "SkyloadBureau$Flight" "java/lang/Object" ∈ lw_G := List.mem_filter.mpr ⟨List.mem_of_getElem? (i := 477) (by decide +kernel), by decide +kernel⟩
theorem qw_478 : Cond.methodLink "SkyloadBureau" 57 yJx4a65c_add_9ea2d ∈ lw_G := List.mem_filter.mpr ⟨List.mem_of_getElem? (i := 478) (by decide +kernel), by decide +kernel⟩
theorem qw_479 : Cond.instanceMethod yJx4a65c_add_9ea2d ∈ lw_G := List.mem_filter.mpr ⟨List.mem_of_getElem? (i := 479) (by decide +kernel), by decide +kernel⟩
theorem qw_480 : Cond.selects "java/util/ArrayList" yJx4a65c_add_9ea2d yJx4a65c_add_9ea2d ∈ lw_G := List.mem_filter.mpr ⟨List.mem_of_getElem? (i := 480) (by decide +kernel), by decide +kernel⟩
theorem qw_481 : Cond.code yJx4a65c_add_9ea2d prog_22_method_25_code 2 (some FieldType.boolean) ∈ lw_G := List.mem_filter.mpr ⟨List.mem_of_getElem? (i := 481) (by decide +kernel), by decide +kernel⟩
theorem qw_482 : Cond.methodLink "java/util/ArrayList" 131 yJx4a65c_add_72be8 ∈ lw_G := List.mem_filter.mpr ⟨List.mem_of_getElem? (i := 482) (by decide +kernel), by decide +kernel⟩
theorem qw_484 : Cond.instanceMethod yJx4a65c_add_72be8 ∈ lw_G := List.mem_filter.mpr ⟨List.mem_of_getElem? (i := 484) (by decide +kernel), by decide +kernel⟩
theorem qw_485 : Cond.code yJx4a65c_add_72be8 prog_22_method_24_code 4 (Option.none : Option Jvm.ClassFile.FieldType) ∈ lw_G := List.mem_filter.mpr ⟨List.mem_of_getElem? (i := 485) (by decide +kernel), by decide +kernel⟩
theorem qw_486 : Cond.methodLink "java/util/ArrayList" 129 yJx4a65c_grow_d5877 ∈ lw_G := List.mem_filter.mpr ⟨List.mem_of_getElem? (i := 486) (by decide +kernel), by decide +kernel⟩
theorem qw_488 : Cond.instanceMethod yJx4a65c_grow_d5877 ∈ lw_G := List.mem_filter.mpr ⟨List.mem_of_getElem? (i := 488) (by decide +kernel), by decide +kernel⟩
theorem qw_489 : Cond.code yJx4a65c_grow_d5877 prog_22_method_7_code 1 (some (FieldType.array (FieldType.object "java/lang/Object"))) ∈ lw_G := List.mem_filter.mpr ⟨List.mem_of_getElem? (i := 489) (by decide +kernel), by decide +kernel⟩
theorem qw_490 : Cond.methodLink "java/util/ArrayList" 69 yJx4a65c_grow_92f84 ∈ lw_G := List.mem_filter.mpr ⟨List.mem_of_getElem? (i := 490) (by decide +kernel), by decide +kernel⟩
theorem qw_492 : Cond.instanceMethod yJx4a65c_grow_92f84 ∈ lw_G := List.mem_filter.mpr ⟨List.mem_of_getElem? (i := 492) (by decide +kernel), by decide +kernel⟩
theorem qw_493 : Cond.code yJx4a65c_grow_92f84 prog_22_method_6_code 4 (some (FieldType.array (FieldType.object "java/lang/Object"))) ∈ lw_G := List.mem_filter.mpr ⟨List.mem_of_getElem? (i := 493) (by decide +kernel), by decide +kernel⟩
theorem qw_494 : Cond.methodLink "java/util/ArrayList" 73 yJ8_newLength_cabcc ∈ lw_G := List.mem_filter.mpr ⟨List.mem_of_getElem? (i := 494) (by decide +kernel), by decide +kernel⟩
theorem qw_495 : Cond.static yJ8_newLength_cabcc ∈ lw_G := List.mem_filter.mpr ⟨List.mem_of_getElem? (i := 495) (by decide +kernel), by decide +kernel⟩
theorem qw_496 : Cond.code yJ8_newLength_cabcc prog_29_method_27_code 4 (some FieldType.int) ∈ lw_G := List.mem_filter.mpr ⟨List.mem_of_getElem? (i := 496) (by decide +kernel), by decide +kernel⟩
theorem qw_497 : Cond.methodLink "jdk/internal/util/ArraysSupport" 194 yJ9_max_7cf53 ∈ lw_G := List.mem_filter.mpr ⟨List.mem_of_getElem? (i := 497) (by decide +kernel), by decide +kernel⟩
theorem qw_498 : Cond.constant "jdk/internal/util/ArraysSupport" 200 (2147483639 : Int32) ∈ lw_G := List.mem_filter.mpr ⟨List.mem_of_getElem? (i := 498) (by decide +kernel), by decide +kernel⟩
theorem qw_499 : Cond.methodLink "jdk/internal/util/ArraysSupport" 201 yJ8_hugeLength_7cf53 ∈ lw_G := List.mem_filter.mpr ⟨List.mem_of_getElem? (i := 499) (by decide +kernel), by decide +kernel⟩
theorem qw_500 : Cond.static yJ8_hugeLength_7cf53 ∈ lw_G := List.mem_filter.mpr ⟨List.mem_of_getElem? (i := 500) (by decide +kernel), by decide +kernel⟩
theorem qw_501 : Cond.code yJ8_hugeLength_7cf53 prog_29_method_28_code 3 (some FieldType.int) ∈ lw_G := List.mem_filter.mpr ⟨List.mem_of_getElem? (i := 501) (by decide +kernel), by decide +kernel⟩
theorem qw_502 : Cond.methodLink "java/util/ArrayList" 66 yJ7_copyOf_1904c ∈ lw_G := List.mem_filter.mpr ⟨List.mem_of_getElem? (i := 502) (by decide +kernel), by decide +kernel⟩
theorem qw_503 : Cond.static yJ7_copyOf_1904c ∈ lw_G := List.mem_filter.mpr ⟨List.mem_of_getElem? (i := 503) (by decide +kernel), by decide +kernel⟩
theorem qw_504 : Cond.code yJ7_copyOf_1904c prog_23_method_119_code 2 (some (FieldType.array (FieldType.object "java/lang/Object"))) ∈ lw_G := List.mem_filter.mpr ⟨List.mem_of_getElem? (i := 504) (by decide +kernel), by decide +kernel⟩
theorem qw_505 : Cond.methodLink "java/util/Arrays" 86 (⟨"java/lang/Object", "getClass", "()Ljava/lang/Class;"⟩ : MethodName) ∈ lw_G := List.mem_filter.mpr ⟨List.mem_of_getElem? (i := 505) (by decide +kernel), by decide +kernel⟩
theorem qw_506 : Cond.instanceMethod (⟨"java/lang/Object", "getClass", "()Ljava/lang/Class;"⟩ : MethodName) ∈ lw_G := List.mem_filter.mpr ⟨List.mem_of_getElem? (i := 506) (by decide +kernel), by decide +kernel⟩
theorem qw_507 : Cond.sameMethod "java/lang/Object" "java/lang/Object" "getClass" "()Ljava/lang/Class;" ∈ lw_G := List.mem_filter.mpr ⟨List.mem_of_getElem? (i := 507) (by decide +kernel), by decide +kernel⟩
theorem qw_508 : Cond.selects "SkyloadBureau" (⟨"java/lang/Object", "getClass", "()Ljava/lang/Class;"⟩ : MethodName) (⟨"java/lang/Object", "getClass", "()Ljava/lang/Class;"⟩ : MethodName) ∈ lw_G := List.mem_filter.mpr ⟨List.mem_of_getElem? (i := 508) (by decide +kernel), by decide +kernel⟩
theorem qw_509 : Cond.selects "SkyloadBureau$Dealing" (⟨"java/lang/Object", "getClass", "()Ljava/lang/Class;"⟩ : MethodName) (⟨"java/lang/Object", "getClass", "()Ljava/lang/Class;"⟩ : MethodName) ∈ lw_G := List.mem_filter.mpr ⟨List.mem_of_getElem? (i := 509) (by decide +kernel), by decide +kernel⟩
theorem qw_510 : Cond.selects "SkyloadBureau$Flight" (⟨"java/lang/Object", "getClass", "()Ljava/lang/Class;"⟩ : MethodName) (⟨"java/lang/Object", "getClass", "()Ljava/lang/Class;"⟩ : MethodName) ∈ lw_G := List.mem_filter.mpr ⟨List.mem_of_getElem? (i := 510) (by decide +kernel), by decide +kernel⟩
theorem qw_511 : Cond.selects "SkyloadBureau$Line" (⟨"java/lang/Object", "getClass", "()Ljava/lang/Class;"⟩ : MethodName) (⟨"java/lang/Object", "getClass", "()Ljava/lang/Class;"⟩ : MethodName) ∈ lw_G := List.mem_filter.mpr ⟨List.mem_of_getElem? (i := 511) (by decide +kernel), by decide +kernel⟩
theorem qw_512 : Cond.selects "SkyloadBureau$Regulation" (⟨"java/lang/Object", "getClass", "()Ljava/lang/Class;"⟩ : MethodName) (⟨"java/lang/Object", "getClass", "()Ljava/lang/Class;"⟩ : MethodName) ∈ lw_G := List.mem_filter.mpr ⟨List.mem_of_getElem? (i := 512) (by decide +kernel), by decide +kernel⟩
theorem qw_513 : Cond.selects "SkyloadBureauModel" (⟨"java/lang/Object", "getClass", "()Ljava/lang/Class;"⟩ : MethodName) (⟨"java/lang/Object", "getClass", "()Ljava/lang/Class;"⟩ : MethodName) ∈ lw_G := List.mem_filter.mpr ⟨List.mem_of_getElem? (i := 513) (by decide +kernel), by decide +kernel⟩
theorem qw_514 : Cond.selects "java/lang/IllegalArgumentException" (⟨"java/lang/Object", "getClass", "()Ljava/lang/Class;"⟩ : MethodName) (⟨"java/lang/Object", "getClass", "()Ljava/lang/Class;"⟩ : MethodName) ∈ lw_G := List.mem_filter.mpr ⟨List.mem_of_getElem? (i := 514) (by decide +kernel), by decide +kernel⟩
theorem qw_515 : Cond.selects "java/lang/IllegalStateException" (⟨"java/lang/Object", "getClass", "()Ljava/lang/Class;"⟩ : MethodName) (⟨"java/lang/Object", "getClass", "()Ljava/lang/Class;"⟩ : MethodName) ∈ lw_G := List.mem_filter.mpr ⟨List.mem_of_getElem? (i := 515) (by decide +kernel), by decide +kernel⟩
theorem qw_516 : Cond.selects "java/lang/IndexOutOfBoundsException" (⟨"java/lang/Object", "getClass", "()Ljava/lang/Class;"⟩ : MethodName) (⟨"java/lang/Object", "getClass", "()Ljava/lang/Class;"⟩ : MethodName) ∈ lw_G := List.mem_filter.mpr ⟨List.mem_of_getElem? (i := 516) (by decide +kernel), by decide +kernel⟩
theorem qw_517 : Cond.selects "java/util/ArrayList" (⟨"java/lang/Object", "getClass", "()Ljava/lang/Class;"⟩ : MethodName) (⟨"java/lang/Object", "getClass", "()Ljava/lang/Class;"⟩ : MethodName) ∈ lw_G := List.mem_filter.mpr ⟨List.mem_of_getElem? (i := 517) (by decide +kernel), by decide +kernel⟩
theorem qw_518 : Cond.native (⟨"java/lang/Object", "getClass", "()Ljava/lang/Class;"⟩ : MethodName) ∈ lw_G := List.mem_filter.mpr ⟨List.mem_of_getElem? (i := 518) (by decide +kernel), by decide +kernel⟩
theorem qw_519 : Cond.methodLink "java/util/Arrays" 300 yJ7_copyOf_6403c ∈ lw_G := List.mem_filter.mpr ⟨List.mem_of_getElem? (i := 519) (by decide +kernel), by decide +kernel⟩
theorem qw_520 : Cond.static yJ7_copyOf_6403c ∈ lw_G := List.mem_filter.mpr ⟨List.mem_of_getElem? (i := 520) (by decide +kernel), by decide +kernel⟩
theorem qw_521 : Cond.code yJ7_copyOf_6403c prog_23_method_120_code 4 (some (FieldType.array (FieldType.object "java/lang/Object"))) ∈ lw_G := List.mem_filter.mpr ⟨List.mem_of_getElem? (i := 521) (by decide +kernel), by decide +kernel⟩
theorem qw_522 : Cond.classLink "java/util/Arrays" 110 "[Ljava/lang/Object;" ∈ lw_G := List.mem_filter.mpr ⟨List.mem_of_getElem? (i := 522) (by decide +kernel), by decide +kernel⟩
theorem qw_524 : Cond.classLink "java/util/Arrays" 2 "java/lang/Object" ∈ lw_G := List.mem_filter.mpr ⟨List.mem_of_getElem? (i := 524) (by decide +kernel), by decide +kernel⟩
theorem qw_525 : Cond.methodLink "java/util/Arrays" 304 yJ9_min_7cf53 ∈ lw_G := List.mem_filter.mpr ⟨List.mem_of_getElem? (i := 525) (by decide +kernel), by decide +kernel⟩
theorem qw_526 : Cond.methodLink "java/util/Arrays" 150 (⟨RJ10, "arraycopy", "(Ljava/lang/Object;ILjava/lang/Object;II)V"⟩ : MethodName) ∈ lw_G := List.mem_filter.mpr ⟨List.mem_of_getElem? (i := 526) (by decide +kernel), by decide +kernel⟩
theorem qw_527 : Cond.static (⟨RJ10, "arraycopy", "(Ljava/lang/Object;ILjava/lang/Object;II)V"⟩ : MethodName) ∈ lw_G := List.mem_filter.mpr ⟨List.mem_of_getElem? (i := 527) (by decide +kernel), by decide +kernel⟩
theorem qw_528 : Cond.native (⟨RJ10, "arraycopy", "(Ljava/lang/Object;ILjava/lang/Object;II)V"⟩ : MethodName) ∈ lw_G := List.mem_filter.mpr ⟨List.mem_of_getElem? (i := 528) (by decide +kernel), by decide +kernel⟩
theorem qw_529 : Cond.methodLink "java/util/ArrayList" 79 yJ9_max_7cf53 ∈ lw_G := List.mem_filter.mpr ⟨List.mem_of_getElem? (i := 529) (by decide +kernel), by decide +kernel⟩
theorem qw_530 : Cond.classLink "java/util/ArrayList" 7 "java/lang/Object" ∈ lw_G := List.mem_filter.mpr ⟨List.mem_of_getElem? (i := 530) (by decide +kernel), by decide +kernel⟩
theorem qw_531 : Cond.methodLink "SkyloadBureauLaw" 100 yL_entry ∈ lw_G := List.mem_filter.mpr ⟨List.mem_of_getElem? (i := 531) (by decide +kernel), by decide +kernel⟩
theorem qw_532 : Cond.static yL_entry ∈ lw_G := List.mem_filter.mpr ⟨List.mem_of_getElem? (i := 532) (by decide +kernel), by decide +kernel⟩
theorem qw_533 : Cond.codeWith yL_entry method_4_code 7 (some FieldType.int) [(0, 14, 17, 13), (0, 14, 21, 15), (0, 14, 25, 17)] ∈ lw_G := List.mem_filter.mpr ⟨List.mem_of_getElem? (i := 533) (by decide +kernel), by decide +kernel⟩
theorem qw_534 : Cond.methodLink "SkyloadBureauLaw" 19 yX4_entry ∈ lw_G := List.mem_filter.mpr ⟨List.mem_of_getElem? (i := 534) (by decide +kernel), by decide +kernel⟩
theorem qw_535 : Cond.instanceMethod yX4_entry ∈ lw_G := List.mem_filter.mpr ⟨List.mem_of_getElem? (i := 535) (by decide +kernel), by decide +kernel⟩
theorem qw_536 : Cond.selects "SkyloadBureau" yX4_entry yX4_entry ∈ lw_G := List.mem_filter.mpr ⟨List.mem_of_getElem? (i := 536) (by decide +kernel), by decide +kernel⟩
theorem qw_537 : Cond.code yX4_entry prog_1_method_3_code 6 (some FieldType.int) ∈ lw_G := List.mem_filter.mpr ⟨List.mem_of_getElem? (i := 537) (by decide +kernel), by decide +kernel⟩
theorem qw_538 : Cond.methodLink "SkyloadBureau" 61 yX4_flightAt ∈ lw_G := List.mem_filter.mpr ⟨List.mem_of_getElem? (i := 538) (by decide +kernel), by decide +kernel⟩
theorem qw_540 : Cond.instanceMethod yX4_flightAt ∈ lw_G := List.mem_filter.mpr ⟨List.mem_of_getElem? (i := 540) (by decide +kernel), by decide +kernel⟩
theorem qw_541 : Cond.code yX4_flightAt prog_1_method_25_code 2 (some (FieldType.object "SkyloadBureau$Flight")) ∈ lw_G := List.mem_filter.mpr ⟨List.mem_of_getElem? (i := 541) (by decide +kernel), by decide +kernel⟩
theorem qw_543 : Cond.methodLink "SkyloadBureau" 65 yX4_checkSector ∈ lw_G := List.mem_filter.mpr ⟨List.mem_of_getElem? (i := 543) (by decide +kernel), by decide +kernel⟩
theorem qw_544 : Cond.static yX4_checkSector ∈ lw_G := List.mem_filter.mpr ⟨List.mem_of_getElem? (i := 544) (by decide +kernel), by decide +kernel⟩
theorem qw_545 : Cond.code yX4_checkSector prog_1_method_27_code 1 (Option.none : Option Jvm.ClassFile.FieldType) ∈ lw_G := List.mem_filter.mpr ⟨List.mem_of_getElem? (i := 545) (by decide +kernel), by decide +kernel⟩
theorem qw_547 : Cond.methodLink "SkyloadBureau" 68 yX1_canEnterNext ∈ lw_G := List.mem_filter.mpr ⟨List.mem_of_getElem? (i := 547) (by decide +kernel), by decide +kernel⟩
theorem qw_548 : Cond.instanceMethod yX1_canEnterNext ∈ lw_G := List.mem_filter.mpr ⟨List.mem_of_getElem? (i := 548) (by decide +kernel), by decide +kernel⟩
theorem qw_549 : Cond.selects "SkyloadBureau$Flight" yX1_canEnterNext yX1_canEnterNext ∈ lw_G := List.mem_filter.mpr ⟨List.mem_of_getElem? (i := 549) (by decide +kernel), by decide +kernel⟩
theorem qw_550 : Cond.code yX1_canEnterNext prog_3_method_2_code 3 (some FieldType.boolean) ∈ lw_G := List.mem_filter.mpr ⟨List.mem_of_getElem? (i := 550) (by decide +kernel), by decide +kernel⟩
theorem qw_551 : Cond.methodLink "SkyloadBureau$Flight" 56 yX1_enters ∈ lw_G := List.mem_filter.mpr ⟨List.mem_of_getElem? (i := 551) (by decide +kernel), by decide +kernel⟩
theorem qw_552 : Cond.instanceMethod yX1_enters ∈ lw_G := List.mem_filter.mpr ⟨List.mem_of_getElem? (i := 552) (by decide +kernel), by decide +kernel⟩
theorem qw_553 : Cond.selects "SkyloadBureau$Flight" yX1_enters yX1_enters ∈ lw_G := List.mem_filter.mpr ⟨List.mem_of_getElem? (i := 553) (by decide +kernel), by decide +kernel⟩
theorem qw_554 : Cond.code yX1_enters prog_3_method_6_code 2 (some FieldType.boolean) ∈ lw_G := List.mem_filter.mpr ⟨List.mem_of_getElem? (i := 554) (by decide +kernel), by decide +kernel⟩
theorem qw_556 : Cond.methodLink "SkyloadBureau" 74 yX1_addEntry ∈ lw_G := List.mem_filter.mpr ⟨List.mem_of_getElem? (i := 556) (by decide +kernel), by decide +kernel⟩
theorem qw_557 : Cond.instanceMethod yX1_addEntry ∈ lw_G := List.mem_filter.mpr ⟨List.mem_of_getElem? (i := 557) (by decide +kernel), by decide +kernel⟩
theorem qw_558 : Cond.selects "SkyloadBureau$Flight" yX1_addEntry yX1_addEntry ∈ lw_G := List.mem_filter.mpr ⟨List.mem_of_getElem? (i := 558) (by decide +kernel), by decide +kernel⟩
theorem qw_559 : Cond.code yX1_addEntry prog_3_method_3_code 4 (Option.none : Option Jvm.ClassFile.FieldType) ∈ lw_G := List.mem_filter.mpr ⟨List.mem_of_getElem? (i := 559) (by decide +kernel), by decide +kernel⟩
theorem qw_560 : Cond.methodLink "SkyloadBureauLaw" 104 yL_exempt ∈ lw_G := List.mem_filter.mpr ⟨List.mem_of_getElem? (i := 560) (by decide +kernel), by decide +kernel⟩
theorem qw_561 : Cond.static yL_exempt ∈ lw_G := List.mem_filter.mpr ⟨List.mem_of_getElem? (i := 561) (by decide +kernel), by decide +kernel⟩
theorem qw_562 : Cond.codeWith yL_exempt method_5_code 5 (some FieldType.int) [(0, 17, 20, 13), (0, 17, 24, 17)] ∈ lw_G := List.mem_filter.mpr ⟨List.mem_of_getElem? (i := 562) (by decide +kernel), by decide +kernel⟩
theorem qw_563 : Cond.methodLink "SkyloadBureauLaw" 23 yX4_exempt ∈ lw_G := List.mem_filter.mpr ⟨List.mem_of_getElem? (i := 563) (by decide +kernel), by decide +kernel⟩
theorem qw_564 : Cond.instanceMethod yX4_exempt ∈ lw_G := List.mem_filter.mpr ⟨List.mem_of_getElem? (i := 564) (by decide +kernel), by decide +kernel⟩
theorem qw_565 : Cond.selects "SkyloadBureau" yX4_exempt yX4_exempt ∈ lw_G := List.mem_filter.mpr ⟨List.mem_of_getElem? (i := 565) (by decide +kernel), by decide +kernel⟩
theorem qw_566 : Cond.code yX4_exempt prog_1_method_4_code 5 (some FieldType.boolean) ∈ lw_G := List.mem_filter.mpr ⟨List.mem_of_getElem? (i := 566) (by decide +kernel), by decide +kernel⟩
theorem qw_568 : Cond.methodLink "SkyloadBureau" 90 yX1_loseSlotTime ∈ lw_G := List.mem_filter.mpr ⟨List.mem_of_getElem? (i := 568) (by decide +kernel), by decide +kernel⟩
theorem qw_569 : Cond.methodLink "SkyloadBureauLaw" 108 yL_flightIs ∈ lw_G := List.mem_filter.mpr ⟨List.mem_of_getElem? (i := 569) (by decide +kernel), by decide +kernel⟩
theorem qw_570 : Cond.static yL_flightIs ∈ lw_G := List.mem_filter.mpr ⟨List.mem_of_getElem? (i := 570) (by decide +kernel), by decide +kernel⟩
theorem qw_571 : Cond.codeWith yL_flightIs method_6_code 5 (some FieldType.int) [(0, 10, 13, 13), (0, 10, 17, 15)] ∈ lw_G := List.mem_filter.mpr ⟨List.mem_of_getElem? (i := 571) (by decide +kernel), by decide +kernel⟩
theorem qw_572 : Cond.methodLink "SkyloadBureauLaw" 27 yX4_flightIs ∈ lw_G := List.mem_filter.mpr ⟨List.mem_of_getElem? (i := 572) (by decide +kernel), by decide +kernel⟩
theorem qw_573 : Cond.instanceMethod yX4_flightIs ∈ lw_G := List.mem_filter.mpr ⟨List.mem_of_getElem? (i := 573) (by decide +kernel), by decide +kernel⟩
theorem qw_574 : Cond.selects "SkyloadBureau" yX4_flightIs yX4_flightIs ∈ lw_G := List.mem_filter.mpr ⟨List.mem_of_getElem? (i := 574) (by decide +kernel), by decide +kernel⟩
theorem qw_575 : Cond.code yX4_flightIs prog_1_method_5_code 4 (some FieldType.int) ∈ lw_G := List.mem_filter.mpr ⟨List.mem_of_getElem? (i := 575) (by decide +kernel), by decide +kernel⟩
theorem qw_576 : Cond.methodLink "SkyloadBureau" 102 yX1_departure ∈ lw_G := List.mem_filter.mpr ⟨List.mem_of_getElem? (i := 576) (by decide +kernel), by decide +kernel⟩
theorem qw_577 : Cond.instanceMethod yX1_departure ∈ lw_G := List.mem_filter.mpr ⟨List.mem_of_getElem? (i := 577) (by decide +kernel), by decide +kernel⟩
theorem qw_578 : Cond.selects "SkyloadBureau$Flight" yX1_departure yX1_departure ∈ lw_G := List.mem_filter.mpr ⟨List.mem_of_getElem? (i := 578) (by decide +kernel), by decide +kernel⟩
theorem qw_579 : Cond.code yX1_departure prog_3_method_7_code 1 (some FieldType.int) ∈ lw_G := List.mem_filter.mpr ⟨List.mem_of_getElem? (i := 579) (by decide +kernel), by decide +kernel⟩
theorem qw_580 : Cond.methodLink "SkyloadBureauLaw" 111 yL_over ∈ lw_G := List.mem_filter.mpr ⟨List.mem_of_getElem? (i := 580) (by decide +kernel), by decide +kernel⟩
theorem qw_581 : Cond.static yL_over ∈ lw_G := List.mem_filter.mpr ⟨List.mem_of_getElem? (i := 581) (by decide +kernel), by decide +kernel⟩
theorem qw_582 : Cond.codeWith yL_over method_7_code 5 (some FieldType.int) [(0, 10, 13, 13)] ∈ lw_G := List.mem_filter.mpr ⟨List.mem_of_getElem? (i := 582) (by decide +kernel), by decide +kernel⟩
theorem qw_583 : Cond.methodLink "SkyloadBureauLaw" 30 yX4_over ∈ lw_G := List.mem_filter.mpr ⟨List.mem_of_getElem? (i := 583) (by decide +kernel), by decide +kernel⟩
theorem qw_584 : Cond.instanceMethod yX4_over ∈ lw_G := List.mem_filter.mpr ⟨List.mem_of_getElem? (i := 584) (by decide +kernel), by decide +kernel⟩
theorem qw_585 : Cond.selects "SkyloadBureau" yX4_over yX4_over ∈ lw_G := List.mem_filter.mpr ⟨List.mem_of_getElem? (i := 585) (by decide +kernel), by decide +kernel⟩
theorem qw_586 : Cond.code yX4_over prog_1_method_6_code 4 (some FieldType.int) ∈ lw_G := List.mem_filter.mpr ⟨List.mem_of_getElem? (i := 586) (by decide +kernel), by decide +kernel⟩
theorem qw_587 : Cond.methodLink "SkyloadBureau" 108 yX1_timeOver ∈ lw_G := List.mem_filter.mpr ⟨List.mem_of_getElem? (i := 587) (by decide +kernel), by decide +kernel⟩
theorem qw_588 : Cond.instanceMethod yX1_timeOver ∈ lw_G := List.mem_filter.mpr ⟨List.mem_of_getElem? (i := 588) (by decide +kernel), by decide +kernel⟩
theorem qw_589 : Cond.selects "SkyloadBureau$Flight" yX1_timeOver yX1_timeOver ∈ lw_G := List.mem_filter.mpr ⟨List.mem_of_getElem? (i := 589) (by decide +kernel), by decide +kernel⟩
theorem qw_590 : Cond.code yX1_timeOver prog_3_method_8_code 3 (some FieldType.int) ∈ lw_G := List.mem_filter.mpr ⟨List.mem_of_getElem? (i := 590) (by decide +kernel), by decide +kernel⟩
theorem qw_591 : Cond.methodLink "SkyloadBureau$Flight" 64 yX1_departure ∈ lw_G := List.mem_filter.mpr ⟨List.mem_of_getElem? (i := 591) (by decide +kernel), by decide +kernel⟩
theorem qw_592 : Cond.methodLink "SkyloadBureauLaw" 114 yL_load ∈ lw_G := List.mem_filter.mpr ⟨List.mem_of_getElem? (i := 592) (by decide +kernel), by decide +kernel⟩
theorem qw_593 : Cond.static yL_load ∈ lw_G := List.mem_filter.mpr ⟨List.mem_of_getElem? (i := 593) (by decide +kernel), by decide +kernel⟩
theorem qw_594 : Cond.codeWith yL_load method_8_code 6 (some FieldType.int) [(0, 12, 15, 13), (0, 12, 19, 15)] ∈ lw_G := List.mem_filter.mpr ⟨List.mem_of_getElem? (i := 594) (by decide +kernel), by decide +kernel⟩
theorem qw_595 : Cond.methodLink "SkyloadBureauLaw" 33 yX4_load ∈ lw_G := List.mem_filter.mpr ⟨List.mem_of_getElem? (i := 595) (by decide +kernel), by decide +kernel⟩
theorem qw_596 : Cond.instanceMethod yX4_load ∈ lw_G := List.mem_filter.mpr ⟨List.mem_of_getElem? (i := 596) (by decide +kernel), by decide +kernel⟩
theorem qw_597 : Cond.selects "SkyloadBureau" yX4_load yX4_load ∈ lw_G := List.mem_filter.mpr ⟨List.mem_of_getElem? (i := 597) (by decide +kernel), by decide +kernel⟩
theorem qw_598 : Cond.code yX4_load prog_1_method_7_code 4 (some FieldType.int) ∈ lw_G := List.mem_filter.mpr ⟨List.mem_of_getElem? (i := 598) (by decide +kernel), by decide +kernel⟩
theorem qw_599 : Cond.methodLink "SkyloadBureau" 112 yX4_loadOf ∈ lw_G := List.mem_filter.mpr ⟨List.mem_of_getElem? (i := 599) (by decide +kernel), by decide +kernel⟩
theorem qw_601 : Cond.instanceMethod yX4_loadOf ∈ lw_G := List.mem_filter.mpr ⟨List.mem_of_getElem? (i := 601) (by decide +kernel), by decide +kernel⟩
theorem qw_602 : Cond.code yX4_loadOf prog_1_method_32_code 8 (some FieldType.int) ∈ lw_G := List.mem_filter.mpr ⟨List.mem_of_getElem? (i := 602) (by decide +kernel), by decide +kernel⟩
theorem qw_603 : Cond.methodLink "SkyloadBureau" 135 yX1_loads ∈ lw_G := List.mem_filter.mpr ⟨List.mem_of_getElem? (i := 603) (by decide +kernel), by decide +kernel⟩
theorem qw_604 : Cond.instanceMethod yX1_loads ∈ lw_G := List.mem_filter.mpr ⟨List.mem_of_getElem? (i := 604) (by decide +kernel), by decide +kernel⟩
theorem qw_605 : Cond.selects "SkyloadBureau$Flight" yX1_loads yX1_loads ∈ lw_G := List.mem_filter.mpr ⟨List.mem_of_getElem? (i := 605) (by decide +kernel), by decide +kernel⟩
theorem qw_606 : Cond.code yX1_loads prog_3_method_9_code 2 (some FieldType.boolean) ∈ lw_G := List.mem_filter.mpr ⟨List.mem_of_getElem? (i := 606) (by decide +kernel), by decide +kernel⟩
theorem qw_607 : Cond.methodLink "SkyloadBureauLaw" 118 yL_inside ∈ lw_G := List.mem_filter.mpr ⟨List.mem_of_getElem? (i := 607) (by decide +kernel), by decide +kernel⟩
theorem qw_608 : Cond.static yL_inside ∈ lw_G := List.mem_filter.mpr ⟨List.mem_of_getElem? (i := 608) (by decide +kernel), by decide +kernel⟩
theorem qw_609 : Cond.codeWith yL_inside method_9_code 5 (some FieldType.int) [(0, 10, 13, 13), (0, 10, 17, 15)] ∈ lw_G := List.mem_filter.mpr ⟨List.mem_of_getElem? (i := 609) (by decide +kernel), by decide +kernel⟩
theorem qw_610 : Cond.methodLink "SkyloadBureauLaw" 37 yX4_inside ∈ lw_G := List.mem_filter.mpr ⟨List.mem_of_getElem? (i := 610) (by decide +kernel), by decide +kernel⟩
theorem qw_611 : Cond.instanceMethod yX4_inside ∈ lw_G := List.mem_filter.mpr ⟨List.mem_of_getElem? (i := 611) (by decide +kernel), by decide +kernel⟩
theorem qw_612 : Cond.selects "SkyloadBureau" yX4_inside yX4_inside ∈ lw_G := List.mem_filter.mpr ⟨List.mem_of_getElem? (i := 612) (by decide +kernel), by decide +kernel⟩
theorem qw_613 : Cond.code yX4_inside prog_1_method_8_code 5 (some FieldType.int) ∈ lw_G := List.mem_filter.mpr ⟨List.mem_of_getElem? (i := 613) (by decide +kernel), by decide +kernel⟩
theorem qw_614 : Cond.methodLink "SkyloadBureau" 120 yX1_isInside ∈ lw_G := List.mem_filter.mpr ⟨List.mem_of_getElem? (i := 614) (by decide +kernel), by decide +kernel⟩
theorem qw_615 : Cond.instanceMethod yX1_isInside ∈ lw_G := List.mem_filter.mpr ⟨List.mem_of_getElem? (i := 615) (by decide +kernel), by decide +kernel⟩
theorem qw_616 : Cond.selects "SkyloadBureau$Flight" yX1_isInside yX1_isInside ∈ lw_G := List.mem_filter.mpr ⟨List.mem_of_getElem? (i := 616) (by decide +kernel), by decide +kernel⟩
theorem qw_617 : Cond.code yX1_isInside prog_3_method_10_code 4 (some FieldType.boolean) ∈ lw_G := List.mem_filter.mpr ⟨List.mem_of_getElem? (i := 617) (by decide +kernel), by decide +kernel⟩
theorem qw_618 : Cond.methodLink "SkyloadBureau$Flight" 68 yX1_timeOver ∈ lw_G := List.mem_filter.mpr ⟨List.mem_of_getElem? (i := 618) (by decide +kernel), by decide +kernel⟩
theorem qw_619 : Cond.methodLink "SkyloadBureau$Flight" 71 yX1_loads ∈ lw_G := List.mem_filter.mpr ⟨List.mem_of_getElem? (i := 619) (by decide +kernel), by decide +kernel⟩
theorem qw_620 : Cond.methodLink "SkyloadBureau$Flight" 74 yX1_stayAt ∈ lw_G := List.mem_filter.mpr ⟨List.mem_of_getElem? (i := 620) (by decide +kernel), by decide +kernel⟩
theorem qw_621 : Cond.instanceMethod yX1_stayAt ∈ lw_G := List.mem_filter.mpr ⟨List.mem_of_getElem? (i := 621) (by decide +kernel), by decide +kernel⟩
theorem qw_622 : Cond.selects "SkyloadBureau$Flight" yX1_stayAt yX1_stayAt ∈ lw_G := List.mem_filter.mpr ⟨List.mem_of_getElem? (i := 622) (by decide +kernel), by decide +kernel⟩
theorem qw_623 : Cond.code yX1_stayAt prog_3_method_5_code 2 (some FieldType.int) ∈ lw_G := List.mem_filter.mpr ⟨List.mem_of_getElem? (i := 623) (by decide +kernel), by decide +kernel⟩
theorem qw_624 : Cond.methodLink "SkyloadBureauLaw" 121 yL_peak ∈ lw_G := List.mem_filter.mpr ⟨List.mem_of_getElem? (i := 624) (by decide +kernel), by decide +kernel⟩
theorem qw_625 : Cond.static yL_peak ∈ lw_G := List.mem_filter.mpr ⟨List.mem_of_getElem? (i := 625) (by decide +kernel), by decide +kernel⟩
theorem qw_626 : Cond.codeWith yL_peak method_10_code 5 (some FieldType.int) [(0, 10, 13, 13), (0, 10, 17, 15)] ∈ lw_G := List.mem_filter.mpr ⟨List.mem_of_getElem? (i := 626) (by decide +kernel), by decide +kernel⟩
theorem qw_627 : Cond.methodLink "SkyloadBureauLaw" 40 yX4_peak ∈ lw_G := List.mem_filter.mpr ⟨List.mem_of_getElem? (i := 627) (by decide +kernel), by decide +kernel⟩
theorem qw_628 : Cond.instanceMethod yX4_peak ∈ lw_G := List.mem_filter.mpr ⟨List.mem_of_getElem? (i := 628) (by decide +kernel), by decide +kernel⟩
theorem qw_629 : Cond.selects "SkyloadBureau" yX4_peak yX4_peak ∈ lw_G := List.mem_filter.mpr ⟨List.mem_of_getElem? (i := 629) (by decide +kernel), by decide +kernel⟩
theorem qw_630 : Cond.code yX4_peak prog_1_method_9_code 7 (some FieldType.int) ∈ lw_G := List.mem_filter.mpr ⟨List.mem_of_getElem? (i := 630) (by decide +kernel), by decide +kernel⟩
theorem qw_631 : Cond.methodLink "SkyloadBureau" 123 yX4_lineUpEntering ∈ lw_G := List.mem_filter.mpr ⟨List.mem_of_getElem? (i := 631) (by decide +kernel), by decide +kernel⟩
theorem qw_633 : Cond.instanceMethod yX4_lineUpEntering ∈ lw_G := List.mem_filter.mpr ⟨List.mem_of_getElem? (i := 633) (by decide +kernel), by decide +kernel⟩
theorem qw_634 : Cond.code yX4_lineUpEntering prog_1_method_33_code 4 (Option.none : Option Jvm.ClassFile.FieldType) ∈ lw_G := List.mem_filter.mpr ⟨List.mem_of_getElem? (i := 634) (by decide +kernel), by decide +kernel⟩
theorem qw_635 : Cond.methodLink "SkyloadBureau" 265 yX2_clear ∈ lw_G := List.mem_filter.mpr ⟨List.mem_of_getElem? (i := 635) (by decide +kernel), by decide +kernel⟩
theorem qw_636 : Cond.methodLink "SkyloadBureau" 268 yX2_add ∈ lw_G := List.mem_filter.mpr ⟨List.mem_of_getElem? (i := 636) (by decide +kernel), by decide +kernel⟩
theorem qw_637 : Cond.methodLink "SkyloadBureau" 126 yX2_countAheadOf ∈ lw_G := List.mem_filter.mpr ⟨List.mem_of_getElem? (i := 637) (by decide +kernel), by decide +kernel⟩
theorem qw_638 : Cond.instanceMethod yX2_countAheadOf ∈ lw_G := List.mem_filter.mpr ⟨List.mem_of_getElem? (i := 638) (by decide +kernel), by decide +kernel⟩
theorem qw_639 : Cond.selects "SkyloadBureau$Line" yX2_countAheadOf yX2_countAheadOf ∈ lw_G := List.mem_filter.mpr ⟨List.mem_of_getElem? (i := 639) (by decide +kernel), by decide +kernel⟩
theorem qw_640 : Cond.code yX2_countAheadOf prog_4_method_10_code 4 (some FieldType.int) ∈ lw_G := List.mem_filter.mpr ⟨List.mem_of_getElem? (i := 640) (by decide +kernel), by decide +kernel⟩
theorem qw_641 : Cond.methodLink "SkyloadBureau$Line" 36 yX2_timeAt ∈ lw_G := List.mem_filter.mpr ⟨List.mem_of_getElem? (i := 641) (by decide +kernel), by decide +kernel⟩
theorem qw_642 : Cond.methodLink "SkyloadBureau" 130 yJ9_max_7cf53 ∈ lw_G := List.mem_filter.mpr ⟨List.mem_of_getElem? (i := 642) (by decide +kernel), by decide +kernel⟩
theorem qw_643 : Cond.methodLink "SkyloadBureauLaw" 124 yL_peakAnew ∈ lw_G := List.mem_filter.mpr ⟨List.mem_of_getElem? (i := 643) (by decide +kernel), by decide +kernel⟩
theorem qw_644 : Cond.static yL_peakAnew ∈ lw_G := List.mem_filter.mpr ⟨List.mem_of_getElem? (i := 644) (by decide +kernel), by decide +kernel⟩
theorem qw_645 : Cond.codeWith yL_peakAnew method_11_code 5 (some FieldType.int) [(0, 10, 13, 13), (0, 10, 17, 15)] ∈ lw_G := List.mem_filter.mpr ⟨List.mem_of_getElem? (i := 645) (by decide +kernel), by decide +kernel⟩
theorem qw_646 : Cond.methodLink "SkyloadBureauLaw" 43 yX4_peakAnew ∈ lw_G := List.mem_filter.mpr ⟨List.mem_of_getElem? (i := 646) (by decide +kernel), by decide +kernel⟩
theorem qw_647 : Cond.instanceMethod yX4_peakAnew ∈ lw_G := List.mem_filter.mpr ⟨List.mem_of_getElem? (i := 647) (by decide +kernel), by decide +kernel⟩
theorem qw_648 : Cond.selects "SkyloadBureau" yX4_peakAnew yX4_peakAnew ∈ lw_G := List.mem_filter.mpr ⟨List.mem_of_getElem? (i := 648) (by decide +kernel), by decide +kernel⟩
theorem qw_649 : Cond.code yX4_peakAnew prog_1_method_10_code 6 (some FieldType.int) ∈ lw_G := List.mem_filter.mpr ⟨List.mem_of_getElem? (i := 649) (by decide +kernel), by decide +kernel⟩
theorem qw_650 : Cond.methodLink "SkyloadBureauLaw" 127 yL_regulation ∈ lw_G := List.mem_filter.mpr ⟨List.mem_of_getElem? (i := 650) (by decide +kernel), by decide +kernel⟩
theorem qw_651 : Cond.static yL_regulation ∈ lw_G := List.mem_filter.mpr ⟨List.mem_of_getElem? (i := 651) (by decide +kernel), by decide +kernel⟩
theorem qw_652 : Cond.codeWith yL_regulation method_12_code 7 (some FieldType.int) [(0, 14, 17, 13), (0, 14, 21, 15), (0, 14, 25, 17)] ∈ lw_G := List.mem_filter.mpr ⟨List.mem_of_getElem? (i := 652) (by decide +kernel), by decide +kernel⟩
theorem qw_653 : Cond.methodLink "SkyloadBureauLaw" 46 yX4_regulation ∈ lw_G := List.mem_filter.mpr ⟨List.mem_of_getElem? (i := 653) (by decide +kernel), by decide +kernel⟩
theorem qw_654 : Cond.instanceMethod yX4_regulation ∈ lw_G := List.mem_filter.mpr ⟨List.mem_of_getElem? (i := 654) (by decide +kernel), by decide +kernel⟩
theorem qw_655 : Cond.selects "SkyloadBureau" yX4_regulation yX4_regulation ∈ lw_G := List.mem_filter.mpr ⟨List.mem_of_getElem? (i := 655) (by decide +kernel), by decide +kernel⟩
theorem qw_656 : Cond.code yX4_regulation prog_1_method_11_code 5 (some FieldType.int) ∈ lw_G := List.mem_filter.mpr ⟨List.mem_of_getElem? (i := 656) (by decide +kernel), by decide +kernel⟩
theorem qw_657 : Cond.methodLink "SkyloadBureau" 139 yX4_checkTerm ∈ lw_G := List.mem_filter.mpr ⟨List.mem_of_getElem? (i := 657) (by decide +kernel), by decide +kernel⟩
theorem qw_658 : Cond.static yX4_checkTerm ∈ lw_G := List.mem_filter.mpr ⟨List.mem_of_getElem? (i := 658) (by decide +kernel), by decide +kernel⟩
theorem qw_659 : Cond.code yX4_checkTerm prog_1_method_30_code 3 (Option.none : Option Jvm.ClassFile.FieldType) ∈ lw_G := List.mem_filter.mpr ⟨List.mem_of_getElem? (i := 659) (by decide +kernel), by decide +kernel⟩
theorem qw_661 : Cond.instantiable "SkyloadBureau$Regulation" 5 ∈ lw_G := List.mem_filter.mpr ⟨List.mem_of_getElem? (i := 661) (by decide +kernel), by decide +kernel⟩
theorem qw_662 : Cond.methodLink "SkyloadBureau" 146 yX3_init ∈ lw_G := List.mem_filter.mpr ⟨List.mem_of_getElem? (i := 662) (by decide +kernel), by decide +kernel⟩
theorem qw_663 : Cond.instanceMethod yX3_init ∈ lw_G := List.mem_filter.mpr ⟨List.mem_of_getElem? (i := 663) (by decide +kernel), by decide +kernel⟩
theorem qw_664 : Cond.code yX3_init prog_5_method_1_code 5 (Option.none : Option Jvm.ClassFile.FieldType) ∈ lw_G := List.mem_filter.mpr ⟨List.mem_of_getElem? (i := 664) (by decide +kernel), by decide +kernel⟩
theorem qw_665 : Cond.methodLink "SkyloadBureau$Regulation" 3 (⟨"java/lang/Object", "<init>", "()V"⟩ : MethodName) ∈ lw_G := List.mem_filter.mpr ⟨List.mem_of_getElem? (i := 665) (by decide +kernel), by decide +kernel⟩
theorem qw_666 : Cond.fieldLink "SkyloadBureau$Regulation" 15 "SkyloadBureau$Regulation" "sector" "I" ∈ lw_G := List.mem_filter.mpr ⟨List.mem_of_getElem? (i := 666) (by decide +kernel), by decide +kernel⟩
theorem qw_667 : Cond.fieldLink "SkyloadBureau$Dealing" 65 "SkyloadBureau$Regulation" "sector" "I" ∈ lw_G := List.mem_filter.mpr ⟨List.mem_of_getElem? (i := 667) (by decide +kernel), by decide +kernel⟩
theorem qw_668 : Cond.fieldLink "SkyloadBureau" 236 "SkyloadBureau$Regulation" "sector" "I" ∈ lw_G := List.mem_filter.mpr ⟨List.mem_of_getElem? (i := 668) (by decide +kernel), by decide +kernel⟩
theorem qw_669 : Cond.fieldLink "SkyloadBureau$Regulation" 19 "SkyloadBureau$Regulation" "from" "I" ∈ lw_G := List.mem_filter.mpr ⟨List.mem_of_getElem? (i := 669) (by decide +kernel), by decide +kernel⟩
theorem qw_670 : Cond.fieldLink "SkyloadBureau$Regulation" 22 "SkyloadBureau$Regulation" "to" "I" ∈ lw_G := List.mem_filter.mpr ⟨List.mem_of_getElem? (i := 670) (by decide +kernel), by decide +kernel⟩
theorem qw_671 : Cond.fieldLink "SkyloadBureau$Dealing" 109 "SkyloadBureau$Regulation" "to" "I" ∈ lw_G := List.mem_filter.mpr ⟨List.mem_of_getElem? (i := 671) (by decide +kernel), by decide +kernel⟩
theorem qw_672 : Cond.fieldLink "SkyloadBureau$Regulation" 25 "SkyloadBureau$Regulation" "rate" "I" ∈ lw_G := List.mem_filter.mpr ⟨List.mem_of_getElem? (i := 672) (by decide +kernel), by decide +kernel⟩
theorem qw_673 : Cond.fieldLink "SkyloadBureau" 157 "SkyloadBureau$Regulation" "rate" "I" ∈ lw_G := List.mem_filter.mpr ⟨List.mem_of_getElem? (i := 673) (by decide +kernel), by decide +kernel⟩
theorem qw_674 : Cond.fieldLink "SkyloadBureau$Regulation" 9 "SkyloadBureau$Regulation" "isEnded" "Z" ∈ lw_G := List.mem_filter.mpr ⟨List.mem_of_getElem? (i := 674) (by decide +kernel), by decide +kernel⟩
theorem qw_675 : Cond.fieldLink "SkyloadBureau$Dealing" 50 "SkyloadBureau$Regulation" "isEnded" "Z" ∈ lw_G := List.mem_filter.mpr ⟨List.mem_of_getElem? (i := 675) (by decide +kernel), by decide +kernel⟩
theorem qw_676 : Cond.fieldLink "SkyloadBureau" 160 "SkyloadBureau$Regulation" "isEnded" "Z" ∈ lw_G := List.mem_filter.mpr ⟨List.mem_of_getElem? (i := 676) (by decide +kernel), by decide +kernel⟩
theorem qw_677 : Cond.laysFinal "SkyloadBureau$Regulation" "SkyloadBureau$Regulation" "sector" "I" ∈ lw_G := List.mem_filter.mpr ⟨List.mem_of_getElem? (i := 677) (by decide +kernel), by decide +kernel⟩
theorem qw_679 : Cond.laysFinal "SkyloadBureau$Regulation" "SkyloadBureau$Regulation" "from" "I" ∈ lw_G := List.mem_filter.mpr ⟨List.mem_of_getElem? (i := 679) (by decide +kernel), by decide +kernel⟩
theorem qw_681 : Cond.laysFinal "SkyloadBureau$Regulation" "SkyloadBureau$Regulation" "to" "I" ∈ lw_G := List.mem_filter.mpr ⟨List.mem_of_getElem? (i := 681) (by decide +kernel), by decide +kernel⟩
theorem qw_683 : Cond.lays "SkyloadBureau$Regulation" "SkyloadBureau$Regulation" "rate" "I" ∈ lw_G := List.mem_filter.mpr ⟨List.mem_of_getElem? (i := 683) (by decide +kernel), by decide +kernel⟩
theorem qw_685 : Cond.lays "SkyloadBureau$Regulation" "SkyloadBureau$Regulation" "isEnded" "Z" ∈ lw_G := List.mem_filter.mpr ⟨List.mem_of_getElem? (i := 685) (by decide +kernel), by decide +kernel⟩
theorem qw_687 : Cond.superclass "SkyloadBureau$Regulation" "java/lang/Object" ∈ lw_G := List.mem_filter.mpr ⟨List.mem_of_getElem? (i := 687) (by decide +kernel), by decide +kernel⟩
theorem qw_688 : Cond.methodLink "SkyloadBureauLaw" 130 yL_rate ∈ lw_G := List.mem_filter.mpr ⟨List.mem_of_getElem? (i := 688) (by decide +kernel), by decide +kernel⟩
theorem qw_689 : Cond.static yL_rate ∈ lw_G := List.mem_filter.mpr ⟨List.mem_of_getElem? (i := 689) (by decide +kernel), by decide +kernel⟩
theorem qw_690 : Cond.codeWith yL_rate method_13_code 5 (some FieldType.int) [(0, 10, 13, 13), (0, 10, 17, 15), (0, 10, 21, 17)] ∈ lw_G := List.mem_filter.mpr ⟨List.mem_of_getElem? (i := 690) (by decide +kernel), by decide +kernel⟩
theorem qw_691 : Cond.methodLink "SkyloadBureauLaw" 49 yX4_rate ∈ lw_G := List.mem_filter.mpr ⟨List.mem_of_getElem? (i := 691) (by decide +kernel), by decide +kernel⟩
theorem qw_692 : Cond.instanceMethod yX4_rate ∈ lw_G := List.mem_filter.mpr ⟨List.mem_of_getElem? (i := 692) (by decide +kernel), by decide +kernel⟩
theorem qw_693 : Cond.selects "SkyloadBureau" yX4_rate yX4_rate ∈ lw_G := List.mem_filter.mpr ⟨List.mem_of_getElem? (i := 693) (by decide +kernel), by decide +kernel⟩
theorem qw_694 : Cond.code yX4_rate prog_1_method_12_code 5 (some FieldType.int) ∈ lw_G := List.mem_filter.mpr ⟨List.mem_of_getElem? (i := 694) (by decide +kernel), by decide +kernel⟩
theorem qw_695 : Cond.methodLink "SkyloadBureau" 149 yX4_regulationAt ∈ lw_G := List.mem_filter.mpr ⟨List.mem_of_getElem? (i := 695) (by decide +kernel), by decide +kernel⟩
theorem qw_697 : Cond.instanceMethod yX4_regulationAt ∈ lw_G := List.mem_filter.mpr ⟨List.mem_of_getElem? (i := 697) (by decide +kernel), by decide +kernel⟩
theorem qw_698 : Cond.code yX4_regulationAt prog_1_method_26_code 2 (some (FieldType.object "SkyloadBureau$Regulation")) ∈ lw_G := List.mem_filter.mpr ⟨List.mem_of_getElem? (i := 698) (by decide +kernel), by decide +kernel⟩
theorem qw_700 : Cond.methodLink "SkyloadBureau" 153 yX4_checkNotEnded ∈ lw_G := List.mem_filter.mpr ⟨List.mem_of_getElem? (i := 700) (by decide +kernel), by decide +kernel⟩
theorem qw_701 : Cond.static yX4_checkNotEnded ∈ lw_G := List.mem_filter.mpr ⟨List.mem_of_getElem? (i := 701) (by decide +kernel), by decide +kernel⟩
theorem qw_702 : Cond.code yX4_checkNotEnded prog_1_method_31_code 1 (Option.none : Option Jvm.ClassFile.FieldType) ∈ lw_G := List.mem_filter.mpr ⟨List.mem_of_getElem? (i := 702) (by decide +kernel), by decide +kernel⟩
theorem qw_704 : Cond.methodLink "SkyloadBureauLaw" 133 yL_end ∈ lw_G := List.mem_filter.mpr ⟨List.mem_of_getElem? (i := 704) (by decide +kernel), by decide +kernel⟩
theorem qw_705 : Cond.static yL_end ∈ lw_G := List.mem_filter.mpr ⟨List.mem_of_getElem? (i := 705) (by decide +kernel), by decide +kernel⟩
theorem qw_706 : Cond.codeWith yL_end method_14_code 3 (some FieldType.int) [(0, 5, 8, 13), (0, 5, 11, 17)] ∈ lw_G := List.mem_filter.mpr ⟨List.mem_of_getElem? (i := 706) (by decide +kernel), by decide +kernel⟩
theorem qw_707 : Cond.methodLink "SkyloadBureauLaw" 52 yX4_end ∈ lw_G := List.mem_filter.mpr ⟨List.mem_of_getElem? (i := 707) (by decide +kernel), by decide +kernel⟩
theorem qw_708 : Cond.instanceMethod yX4_end ∈ lw_G := List.mem_filter.mpr ⟨List.mem_of_getElem? (i := 708) (by decide +kernel), by decide +kernel⟩
theorem qw_709 : Cond.selects "SkyloadBureau" yX4_end yX4_end ∈ lw_G := List.mem_filter.mpr ⟨List.mem_of_getElem? (i := 709) (by decide +kernel), by decide +kernel⟩
theorem qw_710 : Cond.code yX4_end prog_1_method_13_code 3 (Option.none : Option Jvm.ClassFile.FieldType) ∈ lw_G := List.mem_filter.mpr ⟨List.mem_of_getElem? (i := 710) (by decide +kernel), by decide +kernel⟩
theorem qw_711 : Cond.methodLink "SkyloadBureauLaw" 137 yL_regulationIs ∈ lw_G := List.mem_filter.mpr ⟨List.mem_of_getElem? (i := 711) (by decide +kernel), by decide +kernel⟩
theorem qw_712 : Cond.static yL_regulationIs ∈ lw_G := List.mem_filter.mpr ⟨List.mem_of_getElem? (i := 712) (by decide +kernel), by decide +kernel⟩
theorem qw_713 : Cond.codeWith yL_regulationIs method_15_code 5 (some FieldType.int) [(0, 10, 13, 13), (0, 10, 17, 15)] ∈ lw_G := List.mem_filter.mpr ⟨List.mem_of_getElem? (i := 713) (by decide +kernel), by decide +kernel⟩
theorem qw_714 : Cond.methodLink "SkyloadBureauLaw" 56 yX4_regulationIs ∈ lw_G := List.mem_filter.mpr ⟨List.mem_of_getElem? (i := 714) (by decide +kernel), by decide +kernel⟩
theorem qw_715 : Cond.instanceMethod yX4_regulationIs ∈ lw_G := List.mem_filter.mpr ⟨List.mem_of_getElem? (i := 715) (by decide +kernel), by decide +kernel⟩
theorem qw_716 : Cond.selects "SkyloadBureau" yX4_regulationIs yX4_regulationIs ∈ lw_G := List.mem_filter.mpr ⟨List.mem_of_getElem? (i := 716) (by decide +kernel), by decide +kernel⟩
theorem qw_717 : Cond.code yX4_regulationIs prog_1_method_14_code 4 (some FieldType.int) ∈ lw_G := List.mem_filter.mpr ⟨List.mem_of_getElem? (i := 717) (by decide +kernel), by decide +kernel⟩
theorem qw_718 : Cond.methodLink "SkyloadBureau" 185 yX4_chargedToRegulation ∈ lw_G := List.mem_filter.mpr ⟨List.mem_of_getElem? (i := 718) (by decide +kernel), by decide +kernel⟩
theorem qw_720 : Cond.instanceMethod yX4_chargedToRegulation ∈ lw_G := List.mem_filter.mpr ⟨List.mem_of_getElem? (i := 720) (by decide +kernel), by decide +kernel⟩
theorem qw_721 : Cond.code yX4_chargedToRegulation prog_1_method_37_code 5 (some FieldType.int) ∈ lw_G := List.mem_filter.mpr ⟨List.mem_of_getElem? (i := 721) (by decide +kernel), by decide +kernel⟩
theorem qw_722 : Cond.methodLink "SkyloadBureau" 276 yX1_charge ∈ lw_G := List.mem_filter.mpr ⟨List.mem_of_getElem? (i := 722) (by decide +kernel), by decide +kernel⟩
theorem qw_723 : Cond.instanceMethod yX1_charge ∈ lw_G := List.mem_filter.mpr ⟨List.mem_of_getElem? (i := 723) (by decide +kernel), by decide +kernel⟩
theorem qw_724 : Cond.selects "SkyloadBureau$Flight" yX1_charge yX1_charge ∈ lw_G := List.mem_filter.mpr ⟨List.mem_of_getElem? (i := 724) (by decide +kernel), by decide +kernel⟩
theorem qw_725 : Cond.code yX1_charge prog_3_method_16_code 1 (some FieldType.int) ∈ lw_G := List.mem_filter.mpr ⟨List.mem_of_getElem? (i := 725) (by decide +kernel), by decide +kernel⟩
theorem qw_726 : Cond.methodLink "SkyloadBureau$Flight" 77 yX1_delay ∈ lw_G := List.mem_filter.mpr ⟨List.mem_of_getElem? (i := 726) (by decide +kernel), by decide +kernel⟩
theorem qw_727 : Cond.methodLink "SkyloadBureauLaw" 140 yL_slot ∈ lw_G := List.mem_filter.mpr ⟨List.mem_of_getElem? (i := 727) (by decide +kernel), by decide +kernel⟩
theorem qw_728 : Cond.static yL_slot ∈ lw_G := List.mem_filter.mpr ⟨List.mem_of_getElem? (i := 728) (by decide +kernel), by decide +kernel⟩
theorem qw_729 : Cond.codeWith yL_slot method_16_code 5 (some FieldType.int) [(0, 10, 13, 13)] ∈ lw_G := List.mem_filter.mpr ⟨List.mem_of_getElem? (i := 729) (by decide +kernel), by decide +kernel⟩
theorem qw_730 : Cond.methodLink "SkyloadBureauLaw" 59 yX4_slot ∈ lw_G := List.mem_filter.mpr ⟨List.mem_of_getElem? (i := 730) (by decide +kernel), by decide +kernel⟩
theorem qw_731 : Cond.instanceMethod yX4_slot ∈ lw_G := List.mem_filter.mpr ⟨List.mem_of_getElem? (i := 731) (by decide +kernel), by decide +kernel⟩
theorem qw_732 : Cond.selects "SkyloadBureau" yX4_slot yX4_slot ∈ lw_G := List.mem_filter.mpr ⟨List.mem_of_getElem? (i := 732) (by decide +kernel), by decide +kernel⟩
theorem qw_733 : Cond.code yX4_slot prog_1_method_15_code 4 (some FieldType.int) ∈ lw_G := List.mem_filter.mpr ⟨List.mem_of_getElem? (i := 733) (by decide +kernel), by decide +kernel⟩
theorem qw_735 : Cond.methodLink "SkyloadBureau" 193 yX3_slotCount ∈ lw_G := List.mem_filter.mpr ⟨List.mem_of_getElem? (i := 735) (by decide +kernel), by decide +kernel⟩
theorem qw_736 : Cond.methodLink "SkyloadBureau" 195 yX3_slotBegin ∈ lw_G := List.mem_filter.mpr ⟨List.mem_of_getElem? (i := 736) (by decide +kernel), by decide +kernel⟩
theorem qw_737 : Cond.methodLink "SkyloadBureauLaw" 143 yL_penalty ∈ lw_G := List.mem_filter.mpr ⟨List.mem_of_getElem? (i := 737) (by decide +kernel), by decide +kernel⟩
theorem qw_738 : Cond.static yL_penalty ∈ lw_G := List.mem_filter.mpr ⟨List.mem_of_getElem? (i := 738) (by decide +kernel), by decide +kernel⟩
theorem qw_739 : Cond.codeWith yL_penalty method_17_code 5 (some FieldType.int) [(0, 10, 13, 13)] ∈ lw_G := List.mem_filter.mpr ⟨List.mem_of_getElem? (i := 739) (by decide +kernel), by decide +kernel⟩
theorem qw_740 : Cond.methodLink "SkyloadBureauLaw" 62 yX4_penalty ∈ lw_G := List.mem_filter.mpr ⟨List.mem_of_getElem? (i := 740) (by decide +kernel), by decide +kernel⟩
theorem qw_741 : Cond.instanceMethod yX4_penalty ∈ lw_G := List.mem_filter.mpr ⟨List.mem_of_getElem? (i := 741) (by decide +kernel), by decide +kernel⟩
theorem qw_742 : Cond.selects "SkyloadBureau" yX4_penalty yX4_penalty ∈ lw_G := List.mem_filter.mpr ⟨List.mem_of_getElem? (i := 742) (by decide +kernel), by decide +kernel⟩
theorem qw_743 : Cond.code yX4_penalty prog_1_method_16_code 4 (some FieldType.int) ∈ lw_G := List.mem_filter.mpr ⟨List.mem_of_getElem? (i := 743) (by decide +kernel), by decide +kernel⟩
theorem qw_744 : Cond.methodLink "SkyloadBureauLaw" 146 yL_due ∈ lw_G := List.mem_filter.mpr ⟨List.mem_of_getElem? (i := 744) (by decide +kernel), by decide +kernel⟩
theorem qw_745 : Cond.static yL_due ∈ lw_G := List.mem_filter.mpr ⟨List.mem_of_getElem? (i := 745) (by decide +kernel), by decide +kernel⟩
theorem qw_746 : Cond.codeWith yL_due method_18_code 4 (some FieldType.int) [(0, 9, 12, 13)] ∈ lw_G := List.mem_filter.mpr ⟨List.mem_of_getElem? (i := 746) (by decide +kernel), by decide +kernel⟩
theorem qw_747 : Cond.methodLink "SkyloadBureauLaw" 65 yX4_due ∈ lw_G := List.mem_filter.mpr ⟨List.mem_of_getElem? (i := 747) (by decide +kernel), by decide +kernel⟩
theorem qw_748 : Cond.instanceMethod yX4_due ∈ lw_G := List.mem_filter.mpr ⟨List.mem_of_getElem? (i := 748) (by decide +kernel), by decide +kernel⟩
theorem qw_749 : Cond.selects "SkyloadBureau" yX4_due yX4_due ∈ lw_G := List.mem_filter.mpr ⟨List.mem_of_getElem? (i := 749) (by decide +kernel), by decide +kernel⟩
theorem qw_750 : Cond.code yX4_due prog_1_method_17_code 3 (some FieldType.int) ∈ lw_G := List.mem_filter.mpr ⟨List.mem_of_getElem? (i := 750) (by decide +kernel), by decide +kernel⟩
theorem qw_751 : Cond.methodLink "SkyloadBureauLaw" 150 yL_dueAnew ∈ lw_G := List.mem_filter.mpr ⟨List.mem_of_getElem? (i := 751) (by decide +kernel), by decide +kernel⟩
theorem qw_752 : Cond.static yL_dueAnew ∈ lw_G := List.mem_filter.mpr ⟨List.mem_of_getElem? (i := 752) (by decide +kernel), by decide +kernel⟩
theorem qw_753 : Cond.codeWith yL_dueAnew method_19_code 4 (some FieldType.int) [(0, 9, 12, 13)] ∈ lw_G := List.mem_filter.mpr ⟨List.mem_of_getElem? (i := 753) (by decide +kernel), by decide +kernel⟩
theorem qw_754 : Cond.methodLink "SkyloadBureauLaw" 69 yX4_dueAnew ∈ lw_G := List.mem_filter.mpr ⟨List.mem_of_getElem? (i := 754) (by decide +kernel), by decide +kernel⟩
theorem qw_755 : Cond.instanceMethod yX4_dueAnew ∈ lw_G := List.mem_filter.mpr ⟨List.mem_of_getElem? (i := 755) (by decide +kernel), by decide +kernel⟩
theorem qw_756 : Cond.selects "SkyloadBureau" yX4_dueAnew yX4_dueAnew ∈ lw_G := List.mem_filter.mpr ⟨List.mem_of_getElem? (i := 756) (by decide +kernel), by decide +kernel⟩
theorem qw_757 : Cond.code yX4_dueAnew prog_1_method_18_code 4 (some FieldType.int) ∈ lw_G := List.mem_filter.mpr ⟨List.mem_of_getElem? (i := 757) (by decide +kernel), by decide +kernel⟩
theorem qw_758 : Cond.methodLink "SkyloadBureau" 207 yX0_penaltyBySlots ∈ lw_G := List.mem_filter.mpr ⟨List.mem_of_getElem? (i := 758) (by decide +kernel), by decide +kernel⟩
theorem qw_759 : Cond.instanceMethod yX0_penaltyBySlots ∈ lw_G := List.mem_filter.mpr ⟨List.mem_of_getElem? (i := 759) (by decide +kernel), by decide +kernel⟩
theorem qw_760 : Cond.selects "SkyloadBureau$Dealing" yX0_penaltyBySlots yX0_penaltyBySlots ∈ lw_G := List.mem_filter.mpr ⟨List.mem_of_getElem? (i := 760) (by decide +kernel), by decide +kernel⟩
theorem qw_761 : Cond.code yX0_penaltyBySlots prog_2_method_5_code 10 (some FieldType.int) ∈ lw_G := List.mem_filter.mpr ⟨List.mem_of_getElem? (i := 761) (by decide +kernel), by decide +kernel⟩
theorem qw_762 : Cond.methodLink "SkyloadBureau$Dealing" 112 yX2_placeOf ∈ lw_G := List.mem_filter.mpr ⟨List.mem_of_getElem? (i := 762) (by decide +kernel), by decide +kernel⟩
theorem qw_763 : Cond.methodLink "SkyloadBureau$Dealing" 115 yX2_canTake ∈ lw_G := List.mem_filter.mpr ⟨List.mem_of_getElem? (i := 763) (by decide +kernel), by decide +kernel⟩
theorem qw_764 : Cond.instanceMethod yX2_canTake ∈ lw_G := List.mem_filter.mpr ⟨List.mem_of_getElem? (i := 764) (by decide +kernel), by decide +kernel⟩
theorem qw_765 : Cond.selects "SkyloadBureau$Line" yX2_canTake yX2_canTake ∈ lw_G := List.mem_filter.mpr ⟨List.mem_of_getElem? (i := 765) (by decide +kernel), by decide +kernel⟩
theorem qw_766 : Cond.code yX2_canTake prog_4_method_11_code 3 (some FieldType.boolean) ∈ lw_G := List.mem_filter.mpr ⟨List.mem_of_getElem? (i := 766) (by decide +kernel), by decide +kernel⟩
theorem qw_767 : Cond.methodLink "SkyloadBureauLaw" 157 yL_would ∈ lw_G := List.mem_filter.mpr ⟨List.mem_of_getElem? (i := 767) (by decide +kernel), by decide +kernel⟩
theorem qw_768 : Cond.static yL_would ∈ lw_G := List.mem_filter.mpr ⟨List.mem_of_getElem? (i := 768) (by decide +kernel), by decide +kernel⟩
theorem qw_769 : Cond.codeWith yL_would method_20_code 7 (some FieldType.int) [(0, 14, 17, 13), (0, 14, 21, 15)] ∈ lw_G := List.mem_filter.mpr ⟨List.mem_of_getElem? (i := 769) (by decide +kernel), by decide +kernel⟩
theorem qw_770 : Cond.methodLink "SkyloadBureauLaw" 72 yX4_would ∈ lw_G := List.mem_filter.mpr ⟨List.mem_of_getElem? (i := 770) (by decide +kernel), by decide +kernel⟩
theorem qw_771 : Cond.instanceMethod yX4_would ∈ lw_G := List.mem_filter.mpr ⟨List.mem_of_getElem? (i := 771) (by decide +kernel), by decide +kernel⟩
theorem qw_772 : Cond.selects "SkyloadBureau" yX4_would yX4_would ∈ lw_G := List.mem_filter.mpr ⟨List.mem_of_getElem? (i := 772) (by decide +kernel), by decide +kernel⟩
theorem qw_773 : Cond.code yX4_would prog_1_method_20_code 5 (some FieldType.int) ∈ lw_G := List.mem_filter.mpr ⟨List.mem_of_getElem? (i := 773) (by decide +kernel), by decide +kernel⟩
theorem qw_774 : Cond.methodLink "SkyloadBureauLaw" 165 yL_swap ∈ lw_G := List.mem_filter.mpr ⟨List.mem_of_getElem? (i := 774) (by decide +kernel), by decide +kernel⟩
theorem qw_775 : Cond.static yL_swap ∈ lw_G := List.mem_filter.mpr ⟨List.mem_of_getElem? (i := 775) (by decide +kernel), by decide +kernel⟩
theorem qw_776 : Cond.codeWith yL_swap method_21_code 4 (some FieldType.int) [(0, 6, 9, 13), (0, 6, 12, 15), (0, 6, 15, 17)] ∈ lw_G := List.mem_filter.mpr ⟨List.mem_of_getElem? (i := 776) (by decide +kernel), by decide +kernel⟩
theorem qw_777 : Cond.methodLink "SkyloadBureauLaw" 75 yX4_swap ∈ lw_G := List.mem_filter.mpr ⟨List.mem_of_getElem? (i := 777) (by decide +kernel), by decide +kernel⟩
theorem qw_778 : Cond.instanceMethod yX4_swap ∈ lw_G := List.mem_filter.mpr ⟨List.mem_of_getElem? (i := 778) (by decide +kernel), by decide +kernel⟩
theorem qw_779 : Cond.selects "SkyloadBureau" yX4_swap yX4_swap ∈ lw_G := List.mem_filter.mpr ⟨List.mem_of_getElem? (i := 779) (by decide +kernel), by decide +kernel⟩
theorem qw_780 : Cond.code yX4_swap prog_1_method_22_code 8 (Option.none : Option Jvm.ClassFile.FieldType) ∈ lw_G := List.mem_filter.mpr ⟨List.mem_of_getElem? (i := 780) (by decide +kernel), by decide +kernel⟩
theorem qw_782 : Cond.methodLink "SkyloadBureau" 230 yX1_sharesRuling ∈ lw_G := List.mem_filter.mpr ⟨List.mem_of_getElem? (i := 782) (by decide +kernel), by decide +kernel⟩
theorem qw_783 : Cond.instanceMethod yX1_sharesRuling ∈ lw_G := List.mem_filter.mpr ⟨List.mem_of_getElem? (i := 783) (by decide +kernel), by decide +kernel⟩
theorem qw_784 : Cond.selects "SkyloadBureau$Flight" yX1_sharesRuling yX1_sharesRuling ∈ lw_G := List.mem_filter.mpr ⟨List.mem_of_getElem? (i := 784) (by decide +kernel), by decide +kernel⟩
theorem qw_785 : Cond.code yX1_sharesRuling prog_3_method_22_code 2 (some FieldType.boolean) ∈ lw_G := List.mem_filter.mpr ⟨List.mem_of_getElem? (i := 785) (by decide +kernel), by decide +kernel⟩
theorem qw_787 : Cond.methodLink "SkyloadBureau" 239 yX1_behindAt ∈ lw_G := List.mem_filter.mpr ⟨List.mem_of_getElem? (i := 787) (by decide +kernel), by decide +kernel⟩
theorem qw_789 : Cond.methodLink "SkyloadBureauLaw" 169 yL_message ∈ lw_G := List.mem_filter.mpr ⟨List.mem_of_getElem? (i := 789) (by decide +kernel), by decide +kernel⟩
theorem qw_790 : Cond.static yL_message ∈ lw_G := List.mem_filter.mpr ⟨List.mem_of_getElem? (i := 790) (by decide +kernel), by decide +kernel⟩
theorem qw_791 : Cond.codeWith yL_message method_22_code 7 (some FieldType.int) [(0, 21, 24, 13), (0, 21, 28, 15)] ∈ lw_G := List.mem_filter.mpr ⟨List.mem_of_getElem? (i := 791) (by decide +kernel), by decide +kernel⟩
theorem qw_792 : Cond.methodLink "SkyloadBureauLaw" 79 yX4_message ∈ lw_G := List.mem_filter.mpr ⟨List.mem_of_getElem? (i := 792) (by decide +kernel), by decide +kernel⟩
theorem qw_793 : Cond.instanceMethod yX4_message ∈ lw_G := List.mem_filter.mpr ⟨List.mem_of_getElem? (i := 793) (by decide +kernel), by decide +kernel⟩
theorem qw_794 : Cond.selects "SkyloadBureau" yX4_message yX4_message ∈ lw_G := List.mem_filter.mpr ⟨List.mem_of_getElem? (i := 794) (by decide +kernel), by decide +kernel⟩
theorem qw_795 : Cond.code yX4_message prog_1_method_23_code 6 (some FieldType.boolean) ∈ lw_G := List.mem_filter.mpr ⟨List.mem_of_getElem? (i := 795) (by decide +kernel), by decide +kernel⟩
theorem qw_796 : Cond.methodLink "SkyloadBureau" 244 yX1_follow ∈ lw_G := List.mem_filter.mpr ⟨List.mem_of_getElem? (i := 796) (by decide +kernel), by decide +kernel⟩
theorem qw_797 : Cond.instanceMethod yX1_follow ∈ lw_G := List.mem_filter.mpr ⟨List.mem_of_getElem? (i := 797) (by decide +kernel), by decide +kernel⟩
theorem qw_798 : Cond.selects "SkyloadBureau$Flight" yX1_follow yX1_follow ∈ lw_G := List.mem_filter.mpr ⟨List.mem_of_getElem? (i := 798) (by decide +kernel), by decide +kernel⟩
theorem qw_799 : Cond.code yX1_follow prog_3_method_23_code 3 (Option.none : Option Jvm.ClassFile.FieldType) ∈ lw_G := List.mem_filter.mpr ⟨List.mem_of_getElem? (i := 799) (by decide +kernel), by decide +kernel⟩
theorem qw_800 : Cond.methodLink "SkyloadBureauLaw" 172 yL_companyIs ∈ lw_G := List.mem_filter.mpr ⟨List.mem_of_getElem? (i := 800) (by decide +kernel), by decide +kernel⟩
theorem qw_801 : Cond.static yL_companyIs ∈ lw_G := List.mem_filter.mpr ⟨List.mem_of_getElem? (i := 801) (by decide +kernel), by decide +kernel⟩
theorem qw_802 : Cond.codeWith yL_companyIs method_23_code 5 (some FieldType.int) [(0, 10, 13, 13), (0, 10, 17, 15)] ∈ lw_G := List.mem_filter.mpr ⟨List.mem_of_getElem? (i := 802) (by decide +kernel), by decide +kernel⟩
theorem qw_803 : Cond.methodLink "SkyloadBureauLaw" 83 yX4_companyIs ∈ lw_G := List.mem_filter.mpr ⟨List.mem_of_getElem? (i := 803) (by decide +kernel), by decide +kernel⟩
theorem qw_804 : Cond.instanceMethod yX4_companyIs ∈ lw_G := List.mem_filter.mpr ⟨List.mem_of_getElem? (i := 804) (by decide +kernel), by decide +kernel⟩
theorem qw_805 : Cond.selects "SkyloadBureau" yX4_companyIs yX4_companyIs ∈ lw_G := List.mem_filter.mpr ⟨List.mem_of_getElem? (i := 805) (by decide +kernel), by decide +kernel⟩
theorem qw_806 : Cond.code yX4_companyIs prog_1_method_24_code 6 (some FieldType.int) ∈ lw_G := List.mem_filter.mpr ⟨List.mem_of_getElem? (i := 806) (by decide +kernel), by decide +kernel⟩
theorem qw_807 : Cond.methodLink "SkyloadBureau" 250 yX1_ledgerLine ∈ lw_G := List.mem_filter.mpr ⟨List.mem_of_getElem? (i := 807) (by decide +kernel), by decide +kernel⟩
theorem qw_808 : Cond.instanceMethod yX1_ledgerLine ∈ lw_G := List.mem_filter.mpr ⟨List.mem_of_getElem? (i := 808) (by decide +kernel), by decide +kernel⟩
theorem qw_809 : Cond.selects "SkyloadBureau$Flight" yX1_ledgerLine yX1_ledgerLine ∈ lw_G := List.mem_filter.mpr ⟨List.mem_of_getElem? (i := 809) (by decide +kernel), by decide +kernel⟩
theorem qw_810 : Cond.code yX1_ledgerLine prog_3_method_18_code 2 (some FieldType.int) ∈ lw_G := List.mem_filter.mpr ⟨List.mem_of_getElem? (i := 810) (by decide +kernel), by decide +kernel⟩
theorem qw_811 : Cond.methodLink "SkyloadBureau$Flight" 80 yX1_charge ∈ lw_G := List.mem_filter.mpr ⟨List.mem_of_getElem? (i := 811) (by decide +kernel), by decide +kernel⟩
theorem qw_812 : Cond.methodLink "SkyloadBureau$Flight" 83 yX1_wentOutOfWindow ∈ lw_G := List.mem_filter.mpr ⟨List.mem_of_getElem? (i := 812) (by decide +kernel), by decide +kernel⟩
theorem qw_813 : Cond.instanceMethod yX1_wentOutOfWindow ∈ lw_G := List.mem_filter.mpr ⟨List.mem_of_getElem? (i := 813) (by decide +kernel), by decide +kernel⟩
theorem qw_814 : Cond.selects "SkyloadBureau$Flight" yX1_wentOutOfWindow yX1_wentOutOfWindow ∈ lw_G := List.mem_filter.mpr ⟨List.mem_of_getElem? (i := 814) (by decide +kernel), by decide +kernel⟩
theorem qw_815 : Cond.code yX1_wentOutOfWindow prog_3_method_17_code 1 (some FieldType.boolean) ∈ lw_G := List.mem_filter.mpr ⟨List.mem_of_getElem? (i := 815) (by decide +kernel), by decide +kernel⟩
theorem qw_816 : Cond.classLink "SkyloadBureauLaw" 87 "SkyloadBureauModel" ∈ lw_G := List.mem_filter.mpr ⟨List.mem_of_getElem? (i := 816) (by decide +kernel), by decide +kernel⟩
theorem qw_817 : Cond.instantiable "SkyloadBureauModel" 30 ∈ lw_G := List.mem_filter.mpr ⟨List.mem_of_getElem? (i := 817) (by decide +kernel), by decide +kernel⟩
theorem qw_818 : Cond.methodLink "SkyloadBureauLaw" 89 yX5_init ∈ lw_G := List.mem_filter.mpr ⟨List.mem_of_getElem? (i := 818) (by decide +kernel), by decide +kernel⟩
theorem qw_819 : Cond.instanceMethod yX5_init ∈ lw_G := List.mem_filter.mpr ⟨List.mem_of_getElem? (i := 819) (by decide +kernel), by decide +kernel⟩
theorem qw_820 : Cond.code yX5_init prog_7_method_1_code 1 (Option.none : Option Jvm.ClassFile.FieldType) ∈ lw_G := List.mem_filter.mpr ⟨List.mem_of_getElem? (i := 820) (by decide +kernel), by decide +kernel⟩
theorem qw_821 : Cond.methodLink "SkyloadBureauModel" 1 (⟨"java/lang/Object", "<init>", "()V"⟩ : MethodName) ∈ lw_G := List.mem_filter.mpr ⟨List.mem_of_getElem? (i := 821) (by decide +kernel), by decide +kernel⟩
theorem qw_822 : Cond.fieldLink "SkyloadBureauModel" 77 "SkyloadBureauModel" "thrown" "I" ∈ lw_G := List.mem_filter.mpr ⟨List.mem_of_getElem? (i := 822) (by decide +kernel), by decide +kernel⟩
theorem qw_823 : Cond.fieldLink "SkyloadBureauModel" 81 "SkyloadBureauModel" "flights" "I" ∈ lw_G := List.mem_filter.mpr ⟨List.mem_of_getElem? (i := 823) (by decide +kernel), by decide +kernel⟩
theorem qw_824 : Cond.fieldLink "SkyloadBureauModel" 7 "SkyloadBureauModel" "company" "[I" ∈ lw_G := List.mem_filter.mpr ⟨List.mem_of_getElem? (i := 824) (by decide +kernel), by decide +kernel⟩
theorem qw_825 : Cond.fieldLink "SkyloadBureauModel" 13 "SkyloadBureauModel" "planned" "[I" ∈ lw_G := List.mem_filter.mpr ⟨List.mem_of_getElem? (i := 825) (by decide +kernel), by decide +kernel⟩
theorem qw_826 : Cond.fieldLink "SkyloadBureauModel" 16 "SkyloadBureauModel" "how" "[I" ∈ lw_G := List.mem_filter.mpr ⟨List.mem_of_getElem? (i := 826) (by decide +kernel), by decide +kernel⟩
theorem qw_827 : Cond.fieldLink "SkyloadBureauModel" 19 "SkyloadBureauModel" "went" "[I" ∈ lw_G := List.mem_filter.mpr ⟨List.mem_of_getElem? (i := 827) (by decide +kernel), by decide +kernel⟩
theorem qw_828 : Cond.fieldLink "SkyloadBureauModel" 22 "SkyloadBureauModel" "slot" "[I" ∈ lw_G := List.mem_filter.mpr ⟨List.mem_of_getElem? (i := 828) (by decide +kernel), by decide +kernel⟩
theorem qw_829 : Cond.fieldLink "SkyloadBureauModel" 25 "SkyloadBureauModel" "ruling" "[I" ∈ lw_G := List.mem_filter.mpr ⟨List.mem_of_getElem? (i := 829) (by decide +kernel), by decide +kernel⟩
theorem qw_830 : Cond.fieldLink "SkyloadBureauModel" 28 "SkyloadBureauModel" "entries" "[I" ∈ lw_G := List.mem_filter.mpr ⟨List.mem_of_getElem? (i := 830) (by decide +kernel), by decide +kernel⟩
theorem qw_831 : Cond.fieldLink "SkyloadBureauModel" 31 "SkyloadBureauModel" "latest" "[I" ∈ lw_G := List.mem_filter.mpr ⟨List.mem_of_getElem? (i := 831) (by decide +kernel), by decide +kernel⟩
theorem qw_832 : Cond.fieldLink "SkyloadBureauModel" 34 "SkyloadBureauModel" "message" "[I" ∈ lw_G := List.mem_filter.mpr ⟨List.mem_of_getElem? (i := 832) (by decide +kernel), by decide +kernel⟩
theorem qw_833 : Cond.fieldLink "SkyloadBureauModel" 37 "SkyloadBureauModel" "isExempt" "[Z" ∈ lw_G := List.mem_filter.mpr ⟨List.mem_of_getElem? (i := 833) (by decide +kernel), by decide +kernel⟩
theorem qw_834 : Cond.fieldLink "SkyloadBureauModel" 41 "SkyloadBureauModel" "behind" "[I" ∈ lw_G := List.mem_filter.mpr ⟨List.mem_of_getElem? (i := 834) (by decide +kernel), by decide +kernel⟩
theorem qw_835 : Cond.fieldLink "SkyloadBureauModel" 44 "SkyloadBureauModel" "stays" "[I" ∈ lw_G := List.mem_filter.mpr ⟨List.mem_of_getElem? (i := 835) (by decide +kernel), by decide +kernel⟩
theorem qw_836 : Cond.fieldLink "SkyloadBureauModel" 88 "SkyloadBureauModel" "regulations" "I" ∈ lw_G := List.mem_filter.mpr ⟨List.mem_of_getElem? (i := 836) (by decide +kernel), by decide +kernel⟩
theorem qw_837 : Cond.fieldLink "SkyloadBureauModel" 47 "SkyloadBureauModel" "sector" "[I" ∈ lw_G := List.mem_filter.mpr ⟨List.mem_of_getElem? (i := 837) (by decide +kernel), by decide +kernel⟩
theorem qw_838 : Cond.fieldLink "SkyloadBureauModel" 50 "SkyloadBureauModel" "from" "[I" ∈ lw_G := List.mem_filter.mpr ⟨List.mem_of_getElem? (i := 838) (by decide +kernel), by decide +kernel⟩
theorem qw_839 : Cond.fieldLink "SkyloadBureauModel" 53 "SkyloadBureauModel" "to" "[I" ∈ lw_G := List.mem_filter.mpr ⟨List.mem_of_getElem? (i := 839) (by decide +kernel), by decide +kernel⟩
theorem qw_840 : Cond.fieldLink "SkyloadBureauModel" 56 "SkyloadBureauModel" "rate" "[I" ∈ lw_G := List.mem_filter.mpr ⟨List.mem_of_getElem? (i := 840) (by decide +kernel), by decide +kernel⟩
theorem qw_841 : Cond.fieldLink "SkyloadBureauModel" 59 "SkyloadBureauModel" "charged" "[I" ∈ lw_G := List.mem_filter.mpr ⟨List.mem_of_getElem? (i := 841) (by decide +kernel), by decide +kernel⟩
theorem qw_842 : Cond.fieldLink "SkyloadBureauModel" 62 "SkyloadBureauModel" "isEnded" "[Z" ∈ lw_G := List.mem_filter.mpr ⟨List.mem_of_getElem? (i := 842) (by decide +kernel), by decide +kernel⟩
theorem qw_843 : Cond.fieldLink "SkyloadBureauModel" 65 "SkyloadBureauModel" "bill" "[I" ∈ lw_G := List.mem_filter.mpr ⟨List.mem_of_getElem? (i := 843) (by decide +kernel), by decide +kernel⟩
theorem qw_844 : Cond.fieldLink "SkyloadBureauModel" 68 "SkyloadBureauModel" "outside" "[I" ∈ lw_G := List.mem_filter.mpr ⟨List.mem_of_getElem? (i := 844) (by decide +kernel), by decide +kernel⟩
theorem qw_845 : Cond.fieldLink "SkyloadBureauModel" 71 "SkyloadBureauModel" "isTaken" "[Z" ∈ lw_G := List.mem_filter.mpr ⟨List.mem_of_getElem? (i := 845) (by decide +kernel), by decide +kernel⟩
theorem qw_846 : Cond.fieldLink "SkyloadBureauModel" 130 "SkyloadBureauModel" "slots" "I" ∈ lw_G := List.mem_filter.mpr ⟨List.mem_of_getElem? (i := 846) (by decide +kernel), by decide +kernel⟩
theorem qw_847 : Cond.fieldLink "SkyloadBureauModel" 146 "SkyloadBureauModel" "free" "I" ∈ lw_G := List.mem_filter.mpr ⟨List.mem_of_getElem? (i := 847) (by decide +kernel), by decide +kernel⟩
theorem qw_848 : Cond.fieldLink "SkyloadBureauModel" 149 "SkyloadBureauModel" "fixed" "I" ∈ lw_G := List.mem_filter.mpr ⟨List.mem_of_getElem? (i := 848) (by decide +kernel), by decide +kernel⟩
theorem qw_849 : Cond.fieldLink "SkyloadBureauModel" 152 "SkyloadBureauModel" "listed" "I" ∈ lw_G := List.mem_filter.mpr ⟨List.mem_of_getElem? (i := 849) (by decide +kernel), by decide +kernel⟩
theorem qw_850 : Cond.fieldLink "SkyloadBureauModel" 155 "SkyloadBureauModel" "without" "I" ∈ lw_G := List.mem_filter.mpr ⟨List.mem_of_getElem? (i := 850) (by decide +kernel), by decide +kernel⟩
theorem qw_851 : Cond.fieldLink "SkyloadBureauModel" 74 "SkyloadBureauModel" "penalty" "[I" ∈ lw_G := List.mem_filter.mpr ⟨List.mem_of_getElem? (i := 851) (by decide +kernel), by decide +kernel⟩
theorem qw_852 : Cond.lays "SkyloadBureauModel" "SkyloadBureauModel" "thrown" "I" ∈ lw_G := List.mem_filter.mpr ⟨List.mem_of_getElem? (i := 852) (by decide +kernel), by decide +kernel⟩
theorem qw_854 : Cond.lays "SkyloadBureauModel" "SkyloadBureauModel" "flights" "I" ∈ lw_G := List.mem_filter.mpr ⟨List.mem_of_getElem? (i := 854) (by decide +kernel), by decide +kernel⟩
theorem qw_856 : Cond.laysFinal "SkyloadBureauModel" "SkyloadBureauModel" "company" "[I" ∈ lw_G := List.mem_filter.mpr ⟨List.mem_of_getElem? (i := 856) (by decide +kernel), by decide +kernel⟩
theorem qw_858 : Cond.laysFinal "SkyloadBureauModel" "SkyloadBureauModel" "planned" "[I" ∈ lw_G := List.mem_filter.mpr ⟨List.mem_of_getElem? (i := 858) (by decide +kernel), by decide +kernel⟩
theorem qw_860 : Cond.laysFinal "SkyloadBureauModel" "SkyloadBureauModel" "how" "[I" ∈ lw_G := List.mem_filter.mpr ⟨List.mem_of_getElem? (i := 860) (by decide +kernel), by decide +kernel⟩
theorem qw_862 : Cond.laysFinal "SkyloadBureauModel" "SkyloadBureauModel" "went" "[I" ∈ lw_G := List.mem_filter.mpr ⟨List.mem_of_getElem? (i := 862) (by decide +kernel), by decide +kernel⟩
theorem qw_864 : Cond.laysFinal "SkyloadBureauModel" "SkyloadBureauModel" "slot" "[I" ∈ lw_G := List.mem_filter.mpr ⟨List.mem_of_getElem? (i := 864) (by decide +kernel), by decide +kernel⟩
theorem qw_866 : Cond.laysFinal "SkyloadBureauModel" "SkyloadBureauModel" "ruling" "[I" ∈ lw_G := List.mem_filter.mpr ⟨List.mem_of_getElem? (i := 866) (by decide +kernel), by decide +kernel⟩
theorem qw_868 : Cond.laysFinal "SkyloadBureauModel" "SkyloadBureauModel" "entries" "[I" ∈ lw_G := List.mem_filter.mpr ⟨List.mem_of_getElem? (i := 868) (by decide +kernel), by decide +kernel⟩
theorem qw_870 : Cond.laysFinal "SkyloadBureauModel" "SkyloadBureauModel" "latest" "[I" ∈ lw_G := List.mem_filter.mpr ⟨List.mem_of_getElem? (i := 870) (by decide +kernel), by decide +kernel⟩
theorem qw_872 : Cond.laysFinal "SkyloadBureauModel" "SkyloadBureauModel" "message" "[I" ∈ lw_G := List.mem_filter.mpr ⟨List.mem_of_getElem? (i := 872) (by decide +kernel), by decide +kernel⟩
theorem qw_874 : Cond.laysFinal "SkyloadBureauModel" "SkyloadBureauModel" "isExempt" "[Z" ∈ lw_G := List.mem_filter.mpr ⟨List.mem_of_getElem? (i := 874) (by decide +kernel), by decide +kernel⟩
theorem qw_876 : Cond.laysFinal "SkyloadBureauModel" "SkyloadBureauModel" "behind" "[I" ∈ lw_G := List.mem_filter.mpr ⟨List.mem_of_getElem? (i := 876) (by decide +kernel), by decide +kernel⟩
theorem qw_878 : Cond.laysFinal "SkyloadBureauModel" "SkyloadBureauModel" "stays" "[I" ∈ lw_G := List.mem_filter.mpr ⟨List.mem_of_getElem? (i := 878) (by decide +kernel), by decide +kernel⟩
theorem qw_880 : Cond.lays "SkyloadBureauModel" "SkyloadBureauModel" "regulations" "I" ∈ lw_G := List.mem_filter.mpr ⟨List.mem_of_getElem? (i := 880) (by decide +kernel), by decide +kernel⟩
theorem qw_882 : Cond.laysFinal "SkyloadBureauModel" "SkyloadBureauModel" "sector" "[I" ∈ lw_G := List.mem_filter.mpr ⟨List.mem_of_getElem? (i := 882) (by decide +kernel), by decide +kernel⟩
theorem qw_884 : Cond.laysFinal "SkyloadBureauModel" "SkyloadBureauModel" "from" "[I" ∈ lw_G := List.mem_filter.mpr ⟨List.mem_of_getElem? (i := 884) (by decide +kernel), by decide +kernel⟩
theorem qw_886 : Cond.laysFinal "SkyloadBureauModel" "SkyloadBureauModel" "to" "[I" ∈ lw_G := List.mem_filter.mpr ⟨List.mem_of_getElem? (i := 886) (by decide +kernel), by decide +kernel⟩
theorem qw_888 : Cond.laysFinal "SkyloadBureauModel" "SkyloadBureauModel" "rate" "[I" ∈ lw_G := List.mem_filter.mpr ⟨List.mem_of_getElem? (i := 888) (by decide +kernel), by decide +kernel⟩
theorem qw_890 : Cond.laysFinal "SkyloadBureauModel" "SkyloadBureauModel" "charged" "[I" ∈ lw_G := List.mem_filter.mpr ⟨List.mem_of_getElem? (i := 890) (by decide +kernel), by decide +kernel⟩
theorem qw_892 : Cond.laysFinal "SkyloadBureauModel" "SkyloadBureauModel" "isEnded" "[Z" ∈ lw_G := List.mem_filter.mpr ⟨List.mem_of_getElem? (i := 892) (by decide +kernel), by decide +kernel⟩
theorem qw_894 : Cond.laysFinal "SkyloadBureauModel" "SkyloadBureauModel" "bill" "[I" ∈ lw_G := List.mem_filter.mpr ⟨List.mem_of_getElem? (i := 894) (by decide +kernel), by decide +kernel⟩
theorem qw_896 : Cond.laysFinal "SkyloadBureauModel" "SkyloadBureauModel" "outside" "[I" ∈ lw_G := List.mem_filter.mpr ⟨List.mem_of_getElem? (i := 896) (by decide +kernel), by decide +kernel⟩
theorem qw_898 : Cond.laysFinal "SkyloadBureauModel" "SkyloadBureauModel" "isTaken" "[Z" ∈ lw_G := List.mem_filter.mpr ⟨List.mem_of_getElem? (i := 898) (by decide +kernel), by decide +kernel⟩
theorem qw_900 : Cond.lays "SkyloadBureauModel" "SkyloadBureauModel" "slots" "I" ∈ lw_G := List.mem_filter.mpr ⟨List.mem_of_getElem? (i := 900) (by decide +kernel), by decide +kernel⟩
theorem qw_902 : Cond.lays "SkyloadBureauModel" "SkyloadBureauModel" "free" "I" ∈ lw_G := List.mem_filter.mpr ⟨List.mem_of_getElem? (i := 902) (by decide +kernel), by decide +kernel⟩
theorem qw_904 : Cond.lays "SkyloadBureauModel" "SkyloadBureauModel" "fixed" "I" ∈ lw_G := List.mem_filter.mpr ⟨List.mem_of_getElem? (i := 904) (by decide +kernel), by decide +kernel⟩
theorem qw_906 : Cond.lays "SkyloadBureauModel" "SkyloadBureauModel" "listed" "I" ∈ lw_G := List.mem_filter.mpr ⟨List.mem_of_getElem? (i := 906) (by decide +kernel), by decide +kernel⟩
theorem qw_908 : Cond.lays "SkyloadBureauModel" "SkyloadBureauModel" "without" "I" ∈ lw_G := List.mem_filter.mpr ⟨List.mem_of_getElem? (i := 908) (by decide +kernel), by decide +kernel⟩
theorem qw_910 : Cond.laysFinal "SkyloadBureauModel" "SkyloadBureauModel" "penalty" "[I" ∈ lw_G := List.mem_filter.mpr ⟨List.mem_of_getElem? (i := 910) (by decide +kernel), by decide +kernel⟩
theorem qw_912 : Cond.superclass "SkyloadBureauModel" "java/lang/Object" ∈ lw_G := List.mem_filter.mpr ⟨List.mem_of_getElem? (i := 912) (by decide +kernel), by decide +kernel⟩
theorem qw_913 : Cond.arrayClass FieldType.boolean ∈ lw_G := List.mem_filter.mpr ⟨List.mem_of_getElem? (i := 913) (by decide +kernel), by decide +kernel⟩
theorem qw_914 : Cond.methodLink "SkyloadBureauLaw" 96 yX5_thrown ∈ lw_G := List.mem_filter.mpr ⟨List.mem_of_getElem? (i := 914) (by decide +kernel), by decide +kernel⟩
theorem qw_915 : Cond.instanceMethod yX5_thrown ∈ lw_G := List.mem_filter.mpr ⟨List.mem_of_getElem? (i := 915) (by decide +kernel), by decide +kernel⟩
theorem qw_916 : Cond.selects "SkyloadBureauModel" yX5_thrown yX5_thrown ∈ lw_G := List.mem_filter.mpr ⟨List.mem_of_getElem? (i := 916) (by decide +kernel), by decide +kernel⟩
theorem qw_917 : Cond.code yX5_thrown prog_7_method_2_code 1 (some FieldType.int) ∈ lw_G := List.mem_filter.mpr ⟨List.mem_of_getElem? (i := 917) (by decide +kernel), by decide +kernel⟩
theorem qw_918 : Cond.methodLink "SkyloadBureauLaw" 95 yX5_flight ∈ lw_G := List.mem_filter.mpr ⟨List.mem_of_getElem? (i := 918) (by decide +kernel), by decide +kernel⟩
theorem qw_919 : Cond.instanceMethod yX5_flight ∈ lw_G := List.mem_filter.mpr ⟨List.mem_of_getElem? (i := 919) (by decide +kernel), by decide +kernel⟩
theorem qw_920 : Cond.selects "SkyloadBureauModel" yX5_flight yX5_flight ∈ lw_G := List.mem_filter.mpr ⟨List.mem_of_getElem? (i := 920) (by decide +kernel), by decide +kernel⟩
theorem qw_921 : Cond.code yX5_flight prog_7_method_8_code 4 (some FieldType.int) ∈ lw_G := List.mem_filter.mpr ⟨List.mem_of_getElem? (i := 921) (by decide +kernel), by decide +kernel⟩
theorem qw_922 : Cond.methodLink "SkyloadBureauModel" 84 yX5_isIn ∈ lw_G := List.mem_filter.mpr ⟨List.mem_of_getElem? (i := 922) (by decide +kernel), by decide +kernel⟩
theorem qw_923 : Cond.static yX5_isIn ∈ lw_G := List.mem_filter.mpr ⟨List.mem_of_getElem? (i := 923) (by decide +kernel), by decide +kernel⟩
theorem qw_924 : Cond.code yX5_isIn prog_7_method_4_code 3 (some FieldType.boolean) ∈ lw_G := List.mem_filter.mpr ⟨List.mem_of_getElem? (i := 924) (by decide +kernel), by decide +kernel⟩
theorem qw_925 : Cond.methodLink "SkyloadBureauModel" 91 yX5_holds ∈ lw_G := List.mem_filter.mpr ⟨List.mem_of_getElem? (i := 925) (by decide +kernel), by decide +kernel⟩
theorem qw_927 : Cond.instanceMethod yX5_holds ∈ lw_G := List.mem_filter.mpr ⟨List.mem_of_getElem? (i := 927) (by decide +kernel), by decide +kernel⟩
theorem qw_928 : Cond.code yX5_holds prog_7_method_3_code 2 (some FieldType.boolean) ∈ lw_G := List.mem_filter.mpr ⟨List.mem_of_getElem? (i := 928) (by decide +kernel), by decide +kernel⟩
theorem qw_929 : Cond.methodLink "SkyloadBureauLaw" 103 yX5_entry ∈ lw_G := List.mem_filter.mpr ⟨List.mem_of_getElem? (i := 929) (by decide +kernel), by decide +kernel⟩
theorem qw_930 : Cond.instanceMethod yX5_entry ∈ lw_G := List.mem_filter.mpr ⟨List.mem_of_getElem? (i := 930) (by decide +kernel), by decide +kernel⟩
theorem qw_931 : Cond.selects "SkyloadBureauModel" yX5_entry yX5_entry ∈ lw_G := List.mem_filter.mpr ⟨List.mem_of_getElem? (i := 931) (by decide +kernel), by decide +kernel⟩
theorem qw_932 : Cond.code yX5_entry prog_7_method_9_code 8 (some FieldType.int) ∈ lw_G := List.mem_filter.mpr ⟨List.mem_of_getElem? (i := 932) (by decide +kernel), by decide +kernel⟩
theorem qw_933 : Cond.methodLink "SkyloadBureauModel" 95 yX5_isFlight ∈ lw_G := List.mem_filter.mpr ⟨List.mem_of_getElem? (i := 933) (by decide +kernel), by decide +kernel⟩
theorem qw_935 : Cond.instanceMethod yX5_isFlight ∈ lw_G := List.mem_filter.mpr ⟨List.mem_of_getElem? (i := 935) (by decide +kernel), by decide +kernel⟩
theorem qw_936 : Cond.code yX5_isFlight prog_7_method_5_code 2 (some FieldType.boolean) ∈ lw_G := List.mem_filter.mpr ⟨List.mem_of_getElem? (i := 936) (by decide +kernel), by decide +kernel⟩
theorem qw_937 : Cond.methodLink "SkyloadBureauModel" 98 yX5_isSector ∈ lw_G := List.mem_filter.mpr ⟨List.mem_of_getElem? (i := 937) (by decide +kernel), by decide +kernel⟩
theorem qw_938 : Cond.static yX5_isSector ∈ lw_G := List.mem_filter.mpr ⟨List.mem_of_getElem? (i := 938) (by decide +kernel), by decide +kernel⟩
theorem qw_939 : Cond.code yX5_isSector prog_7_method_7_code 1 (some FieldType.boolean) ∈ lw_G := List.mem_filter.mpr ⟨List.mem_of_getElem? (i := 939) (by decide +kernel), by decide +kernel⟩
theorem qw_940 : Cond.methodLink "SkyloadBureauLaw" 107 yX5_exempt ∈ lw_G := List.mem_filter.mpr ⟨List.mem_of_getElem? (i := 940) (by decide +kernel), by decide +kernel⟩
theorem qw_941 : Cond.instanceMethod yX5_exempt ∈ lw_G := List.mem_filter.mpr ⟨List.mem_of_getElem? (i := 941) (by decide +kernel), by decide +kernel⟩
theorem qw_942 : Cond.selects "SkyloadBureauModel" yX5_exempt yX5_exempt ∈ lw_G := List.mem_filter.mpr ⟨List.mem_of_getElem? (i := 942) (by decide +kernel), by decide +kernel⟩
theorem qw_943 : Cond.code yX5_exempt prog_7_method_10_code 5 (some FieldType.boolean) ∈ lw_G := List.mem_filter.mpr ⟨List.mem_of_getElem? (i := 943) (by decide +kernel), by decide +kernel⟩
theorem qw_944 : Cond.methodLink "SkyloadBureauLaw" 110 yX5_flightIs ∈ lw_G := List.mem_filter.mpr ⟨List.mem_of_getElem? (i := 944) (by decide +kernel), by decide +kernel⟩
theorem qw_945 : Cond.instanceMethod yX5_flightIs ∈ lw_G := List.mem_filter.mpr ⟨List.mem_of_getElem? (i := 945) (by decide +kernel), by decide +kernel⟩
theorem qw_946 : Cond.selects "SkyloadBureauModel" yX5_flightIs yX5_flightIs ∈ lw_G := List.mem_filter.mpr ⟨List.mem_of_getElem? (i := 946) (by decide +kernel), by decide +kernel⟩
theorem qw_947 : Cond.code yX5_flightIs prog_7_method_12_code 3 (some FieldType.int) ∈ lw_G := List.mem_filter.mpr ⟨List.mem_of_getElem? (i := 947) (by decide +kernel), by decide +kernel⟩
theorem qw_948 : Cond.methodLink "SkyloadBureauModel" 101 yX5_departure ∈ lw_G := List.mem_filter.mpr ⟨List.mem_of_getElem? (i := 948) (by decide +kernel), by decide +kernel⟩
theorem qw_950 : Cond.instanceMethod yX5_departure ∈ lw_G := List.mem_filter.mpr ⟨List.mem_of_getElem? (i := 950) (by decide +kernel), by decide +kernel⟩
theorem qw_951 : Cond.code yX5_departure prog_7_method_11_code 2 (some FieldType.int) ∈ lw_G := List.mem_filter.mpr ⟨List.mem_of_getElem? (i := 951) (by decide +kernel), by decide +kernel⟩
theorem qw_952 : Cond.methodLink "SkyloadBureauLaw" 113 yX5_over ∈ lw_G := List.mem_filter.mpr ⟨List.mem_of_getElem? (i := 952) (by decide +kernel), by decide +kernel⟩
theorem qw_953 : Cond.instanceMethod yX5_over ∈ lw_G := List.mem_filter.mpr ⟨List.mem_of_getElem? (i := 953) (by decide +kernel), by decide +kernel⟩
theorem qw_954 : Cond.selects "SkyloadBureauModel" yX5_over yX5_over ∈ lw_G := List.mem_filter.mpr ⟨List.mem_of_getElem? (i := 954) (by decide +kernel), by decide +kernel⟩
theorem qw_955 : Cond.code yX5_over prog_7_method_16_code 3 (some FieldType.int) ∈ lw_G := List.mem_filter.mpr ⟨List.mem_of_getElem? (i := 955) (by decide +kernel), by decide +kernel⟩
theorem qw_956 : Cond.methodLink "SkyloadBureauModel" 105 yX5_enters ∈ lw_G := List.mem_filter.mpr ⟨List.mem_of_getElem? (i := 956) (by decide +kernel), by decide +kernel⟩
theorem qw_958 : Cond.instanceMethod yX5_enters ∈ lw_G := List.mem_filter.mpr ⟨List.mem_of_getElem? (i := 958) (by decide +kernel), by decide +kernel⟩
theorem qw_959 : Cond.code yX5_enters prog_7_method_13_code 3 (some FieldType.boolean) ∈ lw_G := List.mem_filter.mpr ⟨List.mem_of_getElem? (i := 959) (by decide +kernel), by decide +kernel⟩
theorem qw_960 : Cond.methodLink "SkyloadBureauModel" 109 yX5_overOf ∈ lw_G := List.mem_filter.mpr ⟨List.mem_of_getElem? (i := 960) (by decide +kernel), by decide +kernel⟩
theorem qw_962 : Cond.instanceMethod yX5_overOf ∈ lw_G := List.mem_filter.mpr ⟨List.mem_of_getElem? (i := 962) (by decide +kernel), by decide +kernel⟩
theorem qw_963 : Cond.code yX5_overOf prog_7_method_14_code 3 (some FieldType.int) ∈ lw_G := List.mem_filter.mpr ⟨List.mem_of_getElem? (i := 963) (by decide +kernel), by decide +kernel⟩
theorem qw_964 : Cond.methodLink "SkyloadBureauLaw" 117 yX5_load ∈ lw_G := List.mem_filter.mpr ⟨List.mem_of_getElem? (i := 964) (by decide +kernel), by decide +kernel⟩
theorem qw_965 : Cond.instanceMethod yX5_load ∈ lw_G := List.mem_filter.mpr ⟨List.mem_of_getElem? (i := 965) (by decide +kernel), by decide +kernel⟩
theorem qw_966 : Cond.selects "SkyloadBureauModel" yX5_load yX5_load ∈ lw_G := List.mem_filter.mpr ⟨List.mem_of_getElem? (i := 966) (by decide +kernel), by decide +kernel⟩
theorem qw_967 : Cond.code yX5_load prog_7_method_18_code 4 (some FieldType.int) ∈ lw_G := List.mem_filter.mpr ⟨List.mem_of_getElem? (i := 967) (by decide +kernel), by decide +kernel⟩
theorem qw_968 : Cond.methodLink "SkyloadBureauModel" 113 yX5_loadOf ∈ lw_G := List.mem_filter.mpr ⟨List.mem_of_getElem? (i := 968) (by decide +kernel), by decide +kernel⟩
theorem qw_970 : Cond.instanceMethod yX5_loadOf ∈ lw_G := List.mem_filter.mpr ⟨List.mem_of_getElem? (i := 970) (by decide +kernel), by decide +kernel⟩
theorem qw_971 : Cond.code yX5_loadOf prog_7_method_17_code 6 (some FieldType.int) ∈ lw_G := List.mem_filter.mpr ⟨List.mem_of_getElem? (i := 971) (by decide +kernel), by decide +kernel⟩
theorem qw_972 : Cond.methodLink "SkyloadBureauLaw" 120 yX5_inside ∈ lw_G := List.mem_filter.mpr ⟨List.mem_of_getElem? (i := 972) (by decide +kernel), by decide +kernel⟩
theorem qw_973 : Cond.instanceMethod yX5_inside ∈ lw_G := List.mem_filter.mpr ⟨List.mem_of_getElem? (i := 973) (by decide +kernel), by decide +kernel⟩
theorem qw_974 : Cond.selects "SkyloadBureauModel" yX5_inside yX5_inside ∈ lw_G := List.mem_filter.mpr ⟨List.mem_of_getElem? (i := 974) (by decide +kernel), by decide +kernel⟩
theorem qw_975 : Cond.code yX5_inside prog_7_method_19_code 6 (some FieldType.int) ∈ lw_G := List.mem_filter.mpr ⟨List.mem_of_getElem? (i := 975) (by decide +kernel), by decide +kernel⟩
theorem qw_976 : Cond.methodLink "SkyloadBureauLaw" 123 yX5_peak ∈ lw_G := List.mem_filter.mpr ⟨List.mem_of_getElem? (i := 976) (by decide +kernel), by decide +kernel⟩
theorem qw_977 : Cond.instanceMethod yX5_peak ∈ lw_G := List.mem_filter.mpr ⟨List.mem_of_getElem? (i := 977) (by decide +kernel), by decide +kernel⟩
theorem qw_978 : Cond.selects "SkyloadBureauModel" yX5_peak yX5_peak ∈ lw_G := List.mem_filter.mpr ⟨List.mem_of_getElem? (i := 978) (by decide +kernel), by decide +kernel⟩
theorem qw_979 : Cond.code yX5_peak prog_7_method_20_code 6 (some FieldType.int) ∈ lw_G := List.mem_filter.mpr ⟨List.mem_of_getElem? (i := 979) (by decide +kernel), by decide +kernel⟩
theorem qw_980 : Cond.methodLink "SkyloadBureauLaw" 126 yX5_peakAnew ∈ lw_G := List.mem_filter.mpr ⟨List.mem_of_getElem? (i := 980) (by decide +kernel), by decide +kernel⟩
theorem qw_981 : Cond.instanceMethod yX5_peakAnew ∈ lw_G := List.mem_filter.mpr ⟨List.mem_of_getElem? (i := 981) (by decide +kernel), by decide +kernel⟩
theorem qw_982 : Cond.selects "SkyloadBureauModel" yX5_peakAnew yX5_peakAnew ∈ lw_G := List.mem_filter.mpr ⟨List.mem_of_getElem? (i := 982) (by decide +kernel), by decide +kernel⟩
theorem qw_983 : Cond.code yX5_peakAnew prog_7_method_21_code 3 (some FieldType.int) ∈ lw_G := List.mem_filter.mpr ⟨List.mem_of_getElem? (i := 983) (by decide +kernel), by decide +kernel⟩
theorem qw_984 : Cond.methodLink "SkyloadBureauModel" 117 yX5_peak ∈ lw_G := List.mem_filter.mpr ⟨List.mem_of_getElem? (i := 984) (by decide +kernel), by decide +kernel⟩
theorem qw_985 : Cond.methodLink "SkyloadBureauLaw" 129 yX5_regulation ∈ lw_G := List.mem_filter.mpr ⟨List.mem_of_getElem? (i := 985) (by decide +kernel), by decide +kernel⟩
theorem qw_986 : Cond.instanceMethod yX5_regulation ∈ lw_G := List.mem_filter.mpr ⟨List.mem_of_getElem? (i := 986) (by decide +kernel), by decide +kernel⟩
theorem qw_987 : Cond.selects "SkyloadBureauModel" yX5_regulation yX5_regulation ∈ lw_G := List.mem_filter.mpr ⟨List.mem_of_getElem? (i := 987) (by decide +kernel), by decide +kernel⟩
theorem qw_988 : Cond.code yX5_regulation prog_7_method_24_code 5 (some FieldType.int) ∈ lw_G := List.mem_filter.mpr ⟨List.mem_of_getElem? (i := 988) (by decide +kernel), by decide +kernel⟩
theorem qw_989 : Cond.methodLink "SkyloadBureauModel" 120 yX5_isPart ∈ lw_G := List.mem_filter.mpr ⟨List.mem_of_getElem? (i := 989) (by decide +kernel), by decide +kernel⟩
theorem qw_990 : Cond.static yX5_isPart ∈ lw_G := List.mem_filter.mpr ⟨List.mem_of_getElem? (i := 990) (by decide +kernel), by decide +kernel⟩
theorem qw_991 : Cond.code yX5_isPart prog_7_method_22_code 3 (some FieldType.boolean) ∈ lw_G := List.mem_filter.mpr ⟨List.mem_of_getElem? (i := 991) (by decide +kernel), by decide +kernel⟩
theorem qw_992 : Cond.methodLink "SkyloadBureauModel" 123 yX5_lays ∈ lw_G := List.mem_filter.mpr ⟨List.mem_of_getElem? (i := 992) (by decide +kernel), by decide +kernel⟩
theorem qw_994 : Cond.instanceMethod yX5_lays ∈ lw_G := List.mem_filter.mpr ⟨List.mem_of_getElem? (i := 994) (by decide +kernel), by decide +kernel⟩
theorem qw_995 : Cond.code yX5_lays prog_7_method_23_code 6 (Option.none : Option Jvm.ClassFile.FieldType) ∈ lw_G := List.mem_filter.mpr ⟨List.mem_of_getElem? (i := 995) (by decide +kernel), by decide +kernel⟩
theorem qw_996 : Cond.methodLink "SkyloadBureauLaw" 132 yX5_rate ∈ lw_G := List.mem_filter.mpr ⟨List.mem_of_getElem? (i := 996) (by decide +kernel), by decide +kernel⟩
theorem qw_997 : Cond.instanceMethod yX5_rate ∈ lw_G := List.mem_filter.mpr ⟨List.mem_of_getElem? (i := 997) (by decide +kernel), by decide +kernel⟩
theorem qw_998 : Cond.selects "SkyloadBureauModel" yX5_rate yX5_rate ∈ lw_G := List.mem_filter.mpr ⟨List.mem_of_getElem? (i := 998) (by decide +kernel), by decide +kernel⟩
theorem qw_999 : Cond.code yX5_rate prog_7_method_25_code 5 (some FieldType.int) ∈ lw_G := List.mem_filter.mpr ⟨List.mem_of_getElem? (i := 999) (by decide +kernel), by decide +kernel⟩
theorem qw_1000 : Cond.methodLink "SkyloadBureauModel" 127 yX5_isRegulation ∈ lw_G := List.mem_filter.mpr ⟨List.mem_of_getElem? (i := 1000) (by decide +kernel), by decide +kernel⟩
theorem qw_1002 : Cond.instanceMethod yX5_isRegulation ∈ lw_G := List.mem_filter.mpr ⟨List.mem_of_getElem? (i := 1002) (by decide +kernel), by decide +kernel⟩
theorem qw_1003 : Cond.code yX5_isRegulation prog_7_method_6_code 2 (some FieldType.boolean) ∈ lw_G := List.mem_filter.mpr ⟨List.mem_of_getElem? (i := 1003) (by decide +kernel), by decide +kernel⟩
theorem qw_1004 : Cond.methodLink "SkyloadBureauLaw" 136 yX5_end ∈ lw_G := List.mem_filter.mpr ⟨List.mem_of_getElem? (i := 1004) (by decide +kernel), by decide +kernel⟩
theorem qw_1005 : Cond.instanceMethod yX5_end ∈ lw_G := List.mem_filter.mpr ⟨List.mem_of_getElem? (i := 1005) (by decide +kernel), by decide +kernel⟩
theorem qw_1006 : Cond.selects "SkyloadBureauModel" yX5_end yX5_end ∈ lw_G := List.mem_filter.mpr ⟨List.mem_of_getElem? (i := 1006) (by decide +kernel), by decide +kernel⟩
theorem qw_1007 : Cond.code yX5_end prog_7_method_26_code 3 (Option.none : Option Jvm.ClassFile.FieldType) ∈ lw_G := List.mem_filter.mpr ⟨List.mem_of_getElem? (i := 1007) (by decide +kernel), by decide +kernel⟩
theorem qw_1008 : Cond.methodLink "SkyloadBureauLaw" 139 yX5_regulationIs ∈ lw_G := List.mem_filter.mpr ⟨List.mem_of_getElem? (i := 1008) (by decide +kernel), by decide +kernel⟩
theorem qw_1009 : Cond.instanceMethod yX5_regulationIs ∈ lw_G := List.mem_filter.mpr ⟨List.mem_of_getElem? (i := 1009) (by decide +kernel), by decide +kernel⟩
theorem qw_1010 : Cond.selects "SkyloadBureauModel" yX5_regulationIs yX5_regulationIs ∈ lw_G := List.mem_filter.mpr ⟨List.mem_of_getElem? (i := 1010) (by decide +kernel), by decide +kernel⟩
theorem qw_1011 : Cond.code yX5_regulationIs prog_7_method_33_code 3 (some FieldType.int) ∈ lw_G := List.mem_filter.mpr ⟨List.mem_of_getElem? (i := 1011) (by decide +kernel), by decide +kernel⟩
theorem qw_1012 : Cond.methodLink "SkyloadBureauModel" 164 yX5_dealt ∈ lw_G := List.mem_filter.mpr ⟨List.mem_of_getElem? (i := 1012) (by decide +kernel), by decide +kernel⟩
theorem qw_1014 : Cond.instanceMethod yX5_dealt ∈ lw_G := List.mem_filter.mpr ⟨List.mem_of_getElem? (i := 1014) (by decide +kernel), by decide +kernel⟩
theorem qw_1015 : Cond.code yX5_dealt prog_7_method_32_code 6 (Option.none : Option Jvm.ClassFile.FieldType) ∈ lw_G := List.mem_filter.mpr ⟨List.mem_of_getElem? (i := 1015) (by decide +kernel), by decide +kernel⟩
theorem qw_1016 : Cond.methodLink "SkyloadBureauModel" 133 yX5_begin ∈ lw_G := List.mem_filter.mpr ⟨List.mem_of_getElem? (i := 1016) (by decide +kernel), by decide +kernel⟩
theorem qw_1018 : Cond.instanceMethod yX5_begin ∈ lw_G := List.mem_filter.mpr ⟨List.mem_of_getElem? (i := 1018) (by decide +kernel), by decide +kernel⟩
theorem qw_1019 : Cond.code yX5_begin prog_7_method_27_code 3 (some FieldType.int) ∈ lw_G := List.mem_filter.mpr ⟨List.mem_of_getElem? (i := 1019) (by decide +kernel), by decide +kernel⟩
theorem qw_1020 : Cond.methodLink "SkyloadBureauModel" 158 yX5_nextOf ∈ lw_G := List.mem_filter.mpr ⟨List.mem_of_getElem? (i := 1020) (by decide +kernel), by decide +kernel⟩
theorem qw_1022 : Cond.instanceMethod yX5_nextOf ∈ lw_G := List.mem_filter.mpr ⟨List.mem_of_getElem? (i := 1022) (by decide +kernel), by decide +kernel⟩
theorem qw_1023 : Cond.code yX5_nextOf prog_7_method_30_code 8 (some FieldType.int) ∈ lw_G := List.mem_filter.mpr ⟨List.mem_of_getElem? (i := 1023) (by decide +kernel), by decide +kernel⟩
theorem qw_1024 : Cond.methodLink "SkyloadBureauModel" 139 yX5_timeOf ∈ lw_G := List.mem_filter.mpr ⟨List.mem_of_getElem? (i := 1024) (by decide +kernel), by decide +kernel⟩
theorem qw_1026 : Cond.instanceMethod yX5_timeOf ∈ lw_G := List.mem_filter.mpr ⟨List.mem_of_getElem? (i := 1026) (by decide +kernel), by decide +kernel⟩
theorem qw_1027 : Cond.code yX5_timeOf prog_7_method_29_code 7 (some FieldType.int) ∈ lw_G := List.mem_filter.mpr ⟨List.mem_of_getElem? (i := 1027) (by decide +kernel), by decide +kernel⟩
theorem qw_1028 : Cond.methodLink "SkyloadBureauModel" 136 yX5_plannedOver ∈ lw_G := List.mem_filter.mpr ⟨List.mem_of_getElem? (i := 1028) (by decide +kernel), by decide +kernel⟩
theorem qw_1030 : Cond.instanceMethod yX5_plannedOver ∈ lw_G := List.mem_filter.mpr ⟨List.mem_of_getElem? (i := 1030) (by decide +kernel), by decide +kernel⟩
theorem qw_1031 : Cond.code yX5_plannedOver prog_7_method_15_code 3 (some FieldType.int) ∈ lw_G := List.mem_filter.mpr ⟨List.mem_of_getElem? (i := 1031) (by decide +kernel), by decide +kernel⟩
theorem qw_1032 : Cond.methodLink "SkyloadBureauModel" 161 yX5_takes ∈ lw_G := List.mem_filter.mpr ⟨List.mem_of_getElem? (i := 1032) (by decide +kernel), by decide +kernel⟩
theorem qw_1034 : Cond.instanceMethod yX5_takes ∈ lw_G := List.mem_filter.mpr ⟨List.mem_of_getElem? (i := 1034) (by decide +kernel), by decide +kernel⟩
theorem qw_1035 : Cond.code yX5_takes prog_7_method_31_code 4 (some FieldType.int) ∈ lw_G := List.mem_filter.mpr ⟨List.mem_of_getElem? (i := 1035) (by decide +kernel), by decide +kernel⟩
theorem qw_1036 : Cond.methodLink "SkyloadBureauModel" 143 yX5_ending ∈ lw_G := List.mem_filter.mpr ⟨List.mem_of_getElem? (i := 1036) (by decide +kernel), by decide +kernel⟩
theorem qw_1038 : Cond.instanceMethod yX5_ending ∈ lw_G := List.mem_filter.mpr ⟨List.mem_of_getElem? (i := 1038) (by decide +kernel), by decide +kernel⟩
theorem qw_1039 : Cond.code yX5_ending prog_7_method_28_code 3 (some FieldType.int) ∈ lw_G := List.mem_filter.mpr ⟨List.mem_of_getElem? (i := 1039) (by decide +kernel), by decide +kernel⟩
theorem qw_1040 : Cond.methodLink "SkyloadBureauLaw" 142 yX5_slot ∈ lw_G := List.mem_filter.mpr ⟨List.mem_of_getElem? (i := 1040) (by decide +kernel), by decide +kernel⟩
theorem qw_1041 : Cond.instanceMethod yX5_slot ∈ lw_G := List.mem_filter.mpr ⟨List.mem_of_getElem? (i := 1041) (by decide +kernel), by decide +kernel⟩
theorem qw_1042 : Cond.selects "SkyloadBureauModel" yX5_slot yX5_slot ∈ lw_G := List.mem_filter.mpr ⟨List.mem_of_getElem? (i := 1042) (by decide +kernel), by decide +kernel⟩
theorem qw_1043 : Cond.code yX5_slot prog_7_method_34_code 3 (some FieldType.int) ∈ lw_G := List.mem_filter.mpr ⟨List.mem_of_getElem? (i := 1043) (by decide +kernel), by decide +kernel⟩
theorem qw_1044 : Cond.methodLink "SkyloadBureauLaw" 145 yX5_penalty ∈ lw_G := List.mem_filter.mpr ⟨List.mem_of_getElem? (i := 1044) (by decide +kernel), by decide +kernel⟩
theorem qw_1045 : Cond.instanceMethod yX5_penalty ∈ lw_G := List.mem_filter.mpr ⟨List.mem_of_getElem? (i := 1045) (by decide +kernel), by decide +kernel⟩
theorem qw_1046 : Cond.selects "SkyloadBureauModel" yX5_penalty yX5_penalty ∈ lw_G := List.mem_filter.mpr ⟨List.mem_of_getElem? (i := 1046) (by decide +kernel), by decide +kernel⟩
theorem qw_1047 : Cond.code yX5_penalty prog_7_method_35_code 3 (some FieldType.int) ∈ lw_G := List.mem_filter.mpr ⟨List.mem_of_getElem? (i := 1047) (by decide +kernel), by decide +kernel⟩
theorem qw_1048 : Cond.methodLink "SkyloadBureauLaw" 149 yX5_due ∈ lw_G := List.mem_filter.mpr ⟨List.mem_of_getElem? (i := 1048) (by decide +kernel), by decide +kernel⟩
theorem qw_1049 : Cond.instanceMethod yX5_due ∈ lw_G := List.mem_filter.mpr ⟨List.mem_of_getElem? (i := 1049) (by decide +kernel), by decide +kernel⟩
theorem qw_1050 : Cond.selects "SkyloadBureauModel" yX5_due yX5_due ∈ lw_G := List.mem_filter.mpr ⟨List.mem_of_getElem? (i := 1050) (by decide +kernel), by decide +kernel⟩
theorem qw_1051 : Cond.code yX5_due prog_7_method_39_code 2 (some FieldType.int) ∈ lw_G := List.mem_filter.mpr ⟨List.mem_of_getElem? (i := 1051) (by decide +kernel), by decide +kernel⟩
theorem qw_1052 : Cond.methodLink "SkyloadBureauModel" 171 yX5_dealAll ∈ lw_G := List.mem_filter.mpr ⟨List.mem_of_getElem? (i := 1052) (by decide +kernel), by decide +kernel⟩
theorem qw_1054 : Cond.instanceMethod yX5_dealAll ∈ lw_G := List.mem_filter.mpr ⟨List.mem_of_getElem? (i := 1054) (by decide +kernel), by decide +kernel⟩
theorem qw_1055 : Cond.code yX5_dealAll prog_7_method_36_code 3 (Option.none : Option Jvm.ClassFile.FieldType) ∈ lw_G := List.mem_filter.mpr ⟨List.mem_of_getElem? (i := 1055) (by decide +kernel), by decide +kernel⟩
theorem qw_1056 : Cond.methodLink "SkyloadBureauModel" 174 yX5_dueOf ∈ lw_G := List.mem_filter.mpr ⟨List.mem_of_getElem? (i := 1056) (by decide +kernel), by decide +kernel⟩
theorem qw_1058 : Cond.instanceMethod yX5_dueOf ∈ lw_G := List.mem_filter.mpr ⟨List.mem_of_getElem? (i := 1058) (by decide +kernel), by decide +kernel⟩
theorem qw_1059 : Cond.code yX5_dueOf prog_7_method_38_code 4 (some FieldType.int) ∈ lw_G := List.mem_filter.mpr ⟨List.mem_of_getElem? (i := 1059) (by decide +kernel), by decide +kernel⟩
theorem qw_1060 : Cond.methodLink "SkyloadBureauModel" 168 yX5_dueBy ∈ lw_G := List.mem_filter.mpr ⟨List.mem_of_getElem? (i := 1060) (by decide +kernel), by decide +kernel⟩
theorem qw_1062 : Cond.instanceMethod yX5_dueBy ∈ lw_G := List.mem_filter.mpr ⟨List.mem_of_getElem? (i := 1062) (by decide +kernel), by decide +kernel⟩
theorem qw_1063 : Cond.code yX5_dueBy prog_7_method_37_code 7 (some FieldType.int) ∈ lw_G := List.mem_filter.mpr ⟨List.mem_of_getElem? (i := 1063) (by decide +kernel), by decide +kernel⟩
theorem qw_1064 : Cond.methodLink "SkyloadBureauLaw" 152 yX5_dueAnew ∈ lw_G := List.mem_filter.mpr ⟨List.mem_of_getElem? (i := 1064) (by decide +kernel), by decide +kernel⟩
theorem qw_1065 : Cond.instanceMethod yX5_dueAnew ∈ lw_G := List.mem_filter.mpr ⟨List.mem_of_getElem? (i := 1065) (by decide +kernel), by decide +kernel⟩
theorem qw_1066 : Cond.selects "SkyloadBureauModel" yX5_dueAnew yX5_dueAnew ∈ lw_G := List.mem_filter.mpr ⟨List.mem_of_getElem? (i := 1066) (by decide +kernel), by decide +kernel⟩
theorem qw_1067 : Cond.code yX5_dueAnew prog_7_method_40_code 2 (some FieldType.int) ∈ lw_G := List.mem_filter.mpr ⟨List.mem_of_getElem? (i := 1067) (by decide +kernel), by decide +kernel⟩
theorem qw_1068 : Cond.methodLink "SkyloadBureauModel" 177 yX5_due ∈ lw_G := List.mem_filter.mpr ⟨List.mem_of_getElem? (i := 1068) (by decide +kernel), by decide +kernel⟩
theorem qw_1069 : Cond.methodLink "SkyloadBureauLaw" 156 yX5_allDue ∈ lw_G := List.mem_filter.mpr ⟨List.mem_of_getElem? (i := 1069) (by decide +kernel), by decide +kernel⟩
theorem qw_1070 : Cond.instanceMethod yX5_allDue ∈ lw_G := List.mem_filter.mpr ⟨List.mem_of_getElem? (i := 1070) (by decide +kernel), by decide +kernel⟩
theorem qw_1071 : Cond.selects "SkyloadBureauModel" yX5_allDue yX5_allDue ∈ lw_G := List.mem_filter.mpr ⟨List.mem_of_getElem? (i := 1071) (by decide +kernel), by decide +kernel⟩
theorem qw_1072 : Cond.code yX5_allDue prog_7_method_42_code 1 (some FieldType.int) ∈ lw_G := List.mem_filter.mpr ⟨List.mem_of_getElem? (i := 1072) (by decide +kernel), by decide +kernel⟩
theorem qw_1073 : Cond.methodLink "SkyloadBureauModel" 180 yX5_sumBy ∈ lw_G := List.mem_filter.mpr ⟨List.mem_of_getElem? (i := 1073) (by decide +kernel), by decide +kernel⟩
theorem qw_1075 : Cond.instanceMethod yX5_sumBy ∈ lw_G := List.mem_filter.mpr ⟨List.mem_of_getElem? (i := 1075) (by decide +kernel), by decide +kernel⟩
theorem qw_1076 : Cond.code yX5_sumBy prog_7_method_41_code 4 (some FieldType.int) ∈ lw_G := List.mem_filter.mpr ⟨List.mem_of_getElem? (i := 1076) (by decide +kernel), by decide +kernel⟩
theorem qw_1077 : Cond.methodLink "SkyloadBureauLaw" 159 yX5_would ∈ lw_G := List.mem_filter.mpr ⟨List.mem_of_getElem? (i := 1077) (by decide +kernel), by decide +kernel⟩
theorem qw_1078 : Cond.instanceMethod yX5_would ∈ lw_G := List.mem_filter.mpr ⟨List.mem_of_getElem? (i := 1078) (by decide +kernel), by decide +kernel⟩
theorem qw_1079 : Cond.selects "SkyloadBureauModel" yX5_would yX5_would ∈ lw_G := List.mem_filter.mpr ⟨List.mem_of_getElem? (i := 1079) (by decide +kernel), by decide +kernel⟩
theorem qw_1080 : Cond.code yX5_would prog_7_method_43_code 5 (some FieldType.int) ∈ lw_G := List.mem_filter.mpr ⟨List.mem_of_getElem? (i := 1080) (by decide +kernel), by decide +kernel⟩
theorem qw_1081 : Cond.methodLink "SkyloadBureauLaw" 164 yX5_deal ∈ lw_G := List.mem_filter.mpr ⟨List.mem_of_getElem? (i := 1081) (by decide +kernel), by decide +kernel⟩
theorem qw_1082 : Cond.instanceMethod yX5_deal ∈ lw_G := List.mem_filter.mpr ⟨List.mem_of_getElem? (i := 1082) (by decide +kernel), by decide +kernel⟩
theorem qw_1083 : Cond.selects "SkyloadBureauModel" yX5_deal yX5_deal ∈ lw_G := List.mem_filter.mpr ⟨List.mem_of_getElem? (i := 1083) (by decide +kernel), by decide +kernel⟩
theorem qw_1084 : Cond.code yX5_deal prog_7_method_45_code 4 (some FieldType.int) ∈ lw_G := List.mem_filter.mpr ⟨List.mem_of_getElem? (i := 1084) (by decide +kernel), by decide +kernel⟩
theorem qw_1085 : Cond.methodLink "SkyloadBureauModel" 183 yX5_deals ∈ lw_G := List.mem_filter.mpr ⟨List.mem_of_getElem? (i := 1085) (by decide +kernel), by decide +kernel⟩
theorem qw_1087 : Cond.instanceMethod yX5_deals ∈ lw_G := List.mem_filter.mpr ⟨List.mem_of_getElem? (i := 1087) (by decide +kernel), by decide +kernel⟩
theorem qw_1088 : Cond.code yX5_deals prog_7_method_44_code 6 (Option.none : Option Jvm.ClassFile.FieldType) ∈ lw_G := List.mem_filter.mpr ⟨List.mem_of_getElem? (i := 1088) (by decide +kernel), by decide +kernel⟩
theorem qw_1089 : Cond.methodLink "SkyloadBureauLaw" 168 yX5_swap ∈ lw_G := List.mem_filter.mpr ⟨List.mem_of_getElem? (i := 1089) (by decide +kernel), by decide +kernel⟩
theorem qw_1090 : Cond.instanceMethod yX5_swap ∈ lw_G := List.mem_filter.mpr ⟨List.mem_of_getElem? (i := 1090) (by decide +kernel), by decide +kernel⟩
theorem qw_1091 : Cond.selects "SkyloadBureauModel" yX5_swap yX5_swap ∈ lw_G := List.mem_filter.mpr ⟨List.mem_of_getElem? (i := 1091) (by decide +kernel), by decide +kernel⟩
theorem qw_1092 : Cond.code yX5_swap prog_7_method_46_code 8 (Option.none : Option Jvm.ClassFile.FieldType) ∈ lw_G := List.mem_filter.mpr ⟨List.mem_of_getElem? (i := 1092) (by decide +kernel), by decide +kernel⟩
theorem qw_1093 : Cond.methodLink "SkyloadBureauLaw" 171 yX5_message ∈ lw_G := List.mem_filter.mpr ⟨List.mem_of_getElem? (i := 1093) (by decide +kernel), by decide +kernel⟩
theorem qw_1094 : Cond.instanceMethod yX5_message ∈ lw_G := List.mem_filter.mpr ⟨List.mem_of_getElem? (i := 1094) (by decide +kernel), by decide +kernel⟩
theorem qw_1095 : Cond.selects "SkyloadBureauModel" yX5_message yX5_message ∈ lw_G := List.mem_filter.mpr ⟨List.mem_of_getElem? (i := 1095) (by decide +kernel), by decide +kernel⟩
theorem qw_1096 : Cond.code yX5_message prog_7_method_48_code 8 (some FieldType.boolean) ∈ lw_G := List.mem_filter.mpr ⟨List.mem_of_getElem? (i := 1096) (by decide +kernel), by decide +kernel⟩
theorem qw_1097 : Cond.methodLink "SkyloadBureauModel" 187 yX5_goes ∈ lw_G := List.mem_filter.mpr ⟨List.mem_of_getElem? (i := 1097) (by decide +kernel), by decide +kernel⟩
theorem qw_1099 : Cond.instanceMethod yX5_goes ∈ lw_G := List.mem_filter.mpr ⟨List.mem_of_getElem? (i := 1099) (by decide +kernel), by decide +kernel⟩
theorem qw_1100 : Cond.code yX5_goes prog_7_method_47_code 4 (Option.none : Option Jvm.ClassFile.FieldType) ∈ lw_G := List.mem_filter.mpr ⟨List.mem_of_getElem? (i := 1100) (by decide +kernel), by decide +kernel⟩
theorem qw_1101 : Cond.methodLink "SkyloadBureauLaw" 174 yX5_companyIs ∈ lw_G := List.mem_filter.mpr ⟨List.mem_of_getElem? (i := 1101) (by decide +kernel), by decide +kernel⟩
theorem qw_1102 : Cond.instanceMethod yX5_companyIs ∈ lw_G := List.mem_filter.mpr ⟨List.mem_of_getElem? (i := 1102) (by decide +kernel), by decide +kernel⟩
theorem qw_1103 : Cond.selects "SkyloadBureauModel" yX5_companyIs yX5_companyIs ∈ lw_G := List.mem_filter.mpr ⟨List.mem_of_getElem? (i := 1103) (by decide +kernel), by decide +kernel⟩
theorem qw_1104 : Cond.code yX5_companyIs prog_7_method_49_code 5 (some FieldType.int) ∈ lw_G := List.mem_filter.mpr ⟨List.mem_of_getElem? (i := 1104) (by decide +kernel), by decide +kernel⟩
theorem qw_1105 : Cond.arrayClass FieldType.long ∈ lw_G := List.mem_filter.mpr ⟨List.mem_of_getElem? (i := 1105) (by decide +kernel), by decide +kernel⟩
theorem qw_1106 : Cond.sameMethod "java/lang/Throwable" "java/lang/Throwable" "fillInStackTrace" "(I)Ljava/lang/Throwable;" ∈ lw_G := List.mem_filter.mpr ⟨List.mem_of_getElem? (i := 1106) (by decide +kernel), by decide +kernel⟩
theorem qw_1119 : Cond.sameMethod "[Ljava/lang/Object;" "java/lang/Object" "getClass" "()Ljava/lang/Class;" ∈ lw_G := List.mem_filter.mpr ⟨List.mem_of_getElem? (i := 1119) (by decide +kernel), by decide +kernel⟩
theorem qw_1120 : Cond.selects "[Ljava/lang/Object;" (⟨"java/lang/Object", "getClass", "()Ljava/lang/Class;"⟩ : MethodName) (⟨"java/lang/Object", "getClass", "()Ljava/lang/Class;"⟩ : MethodName) ∈ lw_G := List.mem_filter.mpr ⟨List.mem_of_getElem? (i := 1120) (by decide +kernel), by decide +kernel⟩
theorem qr_78 : Cond.laysStatic "java/util/ArrayList" "DEFAULTCAPACITY_EMPTY_ELEMENTDATA" "[Ljava/lang/Object;" ∈ lw_tbl := List.mem_of_getElem? (i := 78) (by decide +kernel)
theorem qr_83 : Cond.sameField "java/util/ArrayList" "java/util/AbstractList" "modCount" "I" ∈ lw_tbl := List.mem_of_getElem? (i := 83) (by decide +kernel)
theorem qr_93 : Cond.methodLinkNest "SkyloadBureau" 21 yX0_init "SkyloadBureau" ∈ lw_tbl := List.mem_of_getElem? (i := 93) (by decide +kernel)
theorem qr_99 : Cond.methodLinkNest "SkyloadBureau$Dealing" 11 yX2_init "SkyloadBureau" ∈ lw_tbl := List.mem_of_getElem? (i := 99) (by decide +kernel)
theorem qr_144 : Cond.methodLinkNest "SkyloadBureau" 28 yX2_init "SkyloadBureau" ∈ lw_tbl := List.mem_of_getElem? (i := 144) (by decide +kernel)
theorem qr_320 : Cond.castable "java/lang/IndexOutOfBoundsException" "java/lang/IndexOutOfBoundsException" ∈ lw_tbl := List.mem_of_getElem? (i := 320) (by decide +kernel)
theorem qr_321 : Cond.declares (⟨"java/lang/RuntimeException", "<init>", "()V"⟩ : MethodName) ∈ lw_tbl := List.mem_of_getElem? (i := 321) (by decide +kernel)
theorem qr_322 : Cond.declares (⟨"java/lang/RuntimeException", "<init>", "(Ljava/lang/String;)V"⟩ : MethodName) ∈ lw_tbl := List.mem_of_getElem? (i := 322) (by decide +kernel)
theorem qr_323 : Cond.declares (⟨"java/lang/Exception", "<init>", "()V"⟩ : MethodName) ∈ lw_tbl := List.mem_of_getElem? (i := 323) (by decide +kernel)
theorem qr_324 : Cond.declares (⟨"java/lang/Exception", "<init>", "(Ljava/lang/String;)V"⟩ : MethodName) ∈ lw_tbl := List.mem_of_getElem? (i := 324) (by decide +kernel)
theorem qr_325 : Cond.declares (⟨"java/lang/Throwable", "<init>", "()V"⟩ : MethodName) ∈ lw_tbl := List.mem_of_getElem? (i := 325) (by decide +kernel)
theorem qr_326 : Cond.declares (⟨"java/lang/Throwable", "<init>", "(Ljava/lang/String;)V"⟩ : MethodName) ∈ lw_tbl := List.mem_of_getElem? (i := 326) (by decide +kernel)
theorem qr_345 : Cond.laysStatic "java/lang/Throwable" "UNASSIGNED_STACK" "[Ljava/lang/StackTraceElement;" ∈ lw_tbl := List.mem_of_getElem? (i := 345) (by decide +kernel)
theorem qr_347 : Cond.laysStatic "java/lang/Throwable" "SUPPRESSED_SENTINEL" "Ljava/util/List;" ∈ lw_tbl := List.mem_of_getElem? (i := 347) (by decide +kernel)
theorem qr_359 : Cond.stringRef "SkyloadBureau" 259 "no such company" ∈ lw_tbl := List.mem_of_getElem? (i := 359) (by decide +kernel)
theorem qr_391 : Cond.castable "java/lang/IllegalArgumentException" "java/lang/IllegalArgumentException" ∈ lw_tbl := List.mem_of_getElem? (i := 391) (by decide +kernel)
theorem qr_398 : Cond.stringRef "SkyloadBureau" 261 "an argument is out of range" ∈ lw_tbl := List.mem_of_getElem? (i := 398) (by decide +kernel)
theorem qr_407 : Cond.castable "java/lang/IllegalStateException" "java/lang/IllegalStateException" ∈ lw_tbl := List.mem_of_getElem? (i := 407) (by decide +kernel)
theorem qr_414 : Cond.stringRef "SkyloadBureau" 47 "no more flights can be told" ∈ lw_tbl := List.mem_of_getElem? (i := 414) (by decide +kernel)
theorem qr_523 : Cond.arrayOver (FieldType.object "java/lang/Object") ∈ lw_tbl := List.mem_of_getElem? (i := 523) (by decide +kernel)
theorem qr_542 : Cond.stringRef "SkyloadBureau" 253 "no such flight" ∈ lw_tbl := List.mem_of_getElem? (i := 542) (by decide +kernel)
theorem qr_546 : Cond.stringRef "SkyloadBureau" 257 "no such sector" ∈ lw_tbl := List.mem_of_getElem? (i := 546) (by decide +kernel)
theorem qr_555 : Cond.stringRef "SkyloadBureau" 72 "the flight cannot have this entry" ∈ lw_tbl := List.mem_of_getElem? (i := 555) (by decide +kernel)
theorem qr_567 : Cond.stringRef "SkyloadBureau" 84 "the flight is not waiting" ∈ lw_tbl := List.mem_of_getElem? (i := 567) (by decide +kernel)
theorem qr_660 : Cond.stringRef "SkyloadBureau" 142 "no more regulations can be told" ∈ lw_tbl := List.mem_of_getElem? (i := 660) (by decide +kernel)
theorem qr_699 : Cond.stringRef "SkyloadBureau" 255 "no such regulation" ∈ lw_tbl := List.mem_of_getElem? (i := 699) (by decide +kernel)
theorem qr_703 : Cond.stringRef "SkyloadBureau" 263 "the regulation is ended" ∈ lw_tbl := List.mem_of_getElem? (i := 703) (by decide +kernel)
theorem qr_734 : Cond.stringRef "SkyloadBureau" 190 "slots are numbered from 0" ∈ lw_tbl := List.mem_of_getElem? (i := 734) (by decide +kernel)
theorem qr_781 : Cond.stringRef "SkyloadBureau" 227 "a flight is not swapped with itself" ∈ lw_tbl := List.mem_of_getElem? (i := 781) (by decide +kernel)
theorem qr_786 : Cond.stringRef "SkyloadBureau" 234 "the flights cannot be swapped" ∈ lw_tbl := List.mem_of_getElem? (i := 786) (by decide +kernel)
theorem qr_788 : Cond.stringRef "SkyloadBureau" 242 "a slot time would be ahead of the planned time" ∈ lw_tbl := List.mem_of_getElem? (i := 788) (by decide +kernel)
theorem qr_1107 : Cond.castable "SkyloadBureau" "java/lang/Object" ∈ lw_tbl := List.mem_of_getElem? (i := 1107) (by decide +kernel)
theorem qr_1108 : Cond.castable "java/util/ArrayList" "java/lang/Object" ∈ lw_tbl := List.mem_of_getElem? (i := 1108) (by decide +kernel)
theorem qr_1109 : Cond.castable "SkyloadBureau$Dealing" "java/lang/Object" ∈ lw_tbl := List.mem_of_getElem? (i := 1109) (by decide +kernel)
theorem qr_1110 : Cond.castable "SkyloadBureau$Line" "java/lang/Object" ∈ lw_tbl := List.mem_of_getElem? (i := 1110) (by decide +kernel)
theorem qr_1111 : Cond.castable "SkyloadBureauModel" "java/lang/Object" ∈ lw_tbl := List.mem_of_getElem? (i := 1111) (by decide +kernel)
theorem qr_1112 : Cond.castable "java/lang/IndexOutOfBoundsException" "java/lang/Object" ∈ lw_tbl := List.mem_of_getElem? (i := 1112) (by decide +kernel)
theorem qr_1113 : Cond.castable "java/lang/IllegalArgumentException" "java/lang/Object" ∈ lw_tbl := List.mem_of_getElem? (i := 1113) (by decide +kernel)
theorem qr_1114 : Cond.castable "java/lang/IllegalStateException" "java/lang/Object" ∈ lw_tbl := List.mem_of_getElem? (i := 1114) (by decide +kernel)
theorem qr_1115 : Cond.castable "SkyloadBureau$Flight" "java/lang/Object" ∈ lw_tbl := List.mem_of_getElem? (i := 1115) (by decide +kernel)
theorem qr_1116 : Cond.castable "SkyloadBureau$Regulation" "java/lang/Object" ∈ lw_tbl := List.mem_of_getElem? (i := 1116) (by decide +kernel)
theorem qr_1117 : Cond.castable "java/lang/Throwable" "java/lang/Object" ∈ lw_tbl := List.mem_of_getElem? (i := 1117) (by decide +kernel)
theorem qr_1118 : Cond.castable "java/lang/String" "java/lang/Object" ∈ lw_tbl := List.mem_of_getElem? (i := 1118) (by decide +kernel)
theorem qr_1121 : Cond.declares (⟨"java/lang/Object", "getClass", "()Ljava/lang/Class;"⟩ : MethodName) ∈ lw_tbl := List.mem_of_getElem? (i := 1121) (by decide +kernel)
theorem qr_1122 : Cond.castable "[I" "java/lang/Object" ∈ lw_tbl := List.mem_of_getElem? (i := 1122) (by decide +kernel)
theorem qr_1123 : Cond.castable "[B" "java/lang/Object" ∈ lw_tbl := List.mem_of_getElem? (i := 1123) (by decide +kernel)
theorem qr_1124 : Cond.castable "[Ljava/lang/Object;" "java/lang/Object" ∈ lw_tbl := List.mem_of_getElem? (i := 1124) (by decide +kernel)
theorem qr_1125 : Cond.castable "[Z" "java/lang/Object" ∈ lw_tbl := List.mem_of_getElem? (i := 1125) (by decide +kernel)
theorem qr_1126 : Cond.castable "[J" "java/lang/Object" ∈ lw_tbl := List.mem_of_getElem? (i := 1126) (by decide +kernel)
end
section
/-! decode rows -/
theorem dX0_init_0 : decode cX0_init 0 = .ok (.aload_n 0, 1) := by decide +kernel
theorem dX0_init_1 : decode cX0_init 1 = .ok (.invokespecial 3, 3) := by decide +kernel
theorem dX0_init_4 : decode cX0_init 4 = .ok (.aload_n 0, 1) := by decide +kernel
theorem dX0_init_5 : decode cX0_init 5 = .ok (.new 9, 3) := by decide +kernel
theorem dX0_init_8 : decode cX0_init 8 = .ok (.dup, 1) := by decide +kernel
theorem dX0_init_9 : decode cX0_init 9 = .ok (.invokespecial 11, 3) := by decide +kernel
theorem dX0_init_12 : decode cX0_init 12 = .ok (.putfield 12, 3) := by decide +kernel
theorem dX0_init_15 : decode cX0_init 15 = .ok (.aload_n 0, 1) := by decide +kernel
theorem dX0_init_16 : decode cX0_init 16 = .ok (.new 9, 3) := by decide +kernel
theorem dX0_init_19 : decode cX0_init 19 = .ok (.dup, 1) := by decide +kernel
theorem dX0_init_20 : decode cX0_init 20 = .ok (.invokespecial 11, 3) := by decide +kernel
theorem dX0_init_23 : decode cX0_init 23 = .ok (.putfield 18, 3) := by decide +kernel
theorem dX0_init_26 : decode cX0_init 26 = .ok (.aload_n 0, 1) := by decide +kernel
theorem dX0_init_27 : decode cX0_init 27 = .ok (.iconst 0, 1) := by decide +kernel
theorem dX0_init_28 : decode cX0_init 28 = .ok (.putfield 21, 3) := by decide +kernel
theorem dX0_init_31 : decode cX0_init 31 = .ok (.aload_n 0, 1) := by decide +kernel
theorem dX0_init_32 : decode cX0_init 32 = .ok (.iconst 0, 1) := by decide +kernel
theorem dX0_init_33 : decode cX0_init 33 = .ok (.putfield 25, 3) := by decide +kernel
theorem dX0_init_36 : decode cX0_init 36 = .ok (.aload_n 0, 1) := by decide +kernel
theorem dX0_init_37 : decode cX0_init 37 = .ok (.iconst 0, 1) := by decide +kernel
theorem dX0_init_38 : decode cX0_init 38 = .ok (.putfield 28, 3) := by decide +kernel
theorem dX0_init_41 : decode cX0_init 41 = .ok (.return_, 1) := by decide +kernel
theorem dX0_dealOut_0 : decode cX0_dealOut 0 = .ok (.aload_n 0, 1) := by decide +kernel
theorem dX0_dealOut_1 : decode cX0_dealOut 1 = .ok (.aload_n 1, 1) := by decide +kernel
theorem dX0_dealOut_2 : decode cX0_dealOut 2 = .ok (.aload_n 2, 1) := by decide +kernel
theorem dX0_dealOut_3 : decode cX0_dealOut 3 = .ok (.invokevirtual 31, 3) := by decide +kernel
theorem dX0_dealOut_6 : decode cX0_dealOut 6 = .ok (.aload_n 0, 1) := by decide +kernel
theorem dX0_dealOut_7 : decode cX0_dealOut 7 = .ok (.aload_n 0, 1) := by decide +kernel
theorem dX0_dealOut_8 : decode cX0_dealOut 8 = .ok (.getfield 12, 3) := by decide +kernel
theorem dX0_dealOut_11 : decode cX0_dealOut 11 = .ok (.aload_n 1, 1) := by decide +kernel
theorem dX0_dealOut_12 : decode cX0_dealOut 12 = .ok (.invokevirtual 35, 3) := by decide +kernel
theorem dX0_dealOut_15 : decode cX0_dealOut 15 = .ok (.istore_n 3, 1) := by decide +kernel
theorem dX0_dealOut_16 : decode cX0_dealOut 16 = .ok (.aload_n 0, 1) := by decide +kernel
theorem dX0_dealOut_17 : decode cX0_dealOut 17 = .ok (.aload_n 0, 1) := by decide +kernel
theorem dX0_dealOut_18 : decode cX0_dealOut 18 = .ok (.aload_n 0, 1) := by decide +kernel
theorem dX0_dealOut_19 : decode cX0_dealOut 19 = .ok (.getfield 18, 3) := by decide +kernel
theorem dX0_dealOut_22 : decode cX0_dealOut 22 = .ok (.aload_n 1, 1) := by decide +kernel
theorem dX0_dealOut_23 : decode cX0_dealOut 23 = .ok (.invokevirtual 35, 3) := by decide +kernel
theorem dX0_dealOut_26 : decode cX0_dealOut 26 = .ok (.putfield 28, 3) := by decide +kernel
theorem dX0_dealOut_29 : decode cX0_dealOut 29 = .ok (.aload_n 0, 1) := by decide +kernel
theorem dX0_dealOut_30 : decode cX0_dealOut 30 = .ok (.aload_n 0, 1) := by decide +kernel
theorem dX0_dealOut_31 : decode cX0_dealOut 31 = .ok (.getfield 21, 3) := by decide +kernel
theorem dX0_dealOut_34 : decode cX0_dealOut 34 = .ok (.aload_n 0, 1) := by decide +kernel
theorem dX0_dealOut_35 : decode cX0_dealOut 35 = .ok (.getfield 12, 3) := by decide +kernel
theorem dX0_dealOut_38 : decode cX0_dealOut 38 = .ok (.getfield 39, 3) := by decide +kernel
theorem dX0_dealOut_41 : decode cX0_dealOut 41 = .ok (.iload_n 3, 1) := by decide +kernel
theorem dX0_dealOut_42 : decode cX0_dealOut 42 = .ok (.isub, 1) := by decide +kernel
theorem dX0_dealOut_43 : decode cX0_dealOut 43 = .ok (.isub, 1) := by decide +kernel
theorem dX0_dealOut_44 : decode cX0_dealOut 44 = .ok (.aload_n 0, 1) := by decide +kernel
theorem dX0_dealOut_45 : decode cX0_dealOut 45 = .ok (.getfield 18, 3) := by decide +kernel
theorem dX0_dealOut_48 : decode cX0_dealOut 48 = .ok (.getfield 39, 3) := by decide +kernel
theorem dX0_dealOut_51 : decode cX0_dealOut 51 = .ok (.aload_n 0, 1) := by decide +kernel
theorem dX0_dealOut_52 : decode cX0_dealOut 52 = .ok (.getfield 28, 3) := by decide +kernel
theorem dX0_dealOut_55 : decode cX0_dealOut 55 = .ok (.isub, 1) := by decide +kernel
theorem dX0_dealOut_56 : decode cX0_dealOut 56 = .ok (.isub, 1) := by decide +kernel
theorem dX0_dealOut_57 : decode cX0_dealOut 57 = .ok (.putfield 25, 3) := by decide +kernel
theorem dX0_dealOut_60 : decode cX0_dealOut 60 = .ok (.return_, 1) := by decide +kernel
theorem dX0_lineUp_0 : decode cX0_lineUp 0 = .ok (.aload_n 0, 1) := by decide +kernel
theorem dX0_lineUp_1 : decode cX0_lineUp 1 = .ok (.getfield 12, 3) := by decide +kernel
theorem dX0_lineUp_4 : decode cX0_lineUp 4 = .ok (.invokevirtual 42, 3) := by decide +kernel
theorem dX0_lineUp_7 : decode cX0_lineUp 7 = .ok (.aload_n 0, 1) := by decide +kernel
theorem dX0_lineUp_8 : decode cX0_lineUp 8 = .ok (.getfield 18, 3) := by decide +kernel
theorem dX0_lineUp_11 : decode cX0_lineUp 11 = .ok (.invokevirtual 42, 3) := by decide +kernel
theorem dX0_lineUp_14 : decode cX0_lineUp 14 = .ok (.aload_n 0, 1) := by decide +kernel
theorem dX0_lineUp_15 : decode cX0_lineUp 15 = .ok (.aload_n 1, 1) := by decide +kernel
theorem dX0_lineUp_16 : decode cX0_lineUp 16 = .ok (.invokevirtual 45, 3) := by decide +kernel
theorem dX0_lineUp_19 : decode cX0_lineUp 19 = .ok (.putfield 21, 3) := by decide +kernel
theorem dX0_lineUp_22 : decode cX0_lineUp 22 = .ok (.aload_n 1, 1) := by decide +kernel
theorem dX0_lineUp_23 : decode cX0_lineUp 23 = .ok (.getfield 50, 3) := by decide +kernel
theorem dX0_lineUp_26 : decode cX0_lineUp 26 = .ok (.ifCond .eq 4, 3) := by decide +kernel
theorem dX0_lineUp_29 : decode cX0_lineUp 29 = .ok (.return_, 1) := by decide +kernel
theorem dX0_lineUp_30 : decode cX0_lineUp 30 = .ok (.iconst 0, 1) := by decide +kernel
theorem dX0_lineUp_31 : decode cX0_lineUp 31 = .ok (.istore_n 3, 1) := by decide +kernel
theorem dX0_lineUp_32 : decode cX0_lineUp 32 = .ok (.iload_n 3, 1) := by decide +kernel
theorem dX0_lineUp_33 : decode cX0_lineUp 33 = .ok (.aload_n 2, 1) := by decide +kernel
theorem dX0_lineUp_34 : decode cX0_lineUp 34 = .ok (.invokevirtual 54, 3) := by decide +kernel
theorem dX0_lineUp_37 : decode cX0_lineUp 37 = .ok (.if_icmp .ge 87, 3) := by decide +kernel
theorem dX0_lineUp_40 : decode cX0_lineUp 40 = .ok (.aload_n 2, 1) := by decide +kernel
theorem dX0_lineUp_41 : decode cX0_lineUp 41 = .ok (.iload_n 3, 1) := by decide +kernel
theorem dX0_lineUp_42 : decode cX0_lineUp 42 = .ok (.invokevirtual 59, 3) := by decide +kernel
theorem dX0_lineUp_45 : decode cX0_lineUp 45 = .ok (.checkcast 63, 3) := by decide +kernel
theorem dX0_lineUp_48 : decode cX0_lineUp 48 = .ok (.astore 4, 2) := by decide +kernel
theorem dX0_lineUp_50 : decode cX0_lineUp 50 = .ok (.aload 4, 2) := by decide +kernel
theorem dX0_lineUp_52 : decode cX0_lineUp 52 = .ok (.aload_n 1, 1) := by decide +kernel
theorem dX0_lineUp_53 : decode cX0_lineUp 53 = .ok (.getfield 65, 3) := by decide +kernel
theorem dX0_lineUp_56 : decode cX0_lineUp 56 = .ok (.invokevirtual 68, 3) := by decide +kernel
theorem dX0_lineUp_59 : decode cX0_lineUp 59 = .ok (.istore 5, 2) := by decide +kernel
theorem dX0_lineUp_61 : decode cX0_lineUp 61 = .ok (.aload_n 1, 1) := by decide +kernel
theorem dX0_lineUp_62 : decode cX0_lineUp 62 = .ok (.iload 5, 2) := by decide +kernel
theorem dX0_lineUp_64 : decode cX0_lineUp 64 = .ok (.invokevirtual 72, 3) := by decide +kernel
theorem dX0_lineUp_67 : decode cX0_lineUp 67 = .ok (.ifCond .eq 24, 3) := by decide +kernel
theorem dX0_lineUp_70 : decode cX0_lineUp 70 = .ok (.aload 4, 2) := by decide +kernel
theorem dX0_lineUp_72 : decode cX0_lineUp 72 = .ok (.invokevirtual 76, 3) := by decide +kernel
theorem dX0_lineUp_75 : decode cX0_lineUp 75 = .ok (.ifCond .eq 16, 3) := by decide +kernel
theorem dX0_lineUp_78 : decode cX0_lineUp 78 = .ok (.aload_n 0, 1) := by decide +kernel
theorem dX0_lineUp_79 : decode cX0_lineUp 79 = .ok (.getfield 12, 3) := by decide +kernel
theorem dX0_lineUp_82 : decode cX0_lineUp 82 = .ok (.iload_n 3, 1) := by decide +kernel
theorem dX0_lineUp_83 : decode cX0_lineUp 83 = .ok (.iload 5, 2) := by decide +kernel
theorem dX0_lineUp_85 : decode cX0_lineUp 85 = .ok (.invokevirtual 80, 3) := by decide +kernel
theorem dX0_lineUp_88 : decode cX0_lineUp 88 = .ok (.goto 30, 3) := by decide +kernel
theorem dX0_lineUp_91 : decode cX0_lineUp 91 = .ok (.aload_n 1, 1) := by decide +kernel
theorem dX0_lineUp_92 : decode cX0_lineUp 92 = .ok (.iload 5, 2) := by decide +kernel
theorem dX0_lineUp_94 : decode cX0_lineUp 94 = .ok (.invokevirtual 72, 3) := by decide +kernel
theorem dX0_lineUp_97 : decode cX0_lineUp 97 = .ok (.ifCond .eq 21, 3) := by decide +kernel
theorem dX0_lineUp_100 : decode cX0_lineUp 100 = .ok (.aload 4, 2) := by decide +kernel
theorem dX0_lineUp_102 : decode cX0_lineUp 102 = .ok (.invokevirtual 84, 3) := by decide +kernel
theorem dX0_lineUp_105 : decode cX0_lineUp 105 = .ok (.ifCond .eq 13, 3) := by decide +kernel
theorem dX0_lineUp_108 : decode cX0_lineUp 108 = .ok (.aload_n 0, 1) := by decide +kernel
theorem dX0_lineUp_109 : decode cX0_lineUp 109 = .ok (.getfield 18, 3) := by decide +kernel
theorem dX0_lineUp_112 : decode cX0_lineUp 112 = .ok (.iload_n 3, 1) := by decide +kernel
theorem dX0_lineUp_113 : decode cX0_lineUp 113 = .ok (.iload 5, 2) := by decide +kernel
theorem dX0_lineUp_115 : decode cX0_lineUp 115 = .ok (.invokevirtual 80, 3) := by decide +kernel
theorem dX0_lineUp_118 : decode cX0_lineUp 118 = .ok (.iinc 3 1, 3) := by decide +kernel
theorem dX0_lineUp_121 : decode cX0_lineUp 121 = .ok (.goto (-89), 3) := by decide +kernel
theorem dX0_lineUp_124 : decode cX0_lineUp 124 = .ok (.return_, 1) := by decide +kernel
theorem dX0_serve_0 : decode cX0_serve 0 = .ok (.iconst 0, 1) := by decide +kernel
theorem dX0_serve_1 : decode cX0_serve 1 = .ok (.istore_n 3, 1) := by decide +kernel
theorem dX0_serve_2 : decode cX0_serve 2 = .ok (.iconst 0, 1) := by decide +kernel
theorem dX0_serve_3 : decode cX0_serve 3 = .ok (.istore 4, 2) := by decide +kernel
theorem dX0_serve_5 : decode cX0_serve 5 = .ok (.iconst 0, 1) := by decide +kernel
theorem dX0_serve_6 : decode cX0_serve 6 = .ok (.istore 5, 2) := by decide +kernel
theorem dX0_serve_8 : decode cX0_serve 8 = .ok (.iload 5, 2) := by decide +kernel
theorem dX0_serve_10 : decode cX0_serve 10 = .ok (.aload_n 1, 1) := by decide +kernel
theorem dX0_serve_11 : decode cX0_serve 11 = .ok (.getfield 39, 3) := by decide +kernel
theorem dX0_serve_14 : decode cX0_serve 14 = .ok (.if_icmp .ge 103, 3) := by decide +kernel
theorem dX0_serve_17 : decode cX0_serve 17 = .ok (.aload_n 1, 1) := by decide +kernel
theorem dX0_serve_18 : decode cX0_serve 18 = .ok (.iload 5, 2) := by decide +kernel
theorem dX0_serve_20 : decode cX0_serve 20 = .ok (.invokevirtual 87, 3) := by decide +kernel
theorem dX0_serve_23 : decode cX0_serve 23 = .ok (.istore 6, 2) := by decide +kernel
theorem dX0_serve_25 : decode cX0_serve 25 = .ok (.iload 4, 2) := by decide +kernel
theorem dX0_serve_27 : decode cX0_serve 27 = .ok (.aload_n 0, 1) := by decide +kernel
theorem dX0_serve_28 : decode cX0_serve 28 = .ok (.getfield 21, 3) := by decide +kernel
theorem dX0_serve_31 : decode cX0_serve 31 = .ok (.if_icmp .ge 32, 3) := by decide +kernel
theorem dX0_serve_34 : decode cX0_serve 34 = .ok (.aload_n 2, 1) := by decide +kernel
theorem dX0_serve_35 : decode cX0_serve 35 = .ok (.iload 4, 2) := by decide +kernel
theorem dX0_serve_37 : decode cX0_serve 37 = .ok (.invokevirtual 90, 3) := by decide +kernel
theorem dX0_serve_40 : decode cX0_serve 40 = .ok (.iload 6, 2) := by decide +kernel
theorem dX0_serve_42 : decode cX0_serve 42 = .ok (.if_icmp .le 15, 3) := by decide +kernel
theorem dX0_serve_45 : decode cX0_serve 45 = .ok (.aload_n 0, 1) := by decide +kernel
theorem dX0_serve_46 : decode cX0_serve 46 = .ok (.getfield 12, 3) := by decide +kernel
theorem dX0_serve_49 : decode cX0_serve 49 = .ok (.iload 4, 2) := by decide +kernel
theorem dX0_serve_51 : decode cX0_serve 51 = .ok (.invokevirtual 93, 3) := by decide +kernel
theorem dX0_serve_54 : decode cX0_serve 54 = .ok (.ifCond .eq 9, 3) := by decide +kernel
theorem dX0_serve_57 : decode cX0_serve 57 = .ok (.iinc 4 1, 3) := by decide +kernel
theorem dX0_serve_60 : decode cX0_serve 60 = .ok (.goto (-35), 3) := by decide +kernel
theorem dX0_serve_63 : decode cX0_serve 63 = .ok (.iload 4, 2) := by decide +kernel
theorem dX0_serve_65 : decode cX0_serve 65 = .ok (.aload_n 0, 1) := by decide +kernel
theorem dX0_serve_66 : decode cX0_serve 66 = .ok (.getfield 21, 3) := by decide +kernel
theorem dX0_serve_69 : decode cX0_serve 69 = .ok (.if_icmp .ge 28, 3) := by decide +kernel
theorem dX0_serve_72 : decode cX0_serve 72 = .ok (.aload_n 1, 1) := by decide +kernel
theorem dX0_serve_73 : decode cX0_serve 73 = .ok (.iload 5, 2) := by decide +kernel
theorem dX0_serve_75 : decode cX0_serve 75 = .ok (.iload 4, 2) := by decide +kernel
theorem dX0_serve_77 : decode cX0_serve 77 = .ok (.iload 6, 2) := by decide +kernel
theorem dX0_serve_79 : decode cX0_serve 79 = .ok (.aload_n 2, 1) := by decide +kernel
theorem dX0_serve_80 : decode cX0_serve 80 = .ok (.iload 4, 2) := by decide +kernel
theorem dX0_serve_82 : decode cX0_serve 82 = .ok (.invokevirtual 96, 3) := by decide +kernel
theorem dX0_serve_85 : decode cX0_serve 85 = .ok (.invokestatic 99, 3) := by decide +kernel
theorem dX0_serve_88 : decode cX0_serve 88 = .ok (.invokevirtual 105, 3) := by decide +kernel
theorem dX0_serve_91 : decode cX0_serve 91 = .ok (.iinc 4 1, 3) := by decide +kernel
theorem dX0_serve_94 : decode cX0_serve 94 = .ok (.goto 17, 3) := by decide +kernel
theorem dX0_serve_97 : decode cX0_serve 97 = .ok (.aload_n 1, 1) := by decide +kernel
theorem dX0_serve_98 : decode cX0_serve 98 = .ok (.iload 5, 2) := by decide +kernel
theorem dX0_serve_100 : decode cX0_serve 100 = .ok (.iconst (-1), 1) := by decide +kernel
theorem dX0_serve_101 : decode cX0_serve 101 = .ok (.aload_n 2, 1) := by decide +kernel
theorem dX0_serve_102 : decode cX0_serve 102 = .ok (.getfield 109, 3) := by decide +kernel
theorem dX0_serve_105 : decode cX0_serve 105 = .ok (.invokevirtual 105, 3) := by decide +kernel
theorem dX0_serve_108 : decode cX0_serve 108 = .ok (.iinc 3 1, 3) := by decide +kernel
theorem dX0_serve_111 : decode cX0_serve 111 = .ok (.iinc 5 1, 3) := by decide +kernel
theorem dX0_serve_114 : decode cX0_serve 114 = .ok (.goto (-106), 3) := by decide +kernel
theorem dX0_serve_117 : decode cX0_serve 117 = .ok (.iload_n 3, 1) := by decide +kernel
theorem dX0_serve_118 : decode cX0_serve 118 = .ok (.ireturn, 1) := by decide +kernel
theorem dX0_penaltyBySlots_0 : decode cX0_penaltyBySlots 0 = .ok (.aload_n 0, 1) := by decide +kernel
theorem dX0_penaltyBySlots_1 : decode cX0_penaltyBySlots 1 = .ok (.aload_n 1, 1) := by decide +kernel
theorem dX0_penaltyBySlots_2 : decode cX0_penaltyBySlots 2 = .ok (.aload_n 2, 1) := by decide +kernel
theorem dX0_penaltyBySlots_3 : decode cX0_penaltyBySlots 3 = .ok (.invokevirtual 31, 3) := by decide +kernel
theorem dX0_penaltyBySlots_6 : decode cX0_penaltyBySlots 6 = .ok (.aload_n 0, 1) := by decide +kernel
theorem dX0_penaltyBySlots_7 : decode cX0_penaltyBySlots 7 = .ok (.getfield 18, 3) := by decide +kernel
theorem dX0_penaltyBySlots_10 : decode cX0_penaltyBySlots 10 = .ok (.iload_n 3, 1) := by decide +kernel
theorem dX0_penaltyBySlots_11 : decode cX0_penaltyBySlots 11 = .ok (.invokevirtual 112, 3) := by decide +kernel
theorem dX0_penaltyBySlots_14 : decode cX0_penaltyBySlots 14 = .ok (.istore 4, 2) := by decide +kernel
theorem dX0_penaltyBySlots_16 : decode cX0_penaltyBySlots 16 = .ok (.iload 4, 2) := by decide +kernel
theorem dX0_penaltyBySlots_18 : decode cX0_penaltyBySlots 18 = .ok (.iconst (-1), 1) := by decide +kernel
theorem dX0_penaltyBySlots_19 : decode cX0_penaltyBySlots 19 = .ok (.if_icmp .ne 5, 3) := by decide +kernel
theorem dX0_penaltyBySlots_22 : decode cX0_penaltyBySlots 22 = .ok (.iconst (-1), 1) := by decide +kernel
theorem dX0_penaltyBySlots_23 : decode cX0_penaltyBySlots 23 = .ok (.ireturn, 1) := by decide +kernel
theorem dX0_penaltyBySlots_24 : decode cX0_penaltyBySlots 24 = .ok (.aload_n 0, 1) := by decide +kernel
theorem dX0_penaltyBySlots_25 : decode cX0_penaltyBySlots 25 = .ok (.getfield 18, 3) := by decide +kernel
theorem dX0_penaltyBySlots_28 : decode cX0_penaltyBySlots 28 = .ok (.iload 4, 2) := by decide +kernel
theorem dX0_penaltyBySlots_30 : decode cX0_penaltyBySlots 30 = .ok (.invokevirtual 87, 3) := by decide +kernel
theorem dX0_penaltyBySlots_33 : decode cX0_penaltyBySlots 33 = .ok (.istore 5, 2) := by decide +kernel
theorem dX0_penaltyBySlots_35 : decode cX0_penaltyBySlots 35 = .ok (.iconst 0, 1) := by decide +kernel
theorem dX0_penaltyBySlots_36 : decode cX0_penaltyBySlots 36 = .ok (.istore 6, 2) := by decide +kernel
theorem dX0_penaltyBySlots_38 : decode cX0_penaltyBySlots 38 = .ok (.iconst 0, 1) := by decide +kernel
theorem dX0_penaltyBySlots_39 : decode cX0_penaltyBySlots 39 = .ok (.istore 7, 2) := by decide +kernel
theorem dX0_penaltyBySlots_41 : decode cX0_penaltyBySlots 41 = .ok (.iconst 0, 1) := by decide +kernel
theorem dX0_penaltyBySlots_42 : decode cX0_penaltyBySlots 42 = .ok (.istore 8, 2) := by decide +kernel
theorem dX0_penaltyBySlots_44 : decode cX0_penaltyBySlots 44 = .ok (.iload 8, 2) := by decide +kernel
theorem dX0_penaltyBySlots_46 : decode cX0_penaltyBySlots 46 = .ok (.aload_n 0, 1) := by decide +kernel
theorem dX0_penaltyBySlots_47 : decode cX0_penaltyBySlots 47 = .ok (.getfield 21, 3) := by decide +kernel
theorem dX0_penaltyBySlots_50 : decode cX0_penaltyBySlots 50 = .ok (.if_icmp .ge 75, 3) := by decide +kernel
theorem dX0_penaltyBySlots_53 : decode cX0_penaltyBySlots 53 = .ok (.aload_n 1, 1) := by decide +kernel
theorem dX0_penaltyBySlots_54 : decode cX0_penaltyBySlots 54 = .ok (.iload 8, 2) := by decide +kernel
theorem dX0_penaltyBySlots_56 : decode cX0_penaltyBySlots 56 = .ok (.invokevirtual 90, 3) := by decide +kernel
theorem dX0_penaltyBySlots_59 : decode cX0_penaltyBySlots 59 = .ok (.istore 9, 2) := by decide +kernel
theorem dX0_penaltyBySlots_61 : decode cX0_penaltyBySlots 61 = .ok (.aload_n 0, 1) := by decide +kernel
theorem dX0_penaltyBySlots_62 : decode cX0_penaltyBySlots 62 = .ok (.getfield 12, 3) := by decide +kernel
theorem dX0_penaltyBySlots_65 : decode cX0_penaltyBySlots 65 = .ok (.iload 6, 2) := by decide +kernel
theorem dX0_penaltyBySlots_67 : decode cX0_penaltyBySlots 67 = .ok (.iload 9, 2) := by decide +kernel
theorem dX0_penaltyBySlots_69 : decode cX0_penaltyBySlots 69 = .ok (.invokevirtual 115, 3) := by decide +kernel
theorem dX0_penaltyBySlots_72 : decode cX0_penaltyBySlots 72 = .ok (.ifCond .eq 9, 3) := by decide +kernel
theorem dX0_penaltyBySlots_75 : decode cX0_penaltyBySlots 75 = .ok (.iinc 6 1, 3) := by decide +kernel
theorem dX0_penaltyBySlots_78 : decode cX0_penaltyBySlots 78 = .ok (.goto 41, 3) := by decide +kernel
theorem dX0_penaltyBySlots_81 : decode cX0_penaltyBySlots 81 = .ok (.aload_n 0, 1) := by decide +kernel
theorem dX0_penaltyBySlots_82 : decode cX0_penaltyBySlots 82 = .ok (.getfield 18, 3) := by decide +kernel
theorem dX0_penaltyBySlots_85 : decode cX0_penaltyBySlots 85 = .ok (.iload 7, 2) := by decide +kernel
theorem dX0_penaltyBySlots_87 : decode cX0_penaltyBySlots 87 = .ok (.iload 9, 2) := by decide +kernel
theorem dX0_penaltyBySlots_89 : decode cX0_penaltyBySlots 89 = .ok (.invokevirtual 115, 3) := by decide +kernel
theorem dX0_penaltyBySlots_92 : decode cX0_penaltyBySlots 92 = .ok (.ifCond .eq 27, 3) := by decide +kernel
theorem dX0_penaltyBySlots_95 : decode cX0_penaltyBySlots 95 = .ok (.iload 7, 2) := by decide +kernel
theorem dX0_penaltyBySlots_97 : decode cX0_penaltyBySlots 97 = .ok (.iload 4, 2) := by decide +kernel
theorem dX0_penaltyBySlots_99 : decode cX0_penaltyBySlots 99 = .ok (.if_icmp .ne 17, 3) := by decide +kernel
theorem dX0_penaltyBySlots_102 : decode cX0_penaltyBySlots 102 = .ok (.iconst 0, 1) := by decide +kernel
theorem dX0_penaltyBySlots_103 : decode cX0_penaltyBySlots 103 = .ok (.aload_n 1, 1) := by decide +kernel
theorem dX0_penaltyBySlots_104 : decode cX0_penaltyBySlots 104 = .ok (.iload 8, 2) := by decide +kernel
theorem dX0_penaltyBySlots_106 : decode cX0_penaltyBySlots 106 = .ok (.invokevirtual 96, 3) := by decide +kernel
theorem dX0_penaltyBySlots_109 : decode cX0_penaltyBySlots 109 = .ok (.iload 5, 2) := by decide +kernel
theorem dX0_penaltyBySlots_111 : decode cX0_penaltyBySlots 111 = .ok (.isub, 1) := by decide +kernel
theorem dX0_penaltyBySlots_112 : decode cX0_penaltyBySlots 112 = .ok (.invokestatic 99, 3) := by decide +kernel
theorem dX0_penaltyBySlots_115 : decode cX0_penaltyBySlots 115 = .ok (.ireturn, 1) := by decide +kernel
theorem dX0_penaltyBySlots_116 : decode cX0_penaltyBySlots 116 = .ok (.iinc 7 1, 3) := by decide +kernel
theorem dX0_penaltyBySlots_119 : decode cX0_penaltyBySlots 119 = .ok (.iinc 8 1, 3) := by decide +kernel
theorem dX0_penaltyBySlots_122 : decode cX0_penaltyBySlots 122 = .ok (.goto (-78), 3) := by decide +kernel
theorem dX0_penaltyBySlots_125 : decode cX0_penaltyBySlots 125 = .ok (.aload_n 1, 1) := by decide +kernel
theorem dX0_penaltyBySlots_126 : decode cX0_penaltyBySlots 126 = .ok (.getfield 109, 3) := by decide +kernel
theorem dX0_penaltyBySlots_129 : decode cX0_penaltyBySlots 129 = .ok (.iload 5, 2) := by decide +kernel
theorem dX0_penaltyBySlots_131 : decode cX0_penaltyBySlots 131 = .ok (.isub, 1) := by decide +kernel
theorem dX0_penaltyBySlots_132 : decode cX0_penaltyBySlots 132 = .ok (.ireturn, 1) := by decide +kernel
theorem dX1_init_0 : decode cX1_init 0 = .ok (.aload_n 0, 1) := by decide +kernel
theorem dX1_init_1 : decode cX1_init 1 = .ok (.invokespecial 3, 3) := by decide +kernel
theorem dX1_init_4 : decode cX1_init 4 = .ok (.aload_n 0, 1) := by decide +kernel
theorem dX1_init_5 : decode cX1_init 5 = .ok (.iconst 0, 1) := by decide +kernel
theorem dX1_init_6 : decode cX1_init 6 = .ok (.putfield 9, 3) := by decide +kernel
theorem dX1_init_9 : decode cX1_init 9 = .ok (.aload_n 0, 1) := by decide +kernel
theorem dX1_init_10 : decode cX1_init 10 = .ok (.iconst 0, 1) := by decide +kernel
theorem dX1_init_11 : decode cX1_init 11 = .ok (.putfield 15, 3) := by decide +kernel
theorem dX1_init_14 : decode cX1_init 14 = .ok (.aload_n 0, 1) := by decide +kernel
theorem dX1_init_15 : decode cX1_init 15 = .ok (.iconst (-1), 1) := by decide +kernel
theorem dX1_init_16 : decode cX1_init 16 = .ok (.putfield 19, 3) := by decide +kernel
theorem dX1_init_19 : decode cX1_init 19 = .ok (.aload_n 0, 1) := by decide +kernel
theorem dX1_init_20 : decode cX1_init 20 = .ok (.iconst (-1), 1) := by decide +kernel
theorem dX1_init_21 : decode cX1_init 21 = .ok (.putfield 22, 3) := by decide +kernel
theorem dX1_init_24 : decode cX1_init 24 = .ok (.aload_n 0, 1) := by decide +kernel
theorem dX1_init_25 : decode cX1_init 25 = .ok (.iconst (-1), 1) := by decide +kernel
theorem dX1_init_26 : decode cX1_init 26 = .ok (.putfield 25, 3) := by decide +kernel
theorem dX1_init_29 : decode cX1_init 29 = .ok (.aload_n 0, 1) := by decide +kernel
theorem dX1_init_30 : decode cX1_init 30 = .ok (.iconst 0, 1) := by decide +kernel
theorem dX1_init_31 : decode cX1_init 31 = .ok (.putfield 28, 3) := by decide +kernel
theorem dX1_init_34 : decode cX1_init 34 = .ok (.aload_n 0, 1) := by decide +kernel
theorem dX1_init_35 : decode cX1_init 35 = .ok (.iconst 0, 1) := by decide +kernel
theorem dX1_init_36 : decode cX1_init 36 = .ok (.putfield 31, 3) := by decide +kernel
theorem dX1_init_39 : decode cX1_init 39 = .ok (.aload_n 0, 1) := by decide +kernel
theorem dX1_init_40 : decode cX1_init 40 = .ok (.iconst (-1), 1) := by decide +kernel
theorem dX1_init_41 : decode cX1_init 41 = .ok (.putfield 34, 3) := by decide +kernel
theorem dX1_init_44 : decode cX1_init 44 = .ok (.aload_n 0, 1) := by decide +kernel
theorem dX1_init_45 : decode cX1_init 45 = .ok (.bipush 6, 2) := by decide +kernel
theorem dX1_init_47 : decode cX1_init 47 = .ok (.newarray .int, 2) := by decide +kernel
theorem dX1_init_49 : decode cX1_init 49 = .ok (.putfield 37, 3) := by decide +kernel
theorem dX1_init_52 : decode cX1_init 52 = .ok (.aload_n 0, 1) := by decide +kernel
theorem dX1_init_53 : decode cX1_init 53 = .ok (.bipush 6, 2) := by decide +kernel
theorem dX1_init_55 : decode cX1_init 55 = .ok (.newarray .int, 2) := by decide +kernel
theorem dX1_init_57 : decode cX1_init 57 = .ok (.putfield 41, 3) := by decide +kernel
theorem dX1_init_60 : decode cX1_init 60 = .ok (.aload_n 0, 1) := by decide +kernel
theorem dX1_init_61 : decode cX1_init 61 = .ok (.iconst 0, 1) := by decide +kernel
theorem dX1_init_62 : decode cX1_init 62 = .ok (.putfield 44, 3) := by decide +kernel
theorem dX1_init_65 : decode cX1_init 65 = .ok (.aload_n 0, 1) := by decide +kernel
theorem dX1_init_66 : decode cX1_init 66 = .ok (.iconst (-1), 1) := by decide +kernel
theorem dX1_init_67 : decode cX1_init 67 = .ok (.putfield 47, 3) := by decide +kernel
theorem dX1_init_70 : decode cX1_init 70 = .ok (.aload_n 0, 1) := by decide +kernel
theorem dX1_init_71 : decode cX1_init 71 = .ok (.iload_n 1, 1) := by decide +kernel
theorem dX1_init_72 : decode cX1_init 72 = .ok (.putfield 50, 3) := by decide +kernel
theorem dX1_init_75 : decode cX1_init 75 = .ok (.aload_n 0, 1) := by decide +kernel
theorem dX1_init_76 : decode cX1_init 76 = .ok (.iload_n 2, 1) := by decide +kernel
theorem dX1_init_77 : decode cX1_init 77 = .ok (.putfield 53, 3) := by decide +kernel
theorem dX1_init_80 : decode cX1_init 80 = .ok (.iconst 0, 1) := by decide +kernel
theorem dX1_init_81 : decode cX1_init 81 = .ok (.istore_n 3, 1) := by decide +kernel
theorem dX1_init_82 : decode cX1_init 82 = .ok (.iload_n 3, 1) := by decide +kernel
theorem dX1_init_83 : decode cX1_init 83 = .ok (.aload_n 0, 1) := by decide +kernel
theorem dX1_init_84 : decode cX1_init 84 = .ok (.getfield 37, 3) := by decide +kernel
theorem dX1_init_87 : decode cX1_init 87 = .ok (.arraylength, 1) := by decide +kernel
theorem dX1_init_88 : decode cX1_init 88 = .ok (.if_icmp .ge 16, 3) := by decide +kernel
theorem dX1_init_91 : decode cX1_init 91 = .ok (.aload_n 0, 1) := by decide +kernel
theorem dX1_init_92 : decode cX1_init 92 = .ok (.getfield 37, 3) := by decide +kernel
theorem dX1_init_95 : decode cX1_init 95 = .ok (.iload_n 3, 1) := by decide +kernel
theorem dX1_init_96 : decode cX1_init 96 = .ok (.iconst (-1), 1) := by decide +kernel
theorem dX1_init_97 : decode cX1_init 97 = .ok (.iastore, 1) := by decide +kernel
theorem dX1_init_98 : decode cX1_init 98 = .ok (.iinc 3 1, 3) := by decide +kernel
theorem dX1_init_101 : decode cX1_init 101 = .ok (.goto (-19), 3) := by decide +kernel
theorem dX1_init_104 : decode cX1_init 104 = .ok (.return_, 1) := by decide +kernel
theorem dX1_canEnterNext_0 : decode cX1_canEnterNext 0 = .ok (.aload_n 0, 1) := by decide +kernel
theorem dX1_canEnterNext_1 : decode cX1_canEnterNext 1 = .ok (.getfield 9, 3) := by decide +kernel
theorem dX1_canEnterNext_4 : decode cX1_canEnterNext 4 = .ok (.ifCond .ne 39, 3) := by decide +kernel
theorem dX1_canEnterNext_7 : decode cX1_canEnterNext 7 = .ok (.aload_n 0, 1) := by decide +kernel
theorem dX1_canEnterNext_8 : decode cX1_canEnterNext 8 = .ok (.getfield 19, 3) := by decide +kernel
theorem dX1_canEnterNext_11 : decode cX1_canEnterNext 11 = .ok (.iconst (-1), 1) := by decide +kernel
theorem dX1_canEnterNext_12 : decode cX1_canEnterNext 12 = .ok (.if_icmp .ne 31, 3) := by decide +kernel
theorem dX1_canEnterNext_15 : decode cX1_canEnterNext 15 = .ok (.aload_n 0, 1) := by decide +kernel
theorem dX1_canEnterNext_16 : decode cX1_canEnterNext 16 = .ok (.getfield 31, 3) := by decide +kernel
theorem dX1_canEnterNext_19 : decode cX1_canEnterNext 19 = .ok (.iconst 5, 1) := by decide +kernel
theorem dX1_canEnterNext_20 : decode cX1_canEnterNext 20 = .ok (.if_icmp .ge 23, 3) := by decide +kernel
theorem dX1_canEnterNext_23 : decode cX1_canEnterNext 23 = .ok (.aload_n 0, 1) := by decide +kernel
theorem dX1_canEnterNext_24 : decode cX1_canEnterNext 24 = .ok (.iload_n 1, 1) := by decide +kernel
theorem dX1_canEnterNext_25 : decode cX1_canEnterNext 25 = .ok (.invokevirtual 56, 3) := by decide +kernel
theorem dX1_canEnterNext_28 : decode cX1_canEnterNext 28 = .ok (.ifCond .ne 15, 3) := by decide +kernel
theorem dX1_canEnterNext_31 : decode cX1_canEnterNext 31 = .ok (.aload_n 0, 1) := by decide +kernel
theorem dX1_canEnterNext_32 : decode cX1_canEnterNext 32 = .ok (.getfield 34, 3) := by decide +kernel
theorem dX1_canEnterNext_35 : decode cX1_canEnterNext 35 = .ok (.iload_n 2, 1) := by decide +kernel
theorem dX1_canEnterNext_36 : decode cX1_canEnterNext 36 = .ok (.if_icmp .ge 7, 3) := by decide +kernel
theorem dX1_canEnterNext_39 : decode cX1_canEnterNext 39 = .ok (.iconst 1, 1) := by decide +kernel
theorem dX1_canEnterNext_40 : decode cX1_canEnterNext 40 = .ok (.goto 4, 3) := by decide +kernel
theorem dX1_canEnterNext_43 : decode cX1_canEnterNext 43 = .ok (.iconst 0, 1) := by decide +kernel
theorem dX1_canEnterNext_44 : decode cX1_canEnterNext 44 = .ok (.ireturn, 1) := by decide +kernel
theorem dX1_addEntry_0 : decode cX1_addEntry 0 = .ok (.iload_n 1, 1) := by decide +kernel
theorem dX1_addEntry_1 : decode cX1_addEntry 1 = .ok (.ifCond .lt 21, 3) := by decide +kernel
theorem dX1_addEntry_4 : decode cX1_addEntry 4 = .ok (.iload_n 1, 1) := by decide +kernel
theorem dX1_addEntry_5 : decode cX1_addEntry 5 = .ok (.aload_n 0, 1) := by decide +kernel
theorem dX1_addEntry_6 : decode cX1_addEntry 6 = .ok (.getfield 37, 3) := by decide +kernel
theorem dX1_addEntry_9 : decode cX1_addEntry 9 = .ok (.arraylength, 1) := by decide +kernel
theorem dX1_addEntry_10 : decode cX1_addEntry 10 = .ok (.if_icmp .ge 12, 3) := by decide +kernel
theorem dX1_addEntry_13 : decode cX1_addEntry 13 = .ok (.iload_n 1, 1) := by decide +kernel
theorem dX1_addEntry_14 : decode cX1_addEntry 14 = .ok (.aload_n 0, 1) := by decide +kernel
theorem dX1_addEntry_15 : decode cX1_addEntry 15 = .ok (.getfield 41, 3) := by decide +kernel
theorem dX1_addEntry_18 : decode cX1_addEntry 18 = .ok (.arraylength, 1) := by decide +kernel
theorem dX1_addEntry_19 : decode cX1_addEntry 19 = .ok (.if_icmp .lt 4, 3) := by decide +kernel
theorem dX1_addEntry_22 : decode cX1_addEntry 22 = .ok (.return_, 1) := by decide +kernel
theorem dX1_addEntry_23 : decode cX1_addEntry 23 = .ok (.aload_n 0, 1) := by decide +kernel
theorem dX1_addEntry_24 : decode cX1_addEntry 24 = .ok (.getfield 37, 3) := by decide +kernel
theorem dX1_addEntry_27 : decode cX1_addEntry 27 = .ok (.iload_n 1, 1) := by decide +kernel
theorem dX1_addEntry_28 : decode cX1_addEntry 28 = .ok (.iload_n 2, 1) := by decide +kernel
theorem dX1_addEntry_29 : decode cX1_addEntry 29 = .ok (.iastore, 1) := by decide +kernel
theorem dX1_addEntry_30 : decode cX1_addEntry 30 = .ok (.aload_n 0, 1) := by decide +kernel
theorem dX1_addEntry_31 : decode cX1_addEntry 31 = .ok (.getfield 41, 3) := by decide +kernel
theorem dX1_addEntry_34 : decode cX1_addEntry 34 = .ok (.iload_n 1, 1) := by decide +kernel
theorem dX1_addEntry_35 : decode cX1_addEntry 35 = .ok (.iload_n 3, 1) := by decide +kernel
theorem dX1_addEntry_36 : decode cX1_addEntry 36 = .ok (.iastore, 1) := by decide +kernel
theorem dX1_addEntry_37 : decode cX1_addEntry 37 = .ok (.aload_n 0, 1) := by decide +kernel
theorem dX1_addEntry_38 : decode cX1_addEntry 38 = .ok (.iload_n 2, 1) := by decide +kernel
theorem dX1_addEntry_39 : decode cX1_addEntry 39 = .ok (.putfield 34, 3) := by decide +kernel
theorem dX1_addEntry_42 : decode cX1_addEntry 42 = .ok (.aload_n 0, 1) := by decide +kernel
theorem dX1_addEntry_43 : decode cX1_addEntry 43 = .ok (.dup, 1) := by decide +kernel
theorem dX1_addEntry_44 : decode cX1_addEntry 44 = .ok (.getfield 31, 3) := by decide +kernel
theorem dX1_addEntry_47 : decode cX1_addEntry 47 = .ok (.iconst 1, 1) := by decide +kernel
theorem dX1_addEntry_48 : decode cX1_addEntry 48 = .ok (.iadd, 1) := by decide +kernel
theorem dX1_addEntry_49 : decode cX1_addEntry 49 = .ok (.putfield 31, 3) := by decide +kernel
theorem dX1_addEntry_52 : decode cX1_addEntry 52 = .ok (.return_, 1) := by decide +kernel
theorem dX1_behindAt_0 : decode cX1_behindAt 0 = .ok (.iload_n 1, 1) := by decide +kernel
theorem dX1_behindAt_1 : decode cX1_behindAt 1 = .ok (.ifCond .lt 21, 3) := by decide +kernel
theorem dX1_behindAt_4 : decode cX1_behindAt 4 = .ok (.iload_n 1, 1) := by decide +kernel
theorem dX1_behindAt_5 : decode cX1_behindAt 5 = .ok (.aload_n 0, 1) := by decide +kernel
theorem dX1_behindAt_6 : decode cX1_behindAt 6 = .ok (.getfield 37, 3) := by decide +kernel
theorem dX1_behindAt_9 : decode cX1_behindAt 9 = .ok (.arraylength, 1) := by decide +kernel
theorem dX1_behindAt_10 : decode cX1_behindAt 10 = .ok (.if_icmp .ge 12, 3) := by decide +kernel
theorem dX1_behindAt_13 : decode cX1_behindAt 13 = .ok (.aload_n 0, 1) := by decide +kernel
theorem dX1_behindAt_14 : decode cX1_behindAt 14 = .ok (.getfield 37, 3) := by decide +kernel
theorem dX1_behindAt_17 : decode cX1_behindAt 17 = .ok (.iload_n 1, 1) := by decide +kernel
theorem dX1_behindAt_18 : decode cX1_behindAt 18 = .ok (.iaload, 1) := by decide +kernel
theorem dX1_behindAt_19 : decode cX1_behindAt 19 = .ok (.goto 4, 3) := by decide +kernel
theorem dX1_behindAt_22 : decode cX1_behindAt 22 = .ok (.iconst (-1), 1) := by decide +kernel
theorem dX1_behindAt_23 : decode cX1_behindAt 23 = .ok (.ireturn, 1) := by decide +kernel
theorem dX1_stayAt_0 : decode cX1_stayAt 0 = .ok (.iload_n 1, 1) := by decide +kernel
theorem dX1_stayAt_1 : decode cX1_stayAt 1 = .ok (.ifCond .lt 21, 3) := by decide +kernel
theorem dX1_stayAt_4 : decode cX1_stayAt 4 = .ok (.iload_n 1, 1) := by decide +kernel
theorem dX1_stayAt_5 : decode cX1_stayAt 5 = .ok (.aload_n 0, 1) := by decide +kernel
theorem dX1_stayAt_6 : decode cX1_stayAt 6 = .ok (.getfield 41, 3) := by decide +kernel
theorem dX1_stayAt_9 : decode cX1_stayAt 9 = .ok (.arraylength, 1) := by decide +kernel
theorem dX1_stayAt_10 : decode cX1_stayAt 10 = .ok (.if_icmp .ge 12, 3) := by decide +kernel
theorem dX1_stayAt_13 : decode cX1_stayAt 13 = .ok (.aload_n 0, 1) := by decide +kernel
theorem dX1_stayAt_14 : decode cX1_stayAt 14 = .ok (.getfield 41, 3) := by decide +kernel
theorem dX1_stayAt_17 : decode cX1_stayAt 17 = .ok (.iload_n 1, 1) := by decide +kernel
theorem dX1_stayAt_18 : decode cX1_stayAt 18 = .ok (.iaload, 1) := by decide +kernel
theorem dX1_stayAt_19 : decode cX1_stayAt 19 = .ok (.goto 4, 3) := by decide +kernel
theorem dX1_stayAt_22 : decode cX1_stayAt 22 = .ok (.iconst 0, 1) := by decide +kernel
theorem dX1_stayAt_23 : decode cX1_stayAt 23 = .ok (.ireturn, 1) := by decide +kernel
theorem dX1_enters_0 : decode cX1_enters 0 = .ok (.aload_n 0, 1) := by decide +kernel
theorem dX1_enters_1 : decode cX1_enters 1 = .ok (.iload_n 1, 1) := by decide +kernel
theorem dX1_enters_2 : decode cX1_enters 2 = .ok (.invokevirtual 60, 3) := by decide +kernel
theorem dX1_enters_5 : decode cX1_enters 5 = .ok (.iconst (-1), 1) := by decide +kernel
theorem dX1_enters_6 : decode cX1_enters 6 = .ok (.if_icmp .eq 7, 3) := by decide +kernel
theorem dX1_enters_9 : decode cX1_enters 9 = .ok (.iconst 1, 1) := by decide +kernel
theorem dX1_enters_10 : decode cX1_enters 10 = .ok (.goto 4, 3) := by decide +kernel
theorem dX1_enters_13 : decode cX1_enters 13 = .ok (.iconst 0, 1) := by decide +kernel
theorem dX1_enters_14 : decode cX1_enters 14 = .ok (.ireturn, 1) := by decide +kernel
theorem dX1_departure_0 : decode cX1_departure 0 = .ok (.aload_n 0, 1) := by decide +kernel
theorem dX1_departure_1 : decode cX1_departure 1 = .ok (.getfield 9, 3) := by decide +kernel
theorem dX1_departure_4 : decode cX1_departure 4 = .ok (.iconst 1, 1) := by decide +kernel
theorem dX1_departure_5 : decode cX1_departure 5 = .ok (.if_icmp .ne 8, 3) := by decide +kernel
theorem dX1_departure_8 : decode cX1_departure 8 = .ok (.aload_n 0, 1) := by decide +kernel
theorem dX1_departure_9 : decode cX1_departure 9 = .ok (.getfield 25, 3) := by decide +kernel
theorem dX1_departure_12 : decode cX1_departure 12 = .ok (.ireturn, 1) := by decide +kernel
theorem dX1_departure_13 : decode cX1_departure 13 = .ok (.aload_n 0, 1) := by decide +kernel
theorem dX1_departure_14 : decode cX1_departure 14 = .ok (.getfield 19, 3) := by decide +kernel
theorem dX1_departure_17 : decode cX1_departure 17 = .ok (.iconst (-1), 1) := by decide +kernel
theorem dX1_departure_18 : decode cX1_departure 18 = .ok (.if_icmp .eq 10, 3) := by decide +kernel
theorem dX1_departure_21 : decode cX1_departure 21 = .ok (.aload_n 0, 1) := by decide +kernel
theorem dX1_departure_22 : decode cX1_departure 22 = .ok (.getfield 19, 3) := by decide +kernel
theorem dX1_departure_25 : decode cX1_departure 25 = .ok (.goto 7, 3) := by decide +kernel
theorem dX1_departure_28 : decode cX1_departure 28 = .ok (.aload_n 0, 1) := by decide +kernel
theorem dX1_departure_29 : decode cX1_departure 29 = .ok (.getfield 53, 3) := by decide +kernel
theorem dX1_departure_32 : decode cX1_departure 32 = .ok (.ireturn, 1) := by decide +kernel
theorem dX1_timeOver_0 : decode cX1_timeOver 0 = .ok (.aload_n 0, 1) := by decide +kernel
theorem dX1_timeOver_1 : decode cX1_timeOver 1 = .ok (.iload_n 1, 1) := by decide +kernel
theorem dX1_timeOver_2 : decode cX1_timeOver 2 = .ok (.invokevirtual 60, 3) := by decide +kernel
theorem dX1_timeOver_5 : decode cX1_timeOver 5 = .ok (.istore_n 2, 1) := by decide +kernel
theorem dX1_timeOver_6 : decode cX1_timeOver 6 = .ok (.iload_n 2, 1) := by decide +kernel
theorem dX1_timeOver_7 : decode cX1_timeOver 7 = .ok (.iconst (-1), 1) := by decide +kernel
theorem dX1_timeOver_8 : decode cX1_timeOver 8 = .ok (.if_icmp .eq 12, 3) := by decide +kernel
theorem dX1_timeOver_11 : decode cX1_timeOver 11 = .ok (.aload_n 0, 1) := by decide +kernel
theorem dX1_timeOver_12 : decode cX1_timeOver 12 = .ok (.invokevirtual 64, 3) := by decide +kernel
theorem dX1_timeOver_15 : decode cX1_timeOver 15 = .ok (.iload_n 2, 1) := by decide +kernel
theorem dX1_timeOver_16 : decode cX1_timeOver 16 = .ok (.iadd, 1) := by decide +kernel
theorem dX1_timeOver_17 : decode cX1_timeOver 17 = .ok (.goto 4, 3) := by decide +kernel
theorem dX1_timeOver_20 : decode cX1_timeOver 20 = .ok (.iconst (-1), 1) := by decide +kernel
theorem dX1_timeOver_21 : decode cX1_timeOver 21 = .ok (.ireturn, 1) := by decide +kernel
theorem dX1_loads_0 : decode cX1_loads 0 = .ok (.aload_n 0, 1) := by decide +kernel
theorem dX1_loads_1 : decode cX1_loads 1 = .ok (.getfield 9, 3) := by decide +kernel
theorem dX1_loads_4 : decode cX1_loads 4 = .ok (.iconst 2, 1) := by decide +kernel
theorem dX1_loads_5 : decode cX1_loads 5 = .ok (.if_icmp .eq 15, 3) := by decide +kernel
theorem dX1_loads_8 : decode cX1_loads 8 = .ok (.aload_n 0, 1) := by decide +kernel
theorem dX1_loads_9 : decode cX1_loads 9 = .ok (.iload_n 1, 1) := by decide +kernel
theorem dX1_loads_10 : decode cX1_loads 10 = .ok (.invokevirtual 56, 3) := by decide +kernel
theorem dX1_loads_13 : decode cX1_loads 13 = .ok (.ifCond .eq 7, 3) := by decide +kernel
theorem dX1_loads_16 : decode cX1_loads 16 = .ok (.iconst 1, 1) := by decide +kernel
theorem dX1_loads_17 : decode cX1_loads 17 = .ok (.goto 4, 3) := by decide +kernel
theorem dX1_loads_20 : decode cX1_loads 20 = .ok (.iconst 0, 1) := by decide +kernel
theorem dX1_loads_21 : decode cX1_loads 21 = .ok (.ireturn, 1) := by decide +kernel
theorem dX1_isInside_0 : decode cX1_isInside 0 = .ok (.aload_n 0, 1) := by decide +kernel
theorem dX1_isInside_1 : decode cX1_isInside 1 = .ok (.iload_n 1, 1) := by decide +kernel
theorem dX1_isInside_2 : decode cX1_isInside 2 = .ok (.invokevirtual 68, 3) := by decide +kernel
theorem dX1_isInside_5 : decode cX1_isInside 5 = .ok (.istore_n 3, 1) := by decide +kernel
theorem dX1_isInside_6 : decode cX1_isInside 6 = .ok (.aload_n 0, 1) := by decide +kernel
theorem dX1_isInside_7 : decode cX1_isInside 7 = .ok (.iload_n 1, 1) := by decide +kernel
theorem dX1_isInside_8 : decode cX1_isInside 8 = .ok (.invokevirtual 71, 3) := by decide +kernel
theorem dX1_isInside_11 : decode cX1_isInside 11 = .ok (.ifCond .eq 23, 3) := by decide +kernel
theorem dX1_isInside_14 : decode cX1_isInside 14 = .ok (.iload_n 3, 1) := by decide +kernel
theorem dX1_isInside_15 : decode cX1_isInside 15 = .ok (.iload_n 2, 1) := by decide +kernel
theorem dX1_isInside_16 : decode cX1_isInside 16 = .ok (.if_icmp .gt 18, 3) := by decide +kernel
theorem dX1_isInside_19 : decode cX1_isInside 19 = .ok (.iload_n 2, 1) := by decide +kernel
theorem dX1_isInside_20 : decode cX1_isInside 20 = .ok (.iload_n 3, 1) := by decide +kernel
theorem dX1_isInside_21 : decode cX1_isInside 21 = .ok (.aload_n 0, 1) := by decide +kernel
theorem dX1_isInside_22 : decode cX1_isInside 22 = .ok (.iload_n 1, 1) := by decide +kernel
theorem dX1_isInside_23 : decode cX1_isInside 23 = .ok (.invokevirtual 74, 3) := by decide +kernel
theorem dX1_isInside_26 : decode cX1_isInside 26 = .ok (.iadd, 1) := by decide +kernel
theorem dX1_isInside_27 : decode cX1_isInside 27 = .ok (.if_icmp .ge 7, 3) := by decide +kernel
theorem dX1_isInside_30 : decode cX1_isInside 30 = .ok (.iconst 1, 1) := by decide +kernel
theorem dX1_isInside_31 : decode cX1_isInside 31 = .ok (.goto 4, 3) := by decide +kernel
theorem dX1_isInside_34 : decode cX1_isInside 34 = .ok (.iconst 0, 1) := by decide +kernel
theorem dX1_isInside_35 : decode cX1_isInside 35 = .ok (.ireturn, 1) := by decide +kernel
theorem dX1_isFixed_0 : decode cX1_isFixed 0 = .ok (.aload_n 0, 1) := by decide +kernel
theorem dX1_isFixed_1 : decode cX1_isFixed 1 = .ok (.getfield 9, 3) := by decide +kernel
theorem dX1_isFixed_4 : decode cX1_isFixed 4 = .ok (.iconst 1, 1) := by decide +kernel
theorem dX1_isFixed_5 : decode cX1_isFixed 5 = .ok (.if_icmp .eq 17, 3) := by decide +kernel
theorem dX1_isFixed_8 : decode cX1_isFixed 8 = .ok (.aload_n 0, 1) := by decide +kernel
theorem dX1_isFixed_9 : decode cX1_isFixed 9 = .ok (.getfield 9, 3) := by decide +kernel
theorem dX1_isFixed_12 : decode cX1_isFixed 12 = .ok (.ifCond .ne 14, 3) := by decide +kernel
theorem dX1_isFixed_15 : decode cX1_isFixed 15 = .ok (.aload_n 0, 1) := by decide +kernel
theorem dX1_isFixed_16 : decode cX1_isFixed 16 = .ok (.getfield 15, 3) := by decide +kernel
theorem dX1_isFixed_19 : decode cX1_isFixed 19 = .ok (.ifCond .eq 7, 3) := by decide +kernel
theorem dX1_isFixed_22 : decode cX1_isFixed 22 = .ok (.iconst 1, 1) := by decide +kernel
theorem dX1_isFixed_23 : decode cX1_isFixed 23 = .ok (.goto 4, 3) := by decide +kernel
theorem dX1_isFixed_26 : decode cX1_isFixed 26 = .ok (.iconst 0, 1) := by decide +kernel
theorem dX1_isFixed_27 : decode cX1_isFixed 27 = .ok (.ireturn, 1) := by decide +kernel
theorem dX1_isListed_0 : decode cX1_isListed 0 = .ok (.aload_n 0, 1) := by decide +kernel
theorem dX1_isListed_1 : decode cX1_isListed 1 = .ok (.getfield 9, 3) := by decide +kernel
theorem dX1_isListed_4 : decode cX1_isListed 4 = .ok (.ifCond .ne 14, 3) := by decide +kernel
theorem dX1_isListed_7 : decode cX1_isListed 7 = .ok (.aload_n 0, 1) := by decide +kernel
theorem dX1_isListed_8 : decode cX1_isListed 8 = .ok (.getfield 15, 3) := by decide +kernel
theorem dX1_isListed_11 : decode cX1_isListed 11 = .ok (.ifCond .ne 7, 3) := by decide +kernel
theorem dX1_isListed_14 : decode cX1_isListed 14 = .ok (.iconst 1, 1) := by decide +kernel
theorem dX1_isListed_15 : decode cX1_isListed 15 = .ok (.goto 4, 3) := by decide +kernel
theorem dX1_isListed_18 : decode cX1_isListed 18 = .ok (.iconst 0, 1) := by decide +kernel
theorem dX1_isListed_19 : decode cX1_isListed 19 = .ok (.ireturn, 1) := by decide +kernel
theorem dX1_lineTime_0 : decode cX1_lineTime 0 = .ok (.aload_n 0, 1) := by decide +kernel
theorem dX1_lineTime_1 : decode cX1_lineTime 1 = .ok (.iload_n 1, 1) := by decide +kernel
theorem dX1_lineTime_2 : decode cX1_lineTime 2 = .ok (.invokevirtual 60, 3) := by decide +kernel
theorem dX1_lineTime_5 : decode cX1_lineTime 5 = .ok (.istore_n 2, 1) := by decide +kernel
theorem dX1_lineTime_6 : decode cX1_lineTime 6 = .ok (.iload_n 2, 1) := by decide +kernel
theorem dX1_lineTime_7 : decode cX1_lineTime 7 = .ok (.iconst (-1), 1) := by decide +kernel
theorem dX1_lineTime_8 : decode cX1_lineTime 8 = .ok (.if_icmp .ne 5, 3) := by decide +kernel
theorem dX1_lineTime_11 : decode cX1_lineTime 11 = .ok (.iconst (-1), 1) := by decide +kernel
theorem dX1_lineTime_12 : decode cX1_lineTime 12 = .ok (.ireturn, 1) := by decide +kernel
theorem dX1_lineTime_13 : decode cX1_lineTime 13 = .ok (.aload_n 0, 1) := by decide +kernel
theorem dX1_lineTime_14 : decode cX1_lineTime 14 = .ok (.getfield 9, 3) := by decide +kernel
theorem dX1_lineTime_17 : decode cX1_lineTime 17 = .ok (.iconst 1, 1) := by decide +kernel
theorem dX1_lineTime_18 : decode cX1_lineTime 18 = .ok (.if_icmp .ne 10, 3) := by decide +kernel
theorem dX1_lineTime_21 : decode cX1_lineTime 21 = .ok (.aload_n 0, 1) := by decide +kernel
theorem dX1_lineTime_22 : decode cX1_lineTime 22 = .ok (.getfield 25, 3) := by decide +kernel
theorem dX1_lineTime_25 : decode cX1_lineTime 25 = .ok (.goto 7, 3) := by decide +kernel
theorem dX1_lineTime_28 : decode cX1_lineTime 28 = .ok (.aload_n 0, 1) := by decide +kernel
theorem dX1_lineTime_29 : decode cX1_lineTime 29 = .ok (.getfield 53, 3) := by decide +kernel
theorem dX1_lineTime_32 : decode cX1_lineTime 32 = .ok (.iload_n 2, 1) := by decide +kernel
theorem dX1_lineTime_33 : decode cX1_lineTime 33 = .ok (.iadd, 1) := by decide +kernel
theorem dX1_lineTime_34 : decode cX1_lineTime 34 = .ok (.ireturn, 1) := by decide +kernel
theorem dX1_loseSlotTime_0 : decode cX1_loseSlotTime 0 = .ok (.aload_n 0, 1) := by decide +kernel
theorem dX1_loseSlotTime_1 : decode cX1_loseSlotTime 1 = .ok (.iconst (-1), 1) := by decide +kernel
theorem dX1_loseSlotTime_2 : decode cX1_loseSlotTime 2 = .ok (.putfield 19, 3) := by decide +kernel
theorem dX1_loseSlotTime_5 : decode cX1_loseSlotTime 5 = .ok (.aload_n 0, 1) := by decide +kernel
theorem dX1_loseSlotTime_6 : decode cX1_loseSlotTime 6 = .ok (.iconst (-1), 1) := by decide +kernel
theorem dX1_loseSlotTime_7 : decode cX1_loseSlotTime 7 = .ok (.putfield 22, 3) := by decide +kernel
theorem dX1_loseSlotTime_10 : decode cX1_loseSlotTime 10 = .ok (.return_, 1) := by decide +kernel
theorem dX1_delay_0 : decode cX1_delay 0 = .ok (.aload_n 0, 1) := by decide +kernel
theorem dX1_delay_1 : decode cX1_delay 1 = .ok (.getfield 19, 3) := by decide +kernel
theorem dX1_delay_4 : decode cX1_delay 4 = .ok (.iconst (-1), 1) := by decide +kernel
theorem dX1_delay_5 : decode cX1_delay 5 = .ok (.if_icmp .eq 15, 3) := by decide +kernel
theorem dX1_delay_8 : decode cX1_delay 8 = .ok (.aload_n 0, 1) := by decide +kernel
theorem dX1_delay_9 : decode cX1_delay 9 = .ok (.getfield 19, 3) := by decide +kernel
theorem dX1_delay_12 : decode cX1_delay 12 = .ok (.aload_n 0, 1) := by decide +kernel
theorem dX1_delay_13 : decode cX1_delay 13 = .ok (.getfield 53, 3) := by decide +kernel
theorem dX1_delay_16 : decode cX1_delay 16 = .ok (.isub, 1) := by decide +kernel
theorem dX1_delay_17 : decode cX1_delay 17 = .ok (.goto 4, 3) := by decide +kernel
theorem dX1_delay_20 : decode cX1_delay 20 = .ok (.iconst 0, 1) := by decide +kernel
theorem dX1_delay_21 : decode cX1_delay 21 = .ok (.ireturn, 1) := by decide +kernel
theorem dX1_charge_0 : decode cX1_charge 0 = .ok (.aload_n 0, 1) := by decide +kernel
theorem dX1_charge_1 : decode cX1_charge 1 = .ok (.getfield 9, 3) := by decide +kernel
theorem dX1_charge_4 : decode cX1_charge 4 = .ok (.iconst 1, 1) := by decide +kernel
theorem dX1_charge_5 : decode cX1_charge 5 = .ok (.if_icmp .ne 10, 3) := by decide +kernel
theorem dX1_charge_8 : decode cX1_charge 8 = .ok (.aload_n 0, 1) := by decide +kernel
theorem dX1_charge_9 : decode cX1_charge 9 = .ok (.invokevirtual 77, 3) := by decide +kernel
theorem dX1_charge_12 : decode cX1_charge 12 = .ok (.goto 4, 3) := by decide +kernel
theorem dX1_charge_15 : decode cX1_charge 15 = .ok (.iconst 0, 1) := by decide +kernel
theorem dX1_charge_16 : decode cX1_charge 16 = .ok (.ireturn, 1) := by decide +kernel
theorem dX1_wentOutOfWindow_0 : decode cX1_wentOutOfWindow 0 = .ok (.aload_n 0, 1) := by decide +kernel
theorem dX1_wentOutOfWindow_1 : decode cX1_wentOutOfWindow 1 = .ok (.getfield 9, 3) := by decide +kernel
theorem dX1_wentOutOfWindow_4 : decode cX1_wentOutOfWindow 4 = .ok (.iconst 1, 1) := by decide +kernel
theorem dX1_wentOutOfWindow_5 : decode cX1_wentOutOfWindow 5 = .ok (.if_icmp .ne 42, 3) := by decide +kernel
theorem dX1_wentOutOfWindow_8 : decode cX1_wentOutOfWindow 8 = .ok (.aload_n 0, 1) := by decide +kernel
theorem dX1_wentOutOfWindow_9 : decode cX1_wentOutOfWindow 9 = .ok (.getfield 19, 3) := by decide +kernel
theorem dX1_wentOutOfWindow_12 : decode cX1_wentOutOfWindow 12 = .ok (.iconst (-1), 1) := by decide +kernel
theorem dX1_wentOutOfWindow_13 : decode cX1_wentOutOfWindow 13 = .ok (.if_icmp .eq 34, 3) := by decide +kernel
theorem dX1_wentOutOfWindow_16 : decode cX1_wentOutOfWindow 16 = .ok (.aload_n 0, 1) := by decide +kernel
theorem dX1_wentOutOfWindow_17 : decode cX1_wentOutOfWindow 17 = .ok (.getfield 25, 3) := by decide +kernel
theorem dX1_wentOutOfWindow_20 : decode cX1_wentOutOfWindow 20 = .ok (.aload_n 0, 1) := by decide +kernel
theorem dX1_wentOutOfWindow_21 : decode cX1_wentOutOfWindow 21 = .ok (.getfield 19, 3) := by decide +kernel
theorem dX1_wentOutOfWindow_24 : decode cX1_wentOutOfWindow 24 = .ok (.iconst 5, 1) := by decide +kernel
theorem dX1_wentOutOfWindow_25 : decode cX1_wentOutOfWindow 25 = .ok (.isub, 1) := by decide +kernel
theorem dX1_wentOutOfWindow_26 : decode cX1_wentOutOfWindow 26 = .ok (.if_icmp .lt 17, 3) := by decide +kernel
theorem dX1_wentOutOfWindow_29 : decode cX1_wentOutOfWindow 29 = .ok (.aload_n 0, 1) := by decide +kernel
theorem dX1_wentOutOfWindow_30 : decode cX1_wentOutOfWindow 30 = .ok (.getfield 25, 3) := by decide +kernel
theorem dX1_wentOutOfWindow_33 : decode cX1_wentOutOfWindow 33 = .ok (.aload_n 0, 1) := by decide +kernel
theorem dX1_wentOutOfWindow_34 : decode cX1_wentOutOfWindow 34 = .ok (.getfield 19, 3) := by decide +kernel
theorem dX1_wentOutOfWindow_37 : decode cX1_wentOutOfWindow 37 = .ok (.bipush 10, 2) := by decide +kernel
theorem dX1_wentOutOfWindow_39 : decode cX1_wentOutOfWindow 39 = .ok (.iadd, 1) := by decide +kernel
theorem dX1_wentOutOfWindow_40 : decode cX1_wentOutOfWindow 40 = .ok (.if_icmp .le 7, 3) := by decide +kernel
theorem dX1_wentOutOfWindow_43 : decode cX1_wentOutOfWindow 43 = .ok (.iconst 1, 1) := by decide +kernel
theorem dX1_wentOutOfWindow_44 : decode cX1_wentOutOfWindow 44 = .ok (.goto 4, 3) := by decide +kernel
theorem dX1_wentOutOfWindow_47 : decode cX1_wentOutOfWindow 47 = .ok (.iconst 0, 1) := by decide +kernel
theorem dX1_wentOutOfWindow_48 : decode cX1_wentOutOfWindow 48 = .ok (.ireturn, 1) := by decide +kernel
theorem dX1_ledgerLine_0 : decode cX1_ledgerLine 0 = .ok (.iload_n 1, 1) := by decide +kernel
theorem dX1_ledgerLine_1 : decode cX1_ledgerLine 1 = .ok (.lookupswitch 45 #[(0, 27), (1, 32)], 27) := by decide +kernel
theorem dX1_ledgerLine_28 : decode cX1_ledgerLine 28 = .ok (.aload_n 0, 1) := by decide +kernel
theorem dX1_ledgerLine_29 : decode cX1_ledgerLine 29 = .ok (.invokevirtual 80, 3) := by decide +kernel
theorem dX1_ledgerLine_32 : decode cX1_ledgerLine 32 = .ok (.ireturn, 1) := by decide +kernel
theorem dX1_ledgerLine_33 : decode cX1_ledgerLine 33 = .ok (.aload_n 0, 1) := by decide +kernel
theorem dX1_ledgerLine_34 : decode cX1_ledgerLine 34 = .ok (.invokevirtual 83, 3) := by decide +kernel
theorem dX1_ledgerLine_37 : decode cX1_ledgerLine 37 = .ok (.ifCond .eq 7, 3) := by decide +kernel
theorem dX1_ledgerLine_40 : decode cX1_ledgerLine 40 = .ok (.iconst 1, 1) := by decide +kernel
theorem dX1_ledgerLine_41 : decode cX1_ledgerLine 41 = .ok (.goto 4, 3) := by decide +kernel
theorem dX1_ledgerLine_44 : decode cX1_ledgerLine 44 = .ok (.iconst 0, 1) := by decide +kernel
theorem dX1_ledgerLine_45 : decode cX1_ledgerLine 45 = .ok (.ireturn, 1) := by decide +kernel
theorem dX1_ledgerLine_46 : decode cX1_ledgerLine 46 = .ok (.aload_n 0, 1) := by decide +kernel
theorem dX1_ledgerLine_47 : decode cX1_ledgerLine 47 = .ok (.getfield 9, 3) := by decide +kernel
theorem dX1_ledgerLine_50 : decode cX1_ledgerLine 50 = .ok (.iconst 1, 1) := by decide +kernel
theorem dX1_ledgerLine_51 : decode cX1_ledgerLine 51 = .ok (.if_icmp .ne 7, 3) := by decide +kernel
theorem dX1_ledgerLine_54 : decode cX1_ledgerLine 54 = .ok (.iconst 1, 1) := by decide +kernel
theorem dX1_ledgerLine_55 : decode cX1_ledgerLine 55 = .ok (.goto 4, 3) := by decide +kernel
theorem dX1_ledgerLine_58 : decode cX1_ledgerLine 58 = .ok (.iconst 0, 1) := by decide +kernel
theorem dX1_ledgerLine_59 : decode cX1_ledgerLine 59 = .ok (.ireturn, 1) := by decide +kernel
theorem dX1_forgetReckoned_0 : decode cX1_forgetReckoned 0 = .ok (.aload_n 0, 1) := by decide +kernel
theorem dX1_forgetReckoned_1 : decode cX1_forgetReckoned 1 = .ok (.iconst 0, 1) := by decide +kernel
theorem dX1_forgetReckoned_2 : decode cX1_forgetReckoned 2 = .ok (.putfield 44, 3) := by decide +kernel
theorem dX1_forgetReckoned_5 : decode cX1_forgetReckoned 5 = .ok (.aload_n 0, 1) := by decide +kernel
theorem dX1_forgetReckoned_6 : decode cX1_forgetReckoned 6 = .ok (.iconst (-1), 1) := by decide +kernel
theorem dX1_forgetReckoned_7 : decode cX1_forgetReckoned 7 = .ok (.putfield 47, 3) := by decide +kernel
theorem dX1_forgetReckoned_10 : decode cX1_forgetReckoned 10 = .ok (.return_, 1) := by decide +kernel
theorem dX1_reckon_0 : decode cX1_reckon 0 = .ok (.iload_n 1, 1) := by decide +kernel
theorem dX1_reckon_1 : decode cX1_reckon 1 = .ok (.aload_n 0, 1) := by decide +kernel
theorem dX1_reckon_2 : decode cX1_reckon 2 = .ok (.getfield 44, 3) := by decide +kernel
theorem dX1_reckon_5 : decode cX1_reckon 5 = .ok (.if_icmp .le 13, 3) := by decide +kernel
theorem dX1_reckon_8 : decode cX1_reckon 8 = .ok (.aload_n 0, 1) := by decide +kernel
theorem dX1_reckon_9 : decode cX1_reckon 9 = .ok (.iload_n 1, 1) := by decide +kernel
theorem dX1_reckon_10 : decode cX1_reckon 10 = .ok (.putfield 44, 3) := by decide +kernel
theorem dX1_reckon_13 : decode cX1_reckon 13 = .ok (.aload_n 0, 1) := by decide +kernel
theorem dX1_reckon_14 : decode cX1_reckon 14 = .ok (.iload_n 2, 1) := by decide +kernel
theorem dX1_reckon_15 : decode cX1_reckon 15 = .ok (.putfield 47, 3) := by decide +kernel
theorem dX1_reckon_18 : decode cX1_reckon 18 = .ok (.return_, 1) := by decide +kernel
theorem dX1_takeReckoned_0 : decode cX1_takeReckoned 0 = .ok (.aload_n 0, 1) := by decide +kernel
theorem dX1_takeReckoned_1 : decode cX1_takeReckoned 1 = .ok (.invokevirtual 87, 3) := by decide +kernel
theorem dX1_takeReckoned_4 : decode cX1_takeReckoned 4 = .ok (.ifCond .ne 4, 3) := by decide +kernel
theorem dX1_takeReckoned_7 : decode cX1_takeReckoned 7 = .ok (.return_, 1) := by decide +kernel
theorem dX1_takeReckoned_8 : decode cX1_takeReckoned 8 = .ok (.aload_n 0, 1) := by decide +kernel
theorem dX1_takeReckoned_9 : decode cX1_takeReckoned 9 = .ok (.getfield 44, 3) := by decide +kernel
theorem dX1_takeReckoned_12 : decode cX1_takeReckoned 12 = .ok (.ifCond .ne 8, 3) := by decide +kernel
theorem dX1_takeReckoned_15 : decode cX1_takeReckoned 15 = .ok (.aload_n 0, 1) := by decide +kernel
theorem dX1_takeReckoned_16 : decode cX1_takeReckoned 16 = .ok (.invokevirtual 90, 3) := by decide +kernel
theorem dX1_takeReckoned_19 : decode cX1_takeReckoned 19 = .ok (.return_, 1) := by decide +kernel
theorem dX1_takeReckoned_20 : decode cX1_takeReckoned 20 = .ok (.aload_n 0, 1) := by decide +kernel
theorem dX1_takeReckoned_21 : decode cX1_takeReckoned 21 = .ok (.getfield 53, 3) := by decide +kernel
theorem dX1_takeReckoned_24 : decode cX1_takeReckoned 24 = .ok (.aload_n 0, 1) := by decide +kernel
theorem dX1_takeReckoned_25 : decode cX1_takeReckoned 25 = .ok (.getfield 44, 3) := by decide +kernel
theorem dX1_takeReckoned_28 : decode cX1_takeReckoned 28 = .ok (.iadd, 1) := by decide +kernel
theorem dX1_takeReckoned_29 : decode cX1_takeReckoned 29 = .ok (.istore_n 2, 1) := by decide +kernel
theorem dX1_takeReckoned_30 : decode cX1_takeReckoned 30 = .ok (.iload_n 1, 1) := by decide +kernel
theorem dX1_takeReckoned_31 : decode cX1_takeReckoned 31 = .ok (.ifCond .ne 19, 3) := by decide +kernel
theorem dX1_takeReckoned_34 : decode cX1_takeReckoned 34 = .ok (.aload_n 0, 1) := by decide +kernel
theorem dX1_takeReckoned_35 : decode cX1_takeReckoned 35 = .ok (.getfield 19, 3) := by decide +kernel
theorem dX1_takeReckoned_38 : decode cX1_takeReckoned 38 = .ok (.iconst (-1), 1) := by decide +kernel
theorem dX1_takeReckoned_39 : decode cX1_takeReckoned 39 = .ok (.if_icmp .eq 11, 3) := by decide +kernel
theorem dX1_takeReckoned_42 : decode cX1_takeReckoned 42 = .ok (.iload_n 2, 1) := by decide +kernel
theorem dX1_takeReckoned_43 : decode cX1_takeReckoned 43 = .ok (.aload_n 0, 1) := by decide +kernel
theorem dX1_takeReckoned_44 : decode cX1_takeReckoned 44 = .ok (.getfield 19, 3) := by decide +kernel
theorem dX1_takeReckoned_47 : decode cX1_takeReckoned 47 = .ok (.if_icmp .gt 16, 3) := by decide +kernel
theorem dX1_takeReckoned_50 : decode cX1_takeReckoned 50 = .ok (.aload_n 0, 1) := by decide +kernel
theorem dX1_takeReckoned_51 : decode cX1_takeReckoned 51 = .ok (.iload_n 2, 1) := by decide +kernel
theorem dX1_takeReckoned_52 : decode cX1_takeReckoned 52 = .ok (.putfield 19, 3) := by decide +kernel
theorem dX1_takeReckoned_55 : decode cX1_takeReckoned 55 = .ok (.aload_n 0, 1) := by decide +kernel
theorem dX1_takeReckoned_56 : decode cX1_takeReckoned 56 = .ok (.aload_n 0, 1) := by decide +kernel
theorem dX1_takeReckoned_57 : decode cX1_takeReckoned 57 = .ok (.getfield 47, 3) := by decide +kernel
theorem dX1_takeReckoned_60 : decode cX1_takeReckoned 60 = .ok (.putfield 22, 3) := by decide +kernel
theorem dX1_takeReckoned_63 : decode cX1_takeReckoned 63 = .ok (.return_, 1) := by decide +kernel
theorem dX1_sharesRuling_0 : decode cX1_sharesRuling 0 = .ok (.aload_n 0, 1) := by decide +kernel
theorem dX1_sharesRuling_1 : decode cX1_sharesRuling 1 = .ok (.getfield 9, 3) := by decide +kernel
theorem dX1_sharesRuling_4 : decode cX1_sharesRuling 4 = .ok (.ifCond .ne 52, 3) := by decide +kernel
theorem dX1_sharesRuling_7 : decode cX1_sharesRuling 7 = .ok (.aload_n 1, 1) := by decide +kernel
theorem dX1_sharesRuling_8 : decode cX1_sharesRuling 8 = .ok (.getfield 9, 3) := by decide +kernel
theorem dX1_sharesRuling_11 : decode cX1_sharesRuling 11 = .ok (.ifCond .ne 45, 3) := by decide +kernel
theorem dX1_sharesRuling_14 : decode cX1_sharesRuling 14 = .ok (.aload_n 0, 1) := by decide +kernel
theorem dX1_sharesRuling_15 : decode cX1_sharesRuling 15 = .ok (.getfield 50, 3) := by decide +kernel
theorem dX1_sharesRuling_18 : decode cX1_sharesRuling 18 = .ok (.aload_n 1, 1) := by decide +kernel
theorem dX1_sharesRuling_19 : decode cX1_sharesRuling 19 = .ok (.getfield 50, 3) := by decide +kernel
theorem dX1_sharesRuling_22 : decode cX1_sharesRuling 22 = .ok (.if_icmp .ne 34, 3) := by decide +kernel
theorem dX1_sharesRuling_25 : decode cX1_sharesRuling 25 = .ok (.aload_n 0, 1) := by decide +kernel
theorem dX1_sharesRuling_26 : decode cX1_sharesRuling 26 = .ok (.getfield 19, 3) := by decide +kernel
theorem dX1_sharesRuling_29 : decode cX1_sharesRuling 29 = .ok (.iconst (-1), 1) := by decide +kernel
theorem dX1_sharesRuling_30 : decode cX1_sharesRuling 30 = .ok (.if_icmp .eq 26, 3) := by decide +kernel
theorem dX1_sharesRuling_33 : decode cX1_sharesRuling 33 = .ok (.aload_n 1, 1) := by decide +kernel
theorem dX1_sharesRuling_34 : decode cX1_sharesRuling 34 = .ok (.getfield 19, 3) := by decide +kernel
theorem dX1_sharesRuling_37 : decode cX1_sharesRuling 37 = .ok (.iconst (-1), 1) := by decide +kernel
theorem dX1_sharesRuling_38 : decode cX1_sharesRuling 38 = .ok (.if_icmp .eq 18, 3) := by decide +kernel
theorem dX1_sharesRuling_41 : decode cX1_sharesRuling 41 = .ok (.aload_n 0, 1) := by decide +kernel
theorem dX1_sharesRuling_42 : decode cX1_sharesRuling 42 = .ok (.getfield 22, 3) := by decide +kernel
theorem dX1_sharesRuling_45 : decode cX1_sharesRuling 45 = .ok (.aload_n 1, 1) := by decide +kernel
theorem dX1_sharesRuling_46 : decode cX1_sharesRuling 46 = .ok (.getfield 22, 3) := by decide +kernel
theorem dX1_sharesRuling_49 : decode cX1_sharesRuling 49 = .ok (.if_icmp .ne 7, 3) := by decide +kernel
theorem dX1_sharesRuling_52 : decode cX1_sharesRuling 52 = .ok (.iconst 1, 1) := by decide +kernel
theorem dX1_sharesRuling_53 : decode cX1_sharesRuling 53 = .ok (.goto 4, 3) := by decide +kernel
theorem dX1_sharesRuling_56 : decode cX1_sharesRuling 56 = .ok (.iconst 0, 1) := by decide +kernel
theorem dX1_sharesRuling_57 : decode cX1_sharesRuling 57 = .ok (.ireturn, 1) := by decide +kernel
theorem dX1_follow_0 : decode cX1_follow 0 = .ok (.iload_n 1, 1) := by decide +kernel
theorem dX1_follow_1 : decode cX1_follow 1 = .ok (.ifCond .ne 23, 3) := by decide +kernel
theorem dX1_follow_4 : decode cX1_follow 4 = .ok (.aload_n 0, 1) := by decide +kernel
theorem dX1_follow_5 : decode cX1_follow 5 = .ok (.iload_n 2, 1) := by decide +kernel
theorem dX1_follow_6 : decode cX1_follow 6 = .ok (.putfield 53, 3) := by decide +kernel
theorem dX1_follow_9 : decode cX1_follow 9 = .ok (.aload_n 0, 1) := by decide +kernel
theorem dX1_follow_10 : decode cX1_follow 10 = .ok (.getfield 19, 3) := by decide +kernel
theorem dX1_follow_13 : decode cX1_follow 13 = .ok (.iload_n 2, 1) := by decide +kernel
theorem dX1_follow_14 : decode cX1_follow 14 = .ok (.if_icmp .ge 33, 3) := by decide +kernel
theorem dX1_follow_17 : decode cX1_follow 17 = .ok (.aload_n 0, 1) := by decide +kernel
theorem dX1_follow_18 : decode cX1_follow 18 = .ok (.invokevirtual 90, 3) := by decide +kernel
theorem dX1_follow_21 : decode cX1_follow 21 = .ok (.goto 26, 3) := by decide +kernel
theorem dX1_follow_24 : decode cX1_follow 24 = .ok (.iload_n 1, 1) := by decide +kernel
theorem dX1_follow_25 : decode cX1_follow 25 = .ok (.iconst 1, 1) := by decide +kernel
theorem dX1_follow_26 : decode cX1_follow 26 = .ok (.if_icmp .ne 11, 3) := by decide +kernel
theorem dX1_follow_29 : decode cX1_follow 29 = .ok (.aload_n 0, 1) := by decide +kernel
theorem dX1_follow_30 : decode cX1_follow 30 = .ok (.iconst 2, 1) := by decide +kernel
theorem dX1_follow_31 : decode cX1_follow 31 = .ok (.putfield 9, 3) := by decide +kernel
theorem dX1_follow_34 : decode cX1_follow 34 = .ok (.goto 13, 3) := by decide +kernel
theorem dX1_follow_37 : decode cX1_follow 37 = .ok (.aload_n 0, 1) := by decide +kernel
theorem dX1_follow_38 : decode cX1_follow 38 = .ok (.iconst 1, 1) := by decide +kernel
theorem dX1_follow_39 : decode cX1_follow 39 = .ok (.putfield 9, 3) := by decide +kernel
theorem dX1_follow_42 : decode cX1_follow 42 = .ok (.aload_n 0, 1) := by decide +kernel
theorem dX1_follow_43 : decode cX1_follow 43 = .ok (.iload_n 2, 1) := by decide +kernel
theorem dX1_follow_44 : decode cX1_follow 44 = .ok (.putfield 25, 3) := by decide +kernel
theorem dX1_follow_47 : decode cX1_follow 47 = .ok (.return_, 1) := by decide +kernel
theorem dX2_init_0 : decode cX2_init 0 = .ok (.aload_n 0, 1) := by decide +kernel
theorem dX2_init_1 : decode cX2_init 1 = .ok (.invokespecial 3, 3) := by decide +kernel
theorem dX2_init_4 : decode cX2_init 4 = .ok (.aload_n 0, 1) := by decide +kernel
theorem dX2_init_5 : decode cX2_init 5 = .ok (.bipush 24, 2) := by decide +kernel
theorem dX2_init_7 : decode cX2_init 7 = .ok (.newarray .int, 2) := by decide +kernel
theorem dX2_init_9 : decode cX2_init 9 = .ok (.putfield 9, 3) := by decide +kernel
theorem dX2_init_12 : decode cX2_init 12 = .ok (.aload_n 0, 1) := by decide +kernel
theorem dX2_init_13 : decode cX2_init 13 = .ok (.bipush 24, 2) := by decide +kernel
theorem dX2_init_15 : decode cX2_init 15 = .ok (.newarray .int, 2) := by decide +kernel
theorem dX2_init_17 : decode cX2_init 17 = .ok (.putfield 15, 3) := by decide +kernel
theorem dX2_init_20 : decode cX2_init 20 = .ok (.aload_n 0, 1) := by decide +kernel
theorem dX2_init_21 : decode cX2_init 21 = .ok (.bipush 24, 2) := by decide +kernel
theorem dX2_init_23 : decode cX2_init 23 = .ok (.newarray .int, 2) := by decide +kernel
theorem dX2_init_25 : decode cX2_init 25 = .ok (.putfield 18, 3) := by decide +kernel
theorem dX2_init_28 : decode cX2_init 28 = .ok (.aload_n 0, 1) := by decide +kernel
theorem dX2_init_29 : decode cX2_init 29 = .ok (.bipush 24, 2) := by decide +kernel
theorem dX2_init_31 : decode cX2_init 31 = .ok (.newarray .int, 2) := by decide +kernel
theorem dX2_init_33 : decode cX2_init 33 = .ok (.putfield 21, 3) := by decide +kernel
theorem dX2_init_36 : decode cX2_init 36 = .ok (.aload_n 0, 1) := by decide +kernel
theorem dX2_init_37 : decode cX2_init 37 = .ok (.iconst 0, 1) := by decide +kernel
theorem dX2_init_38 : decode cX2_init 38 = .ok (.putfield 24, 3) := by decide +kernel
theorem dX2_init_41 : decode cX2_init 41 = .ok (.return_, 1) := by decide +kernel
theorem dX2_clear_0 : decode cX2_clear 0 = .ok (.aload_n 0, 1) := by decide +kernel
theorem dX2_clear_1 : decode cX2_clear 1 = .ok (.iconst 0, 1) := by decide +kernel
theorem dX2_clear_2 : decode cX2_clear 2 = .ok (.putfield 24, 3) := by decide +kernel
theorem dX2_clear_5 : decode cX2_clear 5 = .ok (.return_, 1) := by decide +kernel
theorem dX2_add_0 : decode cX2_add 0 = .ok (.aload_n 0, 1) := by decide +kernel
theorem dX2_add_1 : decode cX2_add 1 = .ok (.getfield 24, 3) := by decide +kernel
theorem dX2_add_4 : decode cX2_add 4 = .ok (.bipush 24, 2) := by decide +kernel
theorem dX2_add_6 : decode cX2_add 6 = .ok (.if_icmp .lt 4, 3) := by decide +kernel
theorem dX2_add_9 : decode cX2_add 9 = .ok (.return_, 1) := by decide +kernel
theorem dX2_add_10 : decode cX2_add 10 = .ok (.aload_n 0, 1) := by decide +kernel
theorem dX2_add_11 : decode cX2_add 11 = .ok (.getfield 24, 3) := by decide +kernel
theorem dX2_add_14 : decode cX2_add 14 = .ok (.istore_n 3, 1) := by decide +kernel
theorem dX2_add_15 : decode cX2_add 15 = .ok (.iload_n 3, 1) := by decide +kernel
theorem dX2_add_16 : decode cX2_add 16 = .ok (.ifCond .le 49, 3) := by decide +kernel
theorem dX2_add_19 : decode cX2_add 19 = .ok (.aload_n 0, 1) := by decide +kernel
theorem dX2_add_20 : decode cX2_add 20 = .ok (.getfield 15, 3) := by decide +kernel
theorem dX2_add_23 : decode cX2_add 23 = .ok (.iload_n 3, 1) := by decide +kernel
theorem dX2_add_24 : decode cX2_add 24 = .ok (.iconst 1, 1) := by decide +kernel
theorem dX2_add_25 : decode cX2_add 25 = .ok (.isub, 1) := by decide +kernel
theorem dX2_add_26 : decode cX2_add 26 = .ok (.iaload, 1) := by decide +kernel
theorem dX2_add_27 : decode cX2_add 27 = .ok (.iload_n 2, 1) := by decide +kernel
theorem dX2_add_28 : decode cX2_add 28 = .ok (.if_icmp .le 37, 3) := by decide +kernel
theorem dX2_add_31 : decode cX2_add 31 = .ok (.aload_n 0, 1) := by decide +kernel
theorem dX2_add_32 : decode cX2_add 32 = .ok (.getfield 9, 3) := by decide +kernel
theorem dX2_add_35 : decode cX2_add 35 = .ok (.iload_n 3, 1) := by decide +kernel
theorem dX2_add_36 : decode cX2_add 36 = .ok (.aload_n 0, 1) := by decide +kernel
theorem dX2_add_37 : decode cX2_add 37 = .ok (.getfield 9, 3) := by decide +kernel
theorem dX2_add_40 : decode cX2_add 40 = .ok (.iload_n 3, 1) := by decide +kernel
theorem dX2_add_41 : decode cX2_add 41 = .ok (.iconst 1, 1) := by decide +kernel
theorem dX2_add_42 : decode cX2_add 42 = .ok (.isub, 1) := by decide +kernel
theorem dX2_add_43 : decode cX2_add 43 = .ok (.iaload, 1) := by decide +kernel
theorem dX2_add_44 : decode cX2_add 44 = .ok (.iastore, 1) := by decide +kernel
theorem dX2_add_45 : decode cX2_add 45 = .ok (.aload_n 0, 1) := by decide +kernel
theorem dX2_add_46 : decode cX2_add 46 = .ok (.getfield 15, 3) := by decide +kernel
theorem dX2_add_49 : decode cX2_add 49 = .ok (.iload_n 3, 1) := by decide +kernel
theorem dX2_add_50 : decode cX2_add 50 = .ok (.aload_n 0, 1) := by decide +kernel
theorem dX2_add_51 : decode cX2_add 51 = .ok (.getfield 15, 3) := by decide +kernel
theorem dX2_add_54 : decode cX2_add 54 = .ok (.iload_n 3, 1) := by decide +kernel
theorem dX2_add_55 : decode cX2_add 55 = .ok (.iconst 1, 1) := by decide +kernel
theorem dX2_add_56 : decode cX2_add 56 = .ok (.isub, 1) := by decide +kernel
theorem dX2_add_57 : decode cX2_add 57 = .ok (.iaload, 1) := by decide +kernel
theorem dX2_add_58 : decode cX2_add 58 = .ok (.iastore, 1) := by decide +kernel
theorem dX2_add_59 : decode cX2_add 59 = .ok (.iinc 3 (-1), 3) := by decide +kernel
theorem dX2_add_62 : decode cX2_add 62 = .ok (.goto (-47), 3) := by decide +kernel
theorem dX2_add_65 : decode cX2_add 65 = .ok (.aload_n 0, 1) := by decide +kernel
theorem dX2_add_66 : decode cX2_add 66 = .ok (.getfield 9, 3) := by decide +kernel
theorem dX2_add_69 : decode cX2_add 69 = .ok (.iload_n 3, 1) := by decide +kernel
theorem dX2_add_70 : decode cX2_add 70 = .ok (.iload_n 1, 1) := by decide +kernel
theorem dX2_add_71 : decode cX2_add 71 = .ok (.iastore, 1) := by decide +kernel
theorem dX2_add_72 : decode cX2_add 72 = .ok (.aload_n 0, 1) := by decide +kernel
theorem dX2_add_73 : decode cX2_add 73 = .ok (.getfield 15, 3) := by decide +kernel
theorem dX2_add_76 : decode cX2_add 76 = .ok (.iload_n 3, 1) := by decide +kernel
theorem dX2_add_77 : decode cX2_add 77 = .ok (.iload_n 2, 1) := by decide +kernel
theorem dX2_add_78 : decode cX2_add 78 = .ok (.iastore, 1) := by decide +kernel
theorem dX2_add_79 : decode cX2_add 79 = .ok (.aload_n 0, 1) := by decide +kernel
theorem dX2_add_80 : decode cX2_add 80 = .ok (.getfield 18, 3) := by decide +kernel
theorem dX2_add_83 : decode cX2_add 83 = .ok (.aload_n 0, 1) := by decide +kernel
theorem dX2_add_84 : decode cX2_add 84 = .ok (.getfield 24, 3) := by decide +kernel
theorem dX2_add_87 : decode cX2_add 87 = .ok (.iconst (-1), 1) := by decide +kernel
theorem dX2_add_88 : decode cX2_add 88 = .ok (.iastore, 1) := by decide +kernel
theorem dX2_add_89 : decode cX2_add 89 = .ok (.aload_n 0, 1) := by decide +kernel
theorem dX2_add_90 : decode cX2_add 90 = .ok (.getfield 21, 3) := by decide +kernel
theorem dX2_add_93 : decode cX2_add 93 = .ok (.aload_n 0, 1) := by decide +kernel
theorem dX2_add_94 : decode cX2_add 94 = .ok (.getfield 24, 3) := by decide +kernel
theorem dX2_add_97 : decode cX2_add 97 = .ok (.iconst (-1), 1) := by decide +kernel
theorem dX2_add_98 : decode cX2_add 98 = .ok (.iastore, 1) := by decide +kernel
theorem dX2_add_99 : decode cX2_add 99 = .ok (.aload_n 0, 1) := by decide +kernel
theorem dX2_add_100 : decode cX2_add 100 = .ok (.dup, 1) := by decide +kernel
theorem dX2_add_101 : decode cX2_add 101 = .ok (.getfield 24, 3) := by decide +kernel
theorem dX2_add_104 : decode cX2_add 104 = .ok (.iconst 1, 1) := by decide +kernel
theorem dX2_add_105 : decode cX2_add 105 = .ok (.iadd, 1) := by decide +kernel
theorem dX2_add_106 : decode cX2_add 106 = .ok (.putfield 24, 3) := by decide +kernel
theorem dX2_add_109 : decode cX2_add 109 = .ok (.return_, 1) := by decide +kernel
theorem dX2_has_0 : decode cX2_has 0 = .ok (.iload_n 1, 1) := by decide +kernel
theorem dX2_has_1 : decode cX2_has 1 = .ok (.ifCond .lt 21, 3) := by decide +kernel
theorem dX2_has_4 : decode cX2_has 4 = .ok (.iload_n 1, 1) := by decide +kernel
theorem dX2_has_5 : decode cX2_has 5 = .ok (.aload_n 0, 1) := by decide +kernel
theorem dX2_has_6 : decode cX2_has 6 = .ok (.getfield 24, 3) := by decide +kernel
theorem dX2_has_9 : decode cX2_has 9 = .ok (.if_icmp .ge 13, 3) := by decide +kernel
theorem dX2_has_12 : decode cX2_has 12 = .ok (.iload_n 1, 1) := by decide +kernel
theorem dX2_has_13 : decode cX2_has 13 = .ok (.bipush 24, 2) := by decide +kernel
theorem dX2_has_15 : decode cX2_has 15 = .ok (.if_icmp .ge 7, 3) := by decide +kernel
theorem dX2_has_18 : decode cX2_has 18 = .ok (.iconst 1, 1) := by decide +kernel
theorem dX2_has_19 : decode cX2_has 19 = .ok (.goto 4, 3) := by decide +kernel
theorem dX2_has_22 : decode cX2_has 22 = .ok (.iconst 0, 1) := by decide +kernel
theorem dX2_has_23 : decode cX2_has 23 = .ok (.ireturn, 1) := by decide +kernel
theorem dX2_timeAt_0 : decode cX2_timeAt 0 = .ok (.aload_n 0, 1) := by decide +kernel
theorem dX2_timeAt_1 : decode cX2_timeAt 1 = .ok (.iload_n 1, 1) := by decide +kernel
theorem dX2_timeAt_2 : decode cX2_timeAt 2 = .ok (.invokevirtual 28, 3) := by decide +kernel
theorem dX2_timeAt_5 : decode cX2_timeAt 5 = .ok (.ifCond .eq 12, 3) := by decide +kernel
theorem dX2_timeAt_8 : decode cX2_timeAt 8 = .ok (.aload_n 0, 1) := by decide +kernel
theorem dX2_timeAt_9 : decode cX2_timeAt 9 = .ok (.getfield 15, 3) := by decide +kernel
theorem dX2_timeAt_12 : decode cX2_timeAt 12 = .ok (.iload_n 1, 1) := by decide +kernel
theorem dX2_timeAt_13 : decode cX2_timeAt 13 = .ok (.iaload, 1) := by decide +kernel
theorem dX2_timeAt_14 : decode cX2_timeAt 14 = .ok (.goto 4, 3) := by decide +kernel
theorem dX2_timeAt_17 : decode cX2_timeAt 17 = .ok (.iconst (-1), 1) := by decide +kernel
theorem dX2_timeAt_18 : decode cX2_timeAt 18 = .ok (.ireturn, 1) := by decide +kernel
theorem dX2_give_0 : decode cX2_give 0 = .ok (.aload_n 0, 1) := by decide +kernel
theorem dX2_give_1 : decode cX2_give 1 = .ok (.iload_n 1, 1) := by decide +kernel
theorem dX2_give_2 : decode cX2_give 2 = .ok (.invokevirtual 28, 3) := by decide +kernel
theorem dX2_give_5 : decode cX2_give 5 = .ok (.ifCond .eq 17, 3) := by decide +kernel
theorem dX2_give_8 : decode cX2_give 8 = .ok (.aload_n 0, 1) := by decide +kernel
theorem dX2_give_9 : decode cX2_give 9 = .ok (.getfield 18, 3) := by decide +kernel
theorem dX2_give_12 : decode cX2_give 12 = .ok (.iload_n 1, 1) := by decide +kernel
theorem dX2_give_13 : decode cX2_give 13 = .ok (.iload_n 2, 1) := by decide +kernel
theorem dX2_give_14 : decode cX2_give 14 = .ok (.iastore, 1) := by decide +kernel
theorem dX2_give_15 : decode cX2_give 15 = .ok (.aload_n 0, 1) := by decide +kernel
theorem dX2_give_16 : decode cX2_give 16 = .ok (.getfield 21, 3) := by decide +kernel
theorem dX2_give_19 : decode cX2_give 19 = .ok (.iload_n 1, 1) := by decide +kernel
theorem dX2_give_20 : decode cX2_give 20 = .ok (.iload_n 3, 1) := by decide +kernel
theorem dX2_give_21 : decode cX2_give 21 = .ok (.iastore, 1) := by decide +kernel
theorem dX2_give_22 : decode cX2_give 22 = .ok (.return_, 1) := by decide +kernel
theorem dX2_hasGiven_0 : decode cX2_hasGiven 0 = .ok (.iconst 0, 1) := by decide +kernel
theorem dX2_hasGiven_1 : decode cX2_hasGiven 1 = .ok (.istore_n 2, 1) := by decide +kernel
theorem dX2_hasGiven_2 : decode cX2_hasGiven 2 = .ok (.iload_n 2, 1) := by decide +kernel
theorem dX2_hasGiven_3 : decode cX2_hasGiven 3 = .ok (.aload_n 0, 1) := by decide +kernel
theorem dX2_hasGiven_4 : decode cX2_hasGiven 4 = .ok (.getfield 24, 3) := by decide +kernel
theorem dX2_hasGiven_7 : decode cX2_hasGiven 7 = .ok (.if_icmp .ge 30, 3) := by decide +kernel
theorem dX2_hasGiven_10 : decode cX2_hasGiven 10 = .ok (.iload_n 2, 1) := by decide +kernel
theorem dX2_hasGiven_11 : decode cX2_hasGiven 11 = .ok (.aload_n 0, 1) := by decide +kernel
theorem dX2_hasGiven_12 : decode cX2_hasGiven 12 = .ok (.getfield 18, 3) := by decide +kernel
theorem dX2_hasGiven_15 : decode cX2_hasGiven 15 = .ok (.arraylength, 1) := by decide +kernel
theorem dX2_hasGiven_16 : decode cX2_hasGiven 16 = .ok (.if_icmp .ge 21, 3) := by decide +kernel
theorem dX2_hasGiven_19 : decode cX2_hasGiven 19 = .ok (.aload_n 0, 1) := by decide +kernel
theorem dX2_hasGiven_20 : decode cX2_hasGiven 20 = .ok (.getfield 18, 3) := by decide +kernel
theorem dX2_hasGiven_23 : decode cX2_hasGiven 23 = .ok (.iload_n 2, 1) := by decide +kernel
theorem dX2_hasGiven_24 : decode cX2_hasGiven 24 = .ok (.iaload, 1) := by decide +kernel
theorem dX2_hasGiven_25 : decode cX2_hasGiven 25 = .ok (.iload_n 1, 1) := by decide +kernel
theorem dX2_hasGiven_26 : decode cX2_hasGiven 26 = .ok (.if_icmp .ne 5, 3) := by decide +kernel
theorem dX2_hasGiven_29 : decode cX2_hasGiven 29 = .ok (.iconst 1, 1) := by decide +kernel
theorem dX2_hasGiven_30 : decode cX2_hasGiven 30 = .ok (.ireturn, 1) := by decide +kernel
theorem dX2_hasGiven_31 : decode cX2_hasGiven 31 = .ok (.iinc 2 1, 3) := by decide +kernel
theorem dX2_hasGiven_34 : decode cX2_hasGiven 34 = .ok (.goto (-32), 3) := by decide +kernel
theorem dX2_hasGiven_37 : decode cX2_hasGiven 37 = .ok (.iconst 0, 1) := by decide +kernel
theorem dX2_hasGiven_38 : decode cX2_hasGiven 38 = .ok (.ireturn, 1) := by decide +kernel
theorem dX2_placeOf_0 : decode cX2_placeOf 0 = .ok (.iconst 0, 1) := by decide +kernel
theorem dX2_placeOf_1 : decode cX2_placeOf 1 = .ok (.istore_n 2, 1) := by decide +kernel
theorem dX2_placeOf_2 : decode cX2_placeOf 2 = .ok (.iload_n 2, 1) := by decide +kernel
theorem dX2_placeOf_3 : decode cX2_placeOf 3 = .ok (.aload_n 0, 1) := by decide +kernel
theorem dX2_placeOf_4 : decode cX2_placeOf 4 = .ok (.getfield 24, 3) := by decide +kernel
theorem dX2_placeOf_7 : decode cX2_placeOf 7 = .ok (.if_icmp .ge 30, 3) := by decide +kernel
theorem dX2_placeOf_10 : decode cX2_placeOf 10 = .ok (.iload_n 2, 1) := by decide +kernel
theorem dX2_placeOf_11 : decode cX2_placeOf 11 = .ok (.aload_n 0, 1) := by decide +kernel
theorem dX2_placeOf_12 : decode cX2_placeOf 12 = .ok (.getfield 9, 3) := by decide +kernel
theorem dX2_placeOf_15 : decode cX2_placeOf 15 = .ok (.arraylength, 1) := by decide +kernel
theorem dX2_placeOf_16 : decode cX2_placeOf 16 = .ok (.if_icmp .ge 21, 3) := by decide +kernel
theorem dX2_placeOf_19 : decode cX2_placeOf 19 = .ok (.aload_n 0, 1) := by decide +kernel
theorem dX2_placeOf_20 : decode cX2_placeOf 20 = .ok (.getfield 9, 3) := by decide +kernel
theorem dX2_placeOf_23 : decode cX2_placeOf 23 = .ok (.iload_n 2, 1) := by decide +kernel
theorem dX2_placeOf_24 : decode cX2_placeOf 24 = .ok (.iaload, 1) := by decide +kernel
theorem dX2_placeOf_25 : decode cX2_placeOf 25 = .ok (.iload_n 1, 1) := by decide +kernel
theorem dX2_placeOf_26 : decode cX2_placeOf 26 = .ok (.if_icmp .ne 5, 3) := by decide +kernel
theorem dX2_placeOf_29 : decode cX2_placeOf 29 = .ok (.iload_n 2, 1) := by decide +kernel
theorem dX2_placeOf_30 : decode cX2_placeOf 30 = .ok (.ireturn, 1) := by decide +kernel
theorem dX2_placeOf_31 : decode cX2_placeOf 31 = .ok (.iinc 2 1, 3) := by decide +kernel
theorem dX2_placeOf_34 : decode cX2_placeOf 34 = .ok (.goto (-32), 3) := by decide +kernel
theorem dX2_placeOf_37 : decode cX2_placeOf 37 = .ok (.iconst (-1), 1) := by decide +kernel
theorem dX2_placeOf_38 : decode cX2_placeOf 38 = .ok (.ireturn, 1) := by decide +kernel
theorem dX2_penaltyOf_0 : decode cX2_penaltyOf 0 = .ok (.aload_n 0, 1) := by decide +kernel
theorem dX2_penaltyOf_1 : decode cX2_penaltyOf 1 = .ok (.iload_n 1, 1) := by decide +kernel
theorem dX2_penaltyOf_2 : decode cX2_penaltyOf 2 = .ok (.invokevirtual 32, 3) := by decide +kernel
theorem dX2_penaltyOf_5 : decode cX2_penaltyOf 5 = .ok (.istore_n 2, 1) := by decide +kernel
theorem dX2_penaltyOf_6 : decode cX2_penaltyOf 6 = .ok (.aload_n 0, 1) := by decide +kernel
theorem dX2_penaltyOf_7 : decode cX2_penaltyOf 7 = .ok (.iload_n 2, 1) := by decide +kernel
theorem dX2_penaltyOf_8 : decode cX2_penaltyOf 8 = .ok (.invokevirtual 28, 3) := by decide +kernel
theorem dX2_penaltyOf_11 : decode cX2_penaltyOf 11 = .ok (.ifCond .eq 19, 3) := by decide +kernel
theorem dX2_penaltyOf_14 : decode cX2_penaltyOf 14 = .ok (.aload_n 0, 1) := by decide +kernel
theorem dX2_penaltyOf_15 : decode cX2_penaltyOf 15 = .ok (.getfield 21, 3) := by decide +kernel
theorem dX2_penaltyOf_18 : decode cX2_penaltyOf 18 = .ok (.iload_n 2, 1) := by decide +kernel
theorem dX2_penaltyOf_19 : decode cX2_penaltyOf 19 = .ok (.iaload, 1) := by decide +kernel
theorem dX2_penaltyOf_20 : decode cX2_penaltyOf 20 = .ok (.aload_n 0, 1) := by decide +kernel
theorem dX2_penaltyOf_21 : decode cX2_penaltyOf 21 = .ok (.getfield 15, 3) := by decide +kernel
theorem dX2_penaltyOf_24 : decode cX2_penaltyOf 24 = .ok (.iload_n 2, 1) := by decide +kernel
theorem dX2_penaltyOf_25 : decode cX2_penaltyOf 25 = .ok (.iaload, 1) := by decide +kernel
theorem dX2_penaltyOf_26 : decode cX2_penaltyOf 26 = .ok (.isub, 1) := by decide +kernel
theorem dX2_penaltyOf_27 : decode cX2_penaltyOf 27 = .ok (.goto 4, 3) := by decide +kernel
theorem dX2_penaltyOf_30 : decode cX2_penaltyOf 30 = .ok (.iconst (-1), 1) := by decide +kernel
theorem dX2_penaltyOf_31 : decode cX2_penaltyOf 31 = .ok (.ireturn, 1) := by decide +kernel
theorem dX2_countAheadOf_0 : decode cX2_countAheadOf 0 = .ok (.iload_n 2, 1) := by decide +kernel
theorem dX2_countAheadOf_1 : decode cX2_countAheadOf 1 = .ok (.istore_n 3, 1) := by decide +kernel
theorem dX2_countAheadOf_2 : decode cX2_countAheadOf 2 = .ok (.iload_n 3, 1) := by decide +kernel
theorem dX2_countAheadOf_3 : decode cX2_countAheadOf 3 = .ok (.aload_n 0, 1) := by decide +kernel
theorem dX2_countAheadOf_4 : decode cX2_countAheadOf 4 = .ok (.getfield 24, 3) := by decide +kernel
theorem dX2_countAheadOf_7 : decode cX2_countAheadOf 7 = .ok (.if_icmp .ge 18, 3) := by decide +kernel
theorem dX2_countAheadOf_10 : decode cX2_countAheadOf 10 = .ok (.aload_n 0, 1) := by decide +kernel
theorem dX2_countAheadOf_11 : decode cX2_countAheadOf 11 = .ok (.iload_n 3, 1) := by decide +kernel
theorem dX2_countAheadOf_12 : decode cX2_countAheadOf 12 = .ok (.invokevirtual 36, 3) := by decide +kernel
theorem dX2_countAheadOf_15 : decode cX2_countAheadOf 15 = .ok (.iload_n 1, 1) := by decide +kernel
theorem dX2_countAheadOf_16 : decode cX2_countAheadOf 16 = .ok (.if_icmp .ge 9, 3) := by decide +kernel
theorem dX2_countAheadOf_19 : decode cX2_countAheadOf 19 = .ok (.iinc 3 1, 3) := by decide +kernel
theorem dX2_countAheadOf_22 : decode cX2_countAheadOf 22 = .ok (.goto (-20), 3) := by decide +kernel
theorem dX2_countAheadOf_25 : decode cX2_countAheadOf 25 = .ok (.iload_n 3, 1) := by decide +kernel
theorem dX2_countAheadOf_26 : decode cX2_countAheadOf 26 = .ok (.ireturn, 1) := by decide +kernel
theorem dX2_canTake_0 : decode cX2_canTake 0 = .ok (.aload_n 0, 1) := by decide +kernel
theorem dX2_canTake_1 : decode cX2_canTake 1 = .ok (.iload_n 1, 1) := by decide +kernel
theorem dX2_canTake_2 : decode cX2_canTake 2 = .ok (.invokevirtual 28, 3) := by decide +kernel
theorem dX2_canTake_5 : decode cX2_canTake 5 = .ok (.ifCond .eq 17, 3) := by decide +kernel
theorem dX2_canTake_8 : decode cX2_canTake 8 = .ok (.aload_n 0, 1) := by decide +kernel
theorem dX2_canTake_9 : decode cX2_canTake 9 = .ok (.getfield 15, 3) := by decide +kernel
theorem dX2_canTake_12 : decode cX2_canTake 12 = .ok (.iload_n 1, 1) := by decide +kernel
theorem dX2_canTake_13 : decode cX2_canTake 13 = .ok (.iaload, 1) := by decide +kernel
theorem dX2_canTake_14 : decode cX2_canTake 14 = .ok (.iload_n 2, 1) := by decide +kernel
theorem dX2_canTake_15 : decode cX2_canTake 15 = .ok (.if_icmp .ge 7, 3) := by decide +kernel
theorem dX2_canTake_18 : decode cX2_canTake 18 = .ok (.iconst 1, 1) := by decide +kernel
theorem dX2_canTake_19 : decode cX2_canTake 19 = .ok (.goto 4, 3) := by decide +kernel
theorem dX2_canTake_22 : decode cX2_canTake 22 = .ok (.iconst 0, 1) := by decide +kernel
theorem dX2_canTake_23 : decode cX2_canTake 23 = .ok (.ireturn, 1) := by decide +kernel
theorem dX3_init_0 : decode cX3_init 0 = .ok (.aload_n 0, 1) := by decide +kernel
theorem dX3_init_1 : decode cX3_init 1 = .ok (.invokespecial 3, 3) := by decide +kernel
theorem dX3_init_4 : decode cX3_init 4 = .ok (.aload_n 0, 1) := by decide +kernel
theorem dX3_init_5 : decode cX3_init 5 = .ok (.iconst 0, 1) := by decide +kernel
theorem dX3_init_6 : decode cX3_init 6 = .ok (.putfield 9, 3) := by decide +kernel
theorem dX3_init_9 : decode cX3_init 9 = .ok (.aload_n 0, 1) := by decide +kernel
theorem dX3_init_10 : decode cX3_init 10 = .ok (.iload_n 1, 1) := by decide +kernel
theorem dX3_init_11 : decode cX3_init 11 = .ok (.putfield 15, 3) := by decide +kernel
theorem dX3_init_14 : decode cX3_init 14 = .ok (.aload_n 0, 1) := by decide +kernel
theorem dX3_init_15 : decode cX3_init 15 = .ok (.iload_n 2, 1) := by decide +kernel
theorem dX3_init_16 : decode cX3_init 16 = .ok (.putfield 19, 3) := by decide +kernel
theorem dX3_init_19 : decode cX3_init 19 = .ok (.aload_n 0, 1) := by decide +kernel
theorem dX3_init_20 : decode cX3_init 20 = .ok (.iload_n 3, 1) := by decide +kernel
theorem dX3_init_21 : decode cX3_init 21 = .ok (.putfield 22, 3) := by decide +kernel
theorem dX3_init_24 : decode cX3_init 24 = .ok (.aload_n 0, 1) := by decide +kernel
theorem dX3_init_25 : decode cX3_init 25 = .ok (.iload 4, 2) := by decide +kernel
theorem dX3_init_27 : decode cX3_init 27 = .ok (.putfield 25, 3) := by decide +kernel
theorem dX3_init_30 : decode cX3_init 30 = .ok (.return_, 1) := by decide +kernel
theorem dX3_holdsAt_0 : decode cX3_holdsAt 0 = .ok (.iload_n 1, 1) := by decide +kernel
theorem dX3_holdsAt_1 : decode cX3_holdsAt 1 = .ok (.aload_n 0, 1) := by decide +kernel
theorem dX3_holdsAt_2 : decode cX3_holdsAt 2 = .ok (.getfield 19, 3) := by decide +kernel
theorem dX3_holdsAt_5 : decode cX3_holdsAt 5 = .ok (.if_icmp .lt 15, 3) := by decide +kernel
theorem dX3_holdsAt_8 : decode cX3_holdsAt 8 = .ok (.iload_n 1, 1) := by decide +kernel
theorem dX3_holdsAt_9 : decode cX3_holdsAt 9 = .ok (.aload_n 0, 1) := by decide +kernel
theorem dX3_holdsAt_10 : decode cX3_holdsAt 10 = .ok (.getfield 22, 3) := by decide +kernel
theorem dX3_holdsAt_13 : decode cX3_holdsAt 13 = .ok (.if_icmp .ge 7, 3) := by decide +kernel
theorem dX3_holdsAt_16 : decode cX3_holdsAt 16 = .ok (.iconst 1, 1) := by decide +kernel
theorem dX3_holdsAt_17 : decode cX3_holdsAt 17 = .ok (.goto 4, 3) := by decide +kernel
theorem dX3_holdsAt_20 : decode cX3_holdsAt 20 = .ok (.iconst 0, 1) := by decide +kernel
theorem dX3_holdsAt_21 : decode cX3_holdsAt 21 = .ok (.ireturn, 1) := by decide +kernel
theorem dX3_slotCount_0 : decode cX3_slotCount 0 = .ok (.aload_n 0, 1) := by decide +kernel
theorem dX3_slotCount_1 : decode cX3_slotCount 1 = .ok (.getfield 9, 3) := by decide +kernel
theorem dX3_slotCount_4 : decode cX3_slotCount 4 = .ok (.ifCond .eq 7, 3) := by decide +kernel
theorem dX3_slotCount_7 : decode cX3_slotCount 7 = .ok (.iconst 0, 1) := by decide +kernel
theorem dX3_slotCount_8 : decode cX3_slotCount 8 = .ok (.goto 25, 3) := by decide +kernel
theorem dX3_slotCount_11 : decode cX3_slotCount 11 = .ok (.aload_n 0, 1) := by decide +kernel
theorem dX3_slotCount_12 : decode cX3_slotCount 12 = .ok (.getfield 22, 3) := by decide +kernel
theorem dX3_slotCount_15 : decode cX3_slotCount 15 = .ok (.aload_n 0, 1) := by decide +kernel
theorem dX3_slotCount_16 : decode cX3_slotCount 16 = .ok (.getfield 19, 3) := by decide +kernel
theorem dX3_slotCount_19 : decode cX3_slotCount 19 = .ok (.isub, 1) := by decide +kernel
theorem dX3_slotCount_20 : decode cX3_slotCount 20 = .ok (.aload_n 0, 1) := by decide +kernel
theorem dX3_slotCount_21 : decode cX3_slotCount 21 = .ok (.getfield 25, 3) := by decide +kernel
theorem dX3_slotCount_24 : decode cX3_slotCount 24 = .ok (.imul, 1) := by decide +kernel
theorem dX3_slotCount_25 : decode cX3_slotCount 25 = .ok (.bipush 60, 2) := by decide +kernel
theorem dX3_slotCount_27 : decode cX3_slotCount 27 = .ok (.iadd, 1) := by decide +kernel
theorem dX3_slotCount_28 : decode cX3_slotCount 28 = .ok (.iconst 1, 1) := by decide +kernel
theorem dX3_slotCount_29 : decode cX3_slotCount 29 = .ok (.isub, 1) := by decide +kernel
theorem dX3_slotCount_30 : decode cX3_slotCount 30 = .ok (.bipush 60, 2) := by decide +kernel
theorem dX3_slotCount_32 : decode cX3_slotCount 32 = .ok (.idiv, 1) := by decide +kernel
theorem dX3_slotCount_33 : decode cX3_slotCount 33 = .ok (.ireturn, 1) := by decide +kernel
theorem dX3_slotBegin_0 : decode cX3_slotBegin 0 = .ok (.aload_n 0, 1) := by decide +kernel
theorem dX3_slotBegin_1 : decode cX3_slotBegin 1 = .ok (.getfield 25, 3) := by decide +kernel
theorem dX3_slotBegin_4 : decode cX3_slotBegin 4 = .ok (.ifCond .le 20, 3) := by decide +kernel
theorem dX3_slotBegin_7 : decode cX3_slotBegin 7 = .ok (.aload_n 0, 1) := by decide +kernel
theorem dX3_slotBegin_8 : decode cX3_slotBegin 8 = .ok (.getfield 19, 3) := by decide +kernel
theorem dX3_slotBegin_11 : decode cX3_slotBegin 11 = .ok (.bipush 60, 2) := by decide +kernel
theorem dX3_slotBegin_13 : decode cX3_slotBegin 13 = .ok (.iload_n 1, 1) := by decide +kernel
theorem dX3_slotBegin_14 : decode cX3_slotBegin 14 = .ok (.imul, 1) := by decide +kernel
theorem dX3_slotBegin_15 : decode cX3_slotBegin 15 = .ok (.aload_n 0, 1) := by decide +kernel
theorem dX3_slotBegin_16 : decode cX3_slotBegin 16 = .ok (.getfield 25, 3) := by decide +kernel
theorem dX3_slotBegin_19 : decode cX3_slotBegin 19 = .ok (.idiv, 1) := by decide +kernel
theorem dX3_slotBegin_20 : decode cX3_slotBegin 20 = .ok (.iadd, 1) := by decide +kernel
theorem dX3_slotBegin_21 : decode cX3_slotBegin 21 = .ok (.goto 7, 3) := by decide +kernel
theorem dX3_slotBegin_24 : decode cX3_slotBegin 24 = .ok (.aload_n 0, 1) := by decide +kernel
theorem dX3_slotBegin_25 : decode cX3_slotBegin 25 = .ok (.getfield 22, 3) := by decide +kernel
theorem dX3_slotBegin_28 : decode cX3_slotBegin 28 = .ok (.ireturn, 1) := by decide +kernel
theorem dX3_slotEnd_0 : decode cX3_slotEnd 0 = .ok (.aload_n 0, 1) := by decide +kernel
theorem dX3_slotEnd_1 : decode cX3_slotEnd 1 = .ok (.iload_n 1, 1) := by decide +kernel
theorem dX3_slotEnd_2 : decode cX3_slotEnd 2 = .ok (.iconst 1, 1) := by decide +kernel
theorem dX3_slotEnd_3 : decode cX3_slotEnd 3 = .ok (.iadd, 1) := by decide +kernel
theorem dX3_slotEnd_4 : decode cX3_slotEnd 4 = .ok (.invokevirtual 28, 3) := by decide +kernel
theorem dX3_slotEnd_7 : decode cX3_slotEnd 7 = .ok (.aload_n 0, 1) := by decide +kernel
theorem dX3_slotEnd_8 : decode cX3_slotEnd 8 = .ok (.getfield 22, 3) := by decide +kernel
theorem dX3_slotEnd_11 : decode cX3_slotEnd 11 = .ok (.invokestatic 32, 3) := by decide +kernel
theorem dX3_slotEnd_14 : decode cX3_slotEnd 14 = .ok (.ireturn, 1) := by decide +kernel
theorem dX4_init_0 : decode cX4_init 0 = .ok (.aload_n 0, 1) := by decide +kernel
theorem dX4_init_1 : decode cX4_init 1 = .ok (.invokespecial 1, 3) := by decide +kernel
theorem dX4_init_4 : decode cX4_init 4 = .ok (.aload_n 0, 1) := by decide +kernel
theorem dX4_init_5 : decode cX4_init 5 = .ok (.new 7, 3) := by decide +kernel
theorem dX4_init_8 : decode cX4_init 8 = .ok (.dup, 1) := by decide +kernel
theorem dX4_init_9 : decode cX4_init 9 = .ok (.invokespecial 9, 3) := by decide +kernel
theorem dX4_init_12 : decode cX4_init 12 = .ok (.putfield 10, 3) := by decide +kernel
theorem dX4_init_15 : decode cX4_init 15 = .ok (.aload_n 0, 1) := by decide +kernel
theorem dX4_init_16 : decode cX4_init 16 = .ok (.new 7, 3) := by decide +kernel
theorem dX4_init_19 : decode cX4_init 19 = .ok (.dup, 1) := by decide +kernel
theorem dX4_init_20 : decode cX4_init 20 = .ok (.invokespecial 9, 3) := by decide +kernel
theorem dX4_init_23 : decode cX4_init 23 = .ok (.putfield 16, 3) := by decide +kernel
theorem dX4_init_26 : decode cX4_init 26 = .ok (.aload_n 0, 1) := by decide +kernel
theorem dX4_init_27 : decode cX4_init 27 = .ok (.new 19, 3) := by decide +kernel
theorem dX4_init_30 : decode cX4_init 30 = .ok (.dup, 1) := by decide +kernel
theorem dX4_init_31 : decode cX4_init 31 = .ok (.invokespecial 21, 3) := by decide +kernel
theorem dX4_init_34 : decode cX4_init 34 = .ok (.putfield 22, 3) := by decide +kernel
theorem dX4_init_37 : decode cX4_init 37 = .ok (.aload_n 0, 1) := by decide +kernel
theorem dX4_init_38 : decode cX4_init 38 = .ok (.new 26, 3) := by decide +kernel
theorem dX4_init_41 : decode cX4_init 41 = .ok (.dup, 1) := by decide +kernel
theorem dX4_init_42 : decode cX4_init 42 = .ok (.invokespecial 28, 3) := by decide +kernel
theorem dX4_init_45 : decode cX4_init 45 = .ok (.putfield 29, 3) := by decide +kernel
theorem dX4_init_48 : decode cX4_init 48 = .ok (.return_, 1) := by decide +kernel
theorem dX4_flight_0 : decode cX4_flight 0 = .ok (.iload_n 1, 1) := by decide +kernel
theorem dX4_flight_1 : decode cX4_flight 1 = .ok (.invokestatic 33, 3) := by decide +kernel
theorem dX4_flight_4 : decode cX4_flight 4 = .ok (.iload_n 2, 1) := by decide +kernel
theorem dX4_flight_5 : decode cX4_flight 5 = .ok (.iconst 0, 1) := by decide +kernel
theorem dX4_flight_6 : decode cX4_flight 6 = .ok (.sipush 1439, 3) := by decide +kernel
theorem dX4_flight_9 : decode cX4_flight 9 = .ok (.invokestatic 37, 3) := by decide +kernel
theorem dX4_flight_12 : decode cX4_flight 12 = .ok (.aload_n 0, 1) := by decide +kernel
theorem dX4_flight_13 : decode cX4_flight 13 = .ok (.getfield 10, 3) := by decide +kernel
theorem dX4_flight_16 : decode cX4_flight 16 = .ok (.invokevirtual 41, 3) := by decide +kernel
theorem dX4_flight_19 : decode cX4_flight 19 = .ok (.bipush 24, 2) := by decide +kernel
theorem dX4_flight_21 : decode cX4_flight 21 = .ok (.if_icmp .lt 13, 3) := by decide +kernel
theorem dX4_flight_24 : decode cX4_flight 24 = .ok (.new 45, 3) := by decide +kernel
theorem dX4_flight_27 : decode cX4_flight 27 = .ok (.dup, 1) := by decide +kernel
theorem dX4_flight_28 : decode cX4_flight 28 = .ok (.ldc 47, 2) := by decide +kernel
theorem dX4_flight_30 : decode cX4_flight 30 = .ok (.invokespecial 49, 3) := by decide +kernel
theorem dX4_flight_33 : decode cX4_flight 33 = .ok (.athrow, 1) := by decide +kernel
theorem dX4_flight_34 : decode cX4_flight 34 = .ok (.aload_n 0, 1) := by decide +kernel
theorem dX4_flight_35 : decode cX4_flight 35 = .ok (.getfield 10, 3) := by decide +kernel
theorem dX4_flight_38 : decode cX4_flight 38 = .ok (.new 52, 3) := by decide +kernel
theorem dX4_flight_41 : decode cX4_flight 41 = .ok (.dup, 1) := by decide +kernel
theorem dX4_flight_42 : decode cX4_flight 42 = .ok (.iload_n 1, 1) := by decide +kernel
theorem dX4_flight_43 : decode cX4_flight 43 = .ok (.iload_n 2, 1) := by decide +kernel
theorem dX4_flight_44 : decode cX4_flight 44 = .ok (.invokespecial 54, 3) := by decide +kernel
theorem dX4_flight_47 : decode cX4_flight 47 = .ok (.invokevirtual 57, 3) := by decide +kernel
theorem dX4_flight_50 : decode cX4_flight 50 = .ok (.pop, 1) := by decide +kernel
theorem dX4_flight_51 : decode cX4_flight 51 = .ok (.aload_n 0, 1) := by decide +kernel
theorem dX4_flight_52 : decode cX4_flight 52 = .ok (.getfield 10, 3) := by decide +kernel
theorem dX4_flight_55 : decode cX4_flight 55 = .ok (.invokevirtual 41, 3) := by decide +kernel
theorem dX4_flight_58 : decode cX4_flight 58 = .ok (.iconst 1, 1) := by decide +kernel
theorem dX4_flight_59 : decode cX4_flight 59 = .ok (.isub, 1) := by decide +kernel
theorem dX4_flight_60 : decode cX4_flight 60 = .ok (.ireturn, 1) := by decide +kernel
theorem dX4_entry_0 : decode cX4_entry 0 = .ok (.aload_n 0, 1) := by decide +kernel
theorem dX4_entry_1 : decode cX4_entry 1 = .ok (.iload_n 1, 1) := by decide +kernel
theorem dX4_entry_2 : decode cX4_entry 2 = .ok (.invokevirtual 61, 3) := by decide +kernel
theorem dX4_entry_5 : decode cX4_entry 5 = .ok (.astore 5, 2) := by decide +kernel
theorem dX4_entry_7 : decode cX4_entry 7 = .ok (.iload_n 2, 1) := by decide +kernel
theorem dX4_entry_8 : decode cX4_entry 8 = .ok (.invokestatic 65, 3) := by decide +kernel
theorem dX4_entry_11 : decode cX4_entry 11 = .ok (.iload_n 3, 1) := by decide +kernel
theorem dX4_entry_12 : decode cX4_entry 12 = .ok (.iconst 0, 1) := by decide +kernel
theorem dX4_entry_13 : decode cX4_entry 13 = .ok (.sipush 600, 3) := by decide +kernel
theorem dX4_entry_16 : decode cX4_entry 16 = .ok (.invokestatic 37, 3) := by decide +kernel
theorem dX4_entry_19 : decode cX4_entry 19 = .ok (.iload 4, 2) := by decide +kernel
theorem dX4_entry_21 : decode cX4_entry 21 = .ok (.iconst 1, 1) := by decide +kernel
theorem dX4_entry_22 : decode cX4_entry 22 = .ok (.bipush 120, 2) := by decide +kernel
theorem dX4_entry_24 : decode cX4_entry 24 = .ok (.invokestatic 37, 3) := by decide +kernel
theorem dX4_entry_27 : decode cX4_entry 27 = .ok (.aload 5, 2) := by decide +kernel
theorem dX4_entry_29 : decode cX4_entry 29 = .ok (.iload_n 2, 1) := by decide +kernel
theorem dX4_entry_30 : decode cX4_entry 30 = .ok (.iload_n 3, 1) := by decide +kernel
theorem dX4_entry_31 : decode cX4_entry 31 = .ok (.invokevirtual 68, 3) := by decide +kernel
theorem dX4_entry_34 : decode cX4_entry 34 = .ok (.ifCond .ne 13, 3) := by decide +kernel
theorem dX4_entry_37 : decode cX4_entry 37 = .ok (.new 45, 3) := by decide +kernel
theorem dX4_entry_40 : decode cX4_entry 40 = .ok (.dup, 1) := by decide +kernel
theorem dX4_entry_41 : decode cX4_entry 41 = .ok (.ldc 72, 2) := by decide +kernel
theorem dX4_entry_43 : decode cX4_entry 43 = .ok (.invokespecial 49, 3) := by decide +kernel
theorem dX4_entry_46 : decode cX4_entry 46 = .ok (.athrow, 1) := by decide +kernel
theorem dX4_entry_47 : decode cX4_entry 47 = .ok (.aload 5, 2) := by decide +kernel
theorem dX4_entry_49 : decode cX4_entry 49 = .ok (.iload_n 2, 1) := by decide +kernel
theorem dX4_entry_50 : decode cX4_entry 50 = .ok (.iload_n 3, 1) := by decide +kernel
theorem dX4_entry_51 : decode cX4_entry 51 = .ok (.iload 4, 2) := by decide +kernel
theorem dX4_entry_53 : decode cX4_entry 53 = .ok (.invokevirtual 74, 3) := by decide +kernel
theorem dX4_entry_56 : decode cX4_entry 56 = .ok (.aload 5, 2) := by decide +kernel
theorem dX4_entry_58 : decode cX4_entry 58 = .ok (.getfield 77, 3) := by decide +kernel
theorem dX4_entry_61 : decode cX4_entry 61 = .ok (.ireturn, 1) := by decide +kernel
theorem dX4_exempt_0 : decode cX4_exempt 0 = .ok (.aload_n 0, 1) := by decide +kernel
theorem dX4_exempt_1 : decode cX4_exempt 1 = .ok (.iload_n 1, 1) := by decide +kernel
theorem dX4_exempt_2 : decode cX4_exempt 2 = .ok (.invokevirtual 61, 3) := by decide +kernel
theorem dX4_exempt_5 : decode cX4_exempt 5 = .ok (.astore_n 3, 1) := by decide +kernel
theorem dX4_exempt_6 : decode cX4_exempt 6 = .ok (.aload_n 3, 1) := by decide +kernel
theorem dX4_exempt_7 : decode cX4_exempt 7 = .ok (.getfield 81, 3) := by decide +kernel
theorem dX4_exempt_10 : decode cX4_exempt 10 = .ok (.ifCond .eq 13, 3) := by decide +kernel
theorem dX4_exempt_13 : decode cX4_exempt 13 = .ok (.new 45, 3) := by decide +kernel
theorem dX4_exempt_16 : decode cX4_exempt 16 = .ok (.dup, 1) := by decide +kernel
theorem dX4_exempt_17 : decode cX4_exempt 17 = .ok (.ldc 84, 2) := by decide +kernel
theorem dX4_exempt_19 : decode cX4_exempt 19 = .ok (.invokespecial 49, 3) := by decide +kernel
theorem dX4_exempt_22 : decode cX4_exempt 22 = .ok (.athrow, 1) := by decide +kernel
theorem dX4_exempt_23 : decode cX4_exempt 23 = .ok (.aload_n 3, 1) := by decide +kernel
theorem dX4_exempt_24 : decode cX4_exempt 24 = .ok (.getfield 86, 3) := by decide +kernel
theorem dX4_exempt_27 : decode cX4_exempt 27 = .ok (.istore 4, 2) := by decide +kernel
theorem dX4_exempt_29 : decode cX4_exempt 29 = .ok (.aload_n 3, 1) := by decide +kernel
theorem dX4_exempt_30 : decode cX4_exempt 30 = .ok (.iload_n 2, 1) := by decide +kernel
theorem dX4_exempt_31 : decode cX4_exempt 31 = .ok (.putfield 86, 3) := by decide +kernel
theorem dX4_exempt_34 : decode cX4_exempt 34 = .ok (.iload_n 2, 1) := by decide +kernel
theorem dX4_exempt_35 : decode cX4_exempt 35 = .ok (.ifCond .eq 7, 3) := by decide +kernel
theorem dX4_exempt_38 : decode cX4_exempt 38 = .ok (.aload_n 3, 1) := by decide +kernel
theorem dX4_exempt_39 : decode cX4_exempt 39 = .ok (.invokevirtual 90, 3) := by decide +kernel
theorem dX4_exempt_42 : decode cX4_exempt 42 = .ok (.iload 4, 2) := by decide +kernel
theorem dX4_exempt_44 : decode cX4_exempt 44 = .ok (.ireturn, 1) := by decide +kernel
theorem dX4_flightIs_0 : decode cX4_flightIs 0 = .ok (.aload_n 0, 1) := by decide +kernel
theorem dX4_flightIs_1 : decode cX4_flightIs 1 = .ok (.iload_n 1, 1) := by decide +kernel
theorem dX4_flightIs_2 : decode cX4_flightIs 2 = .ok (.invokevirtual 61, 3) := by decide +kernel
theorem dX4_flightIs_5 : decode cX4_flightIs 5 = .ok (.astore_n 3, 1) := by decide +kernel
theorem dX4_flightIs_6 : decode cX4_flightIs 6 = .ok (.iload_n 2, 1) := by decide +kernel
theorem dX4_flightIs_7 : decode cX4_flightIs 7 = .ok (.iconst 0, 1) := by decide +kernel
theorem dX4_flightIs_8 : decode cX4_flightIs 8 = .ok (.bipush 7, 2) := by decide +kernel
theorem dX4_flightIs_10 : decode cX4_flightIs 10 = .ok (.invokestatic 37, 3) := by decide +kernel
theorem dX4_flightIs_13 : decode cX4_flightIs 13 = .ok (.iload_n 2, 1) := by decide +kernel
theorem dX4_flightIs_14 : decode cX4_flightIs 14 = .ok (.tableswitch 77 0 6 #[42, 47, 52, 57, 62, 67, 72], 42) := by decide +kernel
theorem dX4_flightIs_56 : decode cX4_flightIs 56 = .ok (.aload_n 3, 1) := by decide +kernel
theorem dX4_flightIs_57 : decode cX4_flightIs 57 = .ok (.getfield 81, 3) := by decide +kernel
theorem dX4_flightIs_60 : decode cX4_flightIs 60 = .ok (.ireturn, 1) := by decide +kernel
theorem dX4_flightIs_61 : decode cX4_flightIs 61 = .ok (.aload_n 3, 1) := by decide +kernel
theorem dX4_flightIs_62 : decode cX4_flightIs 62 = .ok (.getfield 93, 3) := by decide +kernel
theorem dX4_flightIs_65 : decode cX4_flightIs 65 = .ok (.ireturn, 1) := by decide +kernel
theorem dX4_flightIs_66 : decode cX4_flightIs 66 = .ok (.aload_n 3, 1) := by decide +kernel
theorem dX4_flightIs_67 : decode cX4_flightIs 67 = .ok (.getfield 96, 3) := by decide +kernel
theorem dX4_flightIs_70 : decode cX4_flightIs 70 = .ok (.ireturn, 1) := by decide +kernel
theorem dX4_flightIs_71 : decode cX4_flightIs 71 = .ok (.aload_n 3, 1) := by decide +kernel
theorem dX4_flightIs_72 : decode cX4_flightIs 72 = .ok (.getfield 99, 3) := by decide +kernel
theorem dX4_flightIs_75 : decode cX4_flightIs 75 = .ok (.ireturn, 1) := by decide +kernel
theorem dX4_flightIs_76 : decode cX4_flightIs 76 = .ok (.aload_n 3, 1) := by decide +kernel
theorem dX4_flightIs_77 : decode cX4_flightIs 77 = .ok (.invokevirtual 102, 3) := by decide +kernel
theorem dX4_flightIs_80 : decode cX4_flightIs 80 = .ok (.ireturn, 1) := by decide +kernel
theorem dX4_flightIs_81 : decode cX4_flightIs 81 = .ok (.aload_n 3, 1) := by decide +kernel
theorem dX4_flightIs_82 : decode cX4_flightIs 82 = .ok (.getfield 77, 3) := by decide +kernel
theorem dX4_flightIs_85 : decode cX4_flightIs 85 = .ok (.ireturn, 1) := by decide +kernel
theorem dX4_flightIs_86 : decode cX4_flightIs 86 = .ok (.aload_n 3, 1) := by decide +kernel
theorem dX4_flightIs_87 : decode cX4_flightIs 87 = .ok (.getfield 105, 3) := by decide +kernel
theorem dX4_flightIs_90 : decode cX4_flightIs 90 = .ok (.ireturn, 1) := by decide +kernel
theorem dX4_flightIs_91 : decode cX4_flightIs 91 = .ok (.aload_n 3, 1) := by decide +kernel
theorem dX4_flightIs_92 : decode cX4_flightIs 92 = .ok (.getfield 86, 3) := by decide +kernel
theorem dX4_flightIs_95 : decode cX4_flightIs 95 = .ok (.ifCond .eq 7, 3) := by decide +kernel
theorem dX4_flightIs_98 : decode cX4_flightIs 98 = .ok (.iconst 1, 1) := by decide +kernel
theorem dX4_flightIs_99 : decode cX4_flightIs 99 = .ok (.goto 4, 3) := by decide +kernel
theorem dX4_flightIs_102 : decode cX4_flightIs 102 = .ok (.iconst 0, 1) := by decide +kernel
theorem dX4_flightIs_103 : decode cX4_flightIs 103 = .ok (.ireturn, 1) := by decide +kernel
theorem dX4_over_0 : decode cX4_over 0 = .ok (.aload_n 0, 1) := by decide +kernel
theorem dX4_over_1 : decode cX4_over 1 = .ok (.iload_n 1, 1) := by decide +kernel
theorem dX4_over_2 : decode cX4_over 2 = .ok (.invokevirtual 61, 3) := by decide +kernel
theorem dX4_over_5 : decode cX4_over 5 = .ok (.astore_n 3, 1) := by decide +kernel
theorem dX4_over_6 : decode cX4_over 6 = .ok (.iload_n 2, 1) := by decide +kernel
theorem dX4_over_7 : decode cX4_over 7 = .ok (.invokestatic 65, 3) := by decide +kernel
theorem dX4_over_10 : decode cX4_over 10 = .ok (.aload_n 3, 1) := by decide +kernel
theorem dX4_over_11 : decode cX4_over 11 = .ok (.iload_n 2, 1) := by decide +kernel
theorem dX4_over_12 : decode cX4_over 12 = .ok (.invokevirtual 108, 3) := by decide +kernel
theorem dX4_over_15 : decode cX4_over 15 = .ok (.ireturn, 1) := by decide +kernel
theorem dX4_load_0 : decode cX4_load 0 = .ok (.iload_n 1, 1) := by decide +kernel
theorem dX4_load_1 : decode cX4_load 1 = .ok (.invokestatic 65, 3) := by decide +kernel
theorem dX4_load_4 : decode cX4_load 4 = .ok (.iload_n 2, 1) := by decide +kernel
theorem dX4_load_5 : decode cX4_load 5 = .ok (.iconst 0, 1) := by decide +kernel
theorem dX4_load_6 : decode cX4_load 6 = .ok (.sipush 2999, 3) := by decide +kernel
theorem dX4_load_9 : decode cX4_load 9 = .ok (.invokestatic 37, 3) := by decide +kernel
theorem dX4_load_12 : decode cX4_load 12 = .ok (.iload_n 3, 1) := by decide +kernel
theorem dX4_load_13 : decode cX4_load 13 = .ok (.iconst 1, 1) := by decide +kernel
theorem dX4_load_14 : decode cX4_load 14 = .ok (.sipush 240, 3) := by decide +kernel
theorem dX4_load_17 : decode cX4_load 17 = .ok (.invokestatic 37, 3) := by decide +kernel
theorem dX4_load_20 : decode cX4_load 20 = .ok (.aload_n 0, 1) := by decide +kernel
theorem dX4_load_21 : decode cX4_load 21 = .ok (.iload_n 1, 1) := by decide +kernel
theorem dX4_load_22 : decode cX4_load 22 = .ok (.iload_n 2, 1) := by decide +kernel
theorem dX4_load_23 : decode cX4_load 23 = .ok (.iload_n 3, 1) := by decide +kernel
theorem dX4_load_24 : decode cX4_load 24 = .ok (.invokevirtual 112, 3) := by decide +kernel
theorem dX4_load_27 : decode cX4_load 27 = .ok (.ireturn, 1) := by decide +kernel
theorem dX4_inside_0 : decode cX4_inside 0 = .ok (.iload_n 1, 1) := by decide +kernel
theorem dX4_inside_1 : decode cX4_inside 1 = .ok (.invokestatic 65, 3) := by decide +kernel
theorem dX4_inside_4 : decode cX4_inside 4 = .ok (.iload_n 2, 1) := by decide +kernel
theorem dX4_inside_5 : decode cX4_inside 5 = .ok (.iconst 0, 1) := by decide +kernel
theorem dX4_inside_6 : decode cX4_inside 6 = .ok (.sipush 2999, 3) := by decide +kernel
theorem dX4_inside_9 : decode cX4_inside 9 = .ok (.invokestatic 37, 3) := by decide +kernel
theorem dX4_inside_12 : decode cX4_inside 12 = .ok (.iconst 0, 1) := by decide +kernel
theorem dX4_inside_13 : decode cX4_inside 13 = .ok (.istore_n 3, 1) := by decide +kernel
theorem dX4_inside_14 : decode cX4_inside 14 = .ok (.iconst 0, 1) := by decide +kernel
theorem dX4_inside_15 : decode cX4_inside 15 = .ok (.istore 4, 2) := by decide +kernel
theorem dX4_inside_17 : decode cX4_inside 17 = .ok (.iload 4, 2) := by decide +kernel
theorem dX4_inside_19 : decode cX4_inside 19 = .ok (.aload_n 0, 1) := by decide +kernel
theorem dX4_inside_20 : decode cX4_inside 20 = .ok (.getfield 10, 3) := by decide +kernel
theorem dX4_inside_23 : decode cX4_inside 23 = .ok (.invokevirtual 41, 3) := by decide +kernel
theorem dX4_inside_26 : decode cX4_inside 26 = .ok (.if_icmp .ge 32, 3) := by decide +kernel
theorem dX4_inside_29 : decode cX4_inside 29 = .ok (.aload_n 0, 1) := by decide +kernel
theorem dX4_inside_30 : decode cX4_inside 30 = .ok (.getfield 10, 3) := by decide +kernel
theorem dX4_inside_33 : decode cX4_inside 33 = .ok (.iload 4, 2) := by decide +kernel
theorem dX4_inside_35 : decode cX4_inside 35 = .ok (.invokevirtual 116, 3) := by decide +kernel
theorem dX4_inside_38 : decode cX4_inside 38 = .ok (.checkcast 52, 3) := by decide +kernel
theorem dX4_inside_41 : decode cX4_inside 41 = .ok (.iload_n 1, 1) := by decide +kernel
theorem dX4_inside_42 : decode cX4_inside 42 = .ok (.iload_n 2, 1) := by decide +kernel
theorem dX4_inside_43 : decode cX4_inside 43 = .ok (.invokevirtual 120, 3) := by decide +kernel
theorem dX4_inside_46 : decode cX4_inside 46 = .ok (.ifCond .eq 6, 3) := by decide +kernel
theorem dX4_inside_49 : decode cX4_inside 49 = .ok (.iinc 3 1, 3) := by decide +kernel
theorem dX4_inside_52 : decode cX4_inside 52 = .ok (.iinc 4 1, 3) := by decide +kernel
theorem dX4_inside_55 : decode cX4_inside 55 = .ok (.goto (-38), 3) := by decide +kernel
theorem dX4_inside_58 : decode cX4_inside 58 = .ok (.iload_n 3, 1) := by decide +kernel
theorem dX4_inside_59 : decode cX4_inside 59 = .ok (.ireturn, 1) := by decide +kernel
theorem dX4_peak_0 : decode cX4_peak 0 = .ok (.iload_n 1, 1) := by decide +kernel
theorem dX4_peak_1 : decode cX4_peak 1 = .ok (.invokestatic 65, 3) := by decide +kernel
theorem dX4_peak_4 : decode cX4_peak 4 = .ok (.iload_n 2, 1) := by decide +kernel
theorem dX4_peak_5 : decode cX4_peak 5 = .ok (.iconst 1, 1) := by decide +kernel
theorem dX4_peak_6 : decode cX4_peak 6 = .ok (.sipush 240, 3) := by decide +kernel
theorem dX4_peak_9 : decode cX4_peak 9 = .ok (.invokestatic 37, 3) := by decide +kernel
theorem dX4_peak_12 : decode cX4_peak 12 = .ok (.aload_n 0, 1) := by decide +kernel
theorem dX4_peak_13 : decode cX4_peak 13 = .ok (.iload_n 1, 1) := by decide +kernel
theorem dX4_peak_14 : decode cX4_peak 14 = .ok (.invokevirtual 123, 3) := by decide +kernel
theorem dX4_peak_17 : decode cX4_peak 17 = .ok (.iconst 0, 1) := by decide +kernel
theorem dX4_peak_18 : decode cX4_peak 18 = .ok (.istore_n 3, 1) := by decide +kernel
theorem dX4_peak_19 : decode cX4_peak 19 = .ok (.iconst 0, 1) := by decide +kernel
theorem dX4_peak_20 : decode cX4_peak 20 = .ok (.istore 4, 2) := by decide +kernel
theorem dX4_peak_22 : decode cX4_peak 22 = .ok (.iconst 0, 1) := by decide +kernel
theorem dX4_peak_23 : decode cX4_peak 23 = .ok (.istore 5, 2) := by decide +kernel
theorem dX4_peak_25 : decode cX4_peak 25 = .ok (.iconst 0, 1) := by decide +kernel
theorem dX4_peak_26 : decode cX4_peak 26 = .ok (.istore 6, 2) := by decide +kernel
theorem dX4_peak_28 : decode cX4_peak 28 = .ok (.iload 6, 2) := by decide +kernel
theorem dX4_peak_30 : decode cX4_peak 30 = .ok (.sipush 2999, 3) := by decide +kernel
theorem dX4_peak_33 : decode cX4_peak 33 = .ok (.if_icmp .gt 46, 3) := by decide +kernel
theorem dX4_peak_36 : decode cX4_peak 36 = .ok (.aload_n 0, 1) := by decide +kernel
theorem dX4_peak_37 : decode cX4_peak 37 = .ok (.getfield 29, 3) := by decide +kernel
theorem dX4_peak_40 : decode cX4_peak 40 = .ok (.iload 6, 2) := by decide +kernel
theorem dX4_peak_42 : decode cX4_peak 42 = .ok (.iload_n 3, 1) := by decide +kernel
theorem dX4_peak_43 : decode cX4_peak 43 = .ok (.invokevirtual 126, 3) := by decide +kernel
theorem dX4_peak_46 : decode cX4_peak 46 = .ok (.istore_n 3, 1) := by decide +kernel
theorem dX4_peak_47 : decode cX4_peak 47 = .ok (.aload_n 0, 1) := by decide +kernel
theorem dX4_peak_48 : decode cX4_peak 48 = .ok (.getfield 29, 3) := by decide +kernel
theorem dX4_peak_51 : decode cX4_peak 51 = .ok (.iload 6, 2) := by decide +kernel
theorem dX4_peak_53 : decode cX4_peak 53 = .ok (.iload_n 2, 1) := by decide +kernel
theorem dX4_peak_54 : decode cX4_peak 54 = .ok (.iadd, 1) := by decide +kernel
theorem dX4_peak_55 : decode cX4_peak 55 = .ok (.iload 4, 2) := by decide +kernel
theorem dX4_peak_57 : decode cX4_peak 57 = .ok (.invokevirtual 126, 3) := by decide +kernel
theorem dX4_peak_60 : decode cX4_peak 60 = .ok (.istore 4, 2) := by decide +kernel
theorem dX4_peak_62 : decode cX4_peak 62 = .ok (.iload 5, 2) := by decide +kernel
theorem dX4_peak_64 : decode cX4_peak 64 = .ok (.iload 4, 2) := by decide +kernel
theorem dX4_peak_66 : decode cX4_peak 66 = .ok (.iload_n 3, 1) := by decide +kernel
theorem dX4_peak_67 : decode cX4_peak 67 = .ok (.isub, 1) := by decide +kernel
theorem dX4_peak_68 : decode cX4_peak 68 = .ok (.invokestatic 130, 3) := by decide +kernel
theorem dX4_peak_71 : decode cX4_peak 71 = .ok (.istore 5, 2) := by decide +kernel
theorem dX4_peak_73 : decode cX4_peak 73 = .ok (.iinc 6 1, 3) := by decide +kernel
theorem dX4_peak_76 : decode cX4_peak 76 = .ok (.goto (-48), 3) := by decide +kernel
theorem dX4_peak_79 : decode cX4_peak 79 = .ok (.iload 5, 2) := by decide +kernel
theorem dX4_peak_81 : decode cX4_peak 81 = .ok (.ireturn, 1) := by decide +kernel
theorem dX4_peakAnew_0 : decode cX4_peakAnew 0 = .ok (.iload_n 1, 1) := by decide +kernel
theorem dX4_peakAnew_1 : decode cX4_peakAnew 1 = .ok (.invokestatic 65, 3) := by decide +kernel
theorem dX4_peakAnew_4 : decode cX4_peakAnew 4 = .ok (.iload_n 2, 1) := by decide +kernel
theorem dX4_peakAnew_5 : decode cX4_peakAnew 5 = .ok (.iconst 1, 1) := by decide +kernel
theorem dX4_peakAnew_6 : decode cX4_peakAnew 6 = .ok (.sipush 240, 3) := by decide +kernel
theorem dX4_peakAnew_9 : decode cX4_peakAnew 9 = .ok (.invokestatic 37, 3) := by decide +kernel
theorem dX4_peakAnew_12 : decode cX4_peakAnew 12 = .ok (.iconst 0, 1) := by decide +kernel
theorem dX4_peakAnew_13 : decode cX4_peakAnew 13 = .ok (.istore_n 3, 1) := by decide +kernel
theorem dX4_peakAnew_14 : decode cX4_peakAnew 14 = .ok (.iconst 0, 1) := by decide +kernel
theorem dX4_peakAnew_15 : decode cX4_peakAnew 15 = .ok (.istore 4, 2) := by decide +kernel
theorem dX4_peakAnew_17 : decode cX4_peakAnew 17 = .ok (.iload 4, 2) := by decide +kernel
theorem dX4_peakAnew_19 : decode cX4_peakAnew 19 = .ok (.aload_n 0, 1) := by decide +kernel
theorem dX4_peakAnew_20 : decode cX4_peakAnew 20 = .ok (.getfield 10, 3) := by decide +kernel
theorem dX4_peakAnew_23 : decode cX4_peakAnew 23 = .ok (.invokevirtual 41, 3) := by decide +kernel
theorem dX4_peakAnew_26 : decode cX4_peakAnew 26 = .ok (.if_icmp .ge 49, 3) := by decide +kernel
theorem dX4_peakAnew_29 : decode cX4_peakAnew 29 = .ok (.aload_n 0, 1) := by decide +kernel
theorem dX4_peakAnew_30 : decode cX4_peakAnew 30 = .ok (.getfield 10, 3) := by decide +kernel
theorem dX4_peakAnew_33 : decode cX4_peakAnew 33 = .ok (.iload 4, 2) := by decide +kernel
theorem dX4_peakAnew_35 : decode cX4_peakAnew 35 = .ok (.invokevirtual 116, 3) := by decide +kernel
theorem dX4_peakAnew_38 : decode cX4_peakAnew 38 = .ok (.checkcast 52, 3) := by decide +kernel
theorem dX4_peakAnew_41 : decode cX4_peakAnew 41 = .ok (.astore 5, 2) := by decide +kernel
theorem dX4_peakAnew_43 : decode cX4_peakAnew 43 = .ok (.aload 5, 2) := by decide +kernel
theorem dX4_peakAnew_45 : decode cX4_peakAnew 45 = .ok (.iload_n 1, 1) := by decide +kernel
theorem dX4_peakAnew_46 : decode cX4_peakAnew 46 = .ok (.invokevirtual 135, 3) := by decide +kernel
theorem dX4_peakAnew_49 : decode cX4_peakAnew 49 = .ok (.ifCond .eq 20, 3) := by decide +kernel
theorem dX4_peakAnew_52 : decode cX4_peakAnew 52 = .ok (.iload_n 3, 1) := by decide +kernel
theorem dX4_peakAnew_53 : decode cX4_peakAnew 53 = .ok (.aload_n 0, 1) := by decide +kernel
theorem dX4_peakAnew_54 : decode cX4_peakAnew 54 = .ok (.iload_n 1, 1) := by decide +kernel
theorem dX4_peakAnew_55 : decode cX4_peakAnew 55 = .ok (.aload 5, 2) := by decide +kernel
theorem dX4_peakAnew_57 : decode cX4_peakAnew 57 = .ok (.iload_n 1, 1) := by decide +kernel
theorem dX4_peakAnew_58 : decode cX4_peakAnew 58 = .ok (.invokevirtual 108, 3) := by decide +kernel
theorem dX4_peakAnew_61 : decode cX4_peakAnew 61 = .ok (.iload_n 2, 1) := by decide +kernel
theorem dX4_peakAnew_62 : decode cX4_peakAnew 62 = .ok (.invokevirtual 112, 3) := by decide +kernel
theorem dX4_peakAnew_65 : decode cX4_peakAnew 65 = .ok (.invokestatic 130, 3) := by decide +kernel
theorem dX4_peakAnew_68 : decode cX4_peakAnew 68 = .ok (.istore_n 3, 1) := by decide +kernel
theorem dX4_peakAnew_69 : decode cX4_peakAnew 69 = .ok (.iinc 4 1, 3) := by decide +kernel
theorem dX4_peakAnew_72 : decode cX4_peakAnew 72 = .ok (.goto (-55), 3) := by decide +kernel
theorem dX4_peakAnew_75 : decode cX4_peakAnew 75 = .ok (.iload_n 3, 1) := by decide +kernel
theorem dX4_peakAnew_76 : decode cX4_peakAnew 76 = .ok (.ireturn, 1) := by decide +kernel
theorem dX4_regulation_0 : decode cX4_regulation 0 = .ok (.iload_n 1, 1) := by decide +kernel
theorem dX4_regulation_1 : decode cX4_regulation 1 = .ok (.invokestatic 65, 3) := by decide +kernel
theorem dX4_regulation_4 : decode cX4_regulation 4 = .ok (.iload_n 2, 1) := by decide +kernel
theorem dX4_regulation_5 : decode cX4_regulation 5 = .ok (.iload_n 3, 1) := by decide +kernel
theorem dX4_regulation_6 : decode cX4_regulation 6 = .ok (.iload 4, 2) := by decide +kernel
theorem dX4_regulation_8 : decode cX4_regulation 8 = .ok (.invokestatic 139, 3) := by decide +kernel
theorem dX4_regulation_11 : decode cX4_regulation 11 = .ok (.aload_n 0, 1) := by decide +kernel
theorem dX4_regulation_12 : decode cX4_regulation 12 = .ok (.getfield 16, 3) := by decide +kernel
theorem dX4_regulation_15 : decode cX4_regulation 15 = .ok (.invokevirtual 41, 3) := by decide +kernel
theorem dX4_regulation_18 : decode cX4_regulation 18 = .ok (.bipush 6, 2) := by decide +kernel
theorem dX4_regulation_20 : decode cX4_regulation 20 = .ok (.if_icmp .lt 13, 3) := by decide +kernel
theorem dX4_regulation_23 : decode cX4_regulation 23 = .ok (.new 45, 3) := by decide +kernel
theorem dX4_regulation_26 : decode cX4_regulation 26 = .ok (.dup, 1) := by decide +kernel
theorem dX4_regulation_27 : decode cX4_regulation 27 = .ok (.ldc 142, 2) := by decide +kernel
theorem dX4_regulation_29 : decode cX4_regulation 29 = .ok (.invokespecial 49, 3) := by decide +kernel
theorem dX4_regulation_32 : decode cX4_regulation 32 = .ok (.athrow, 1) := by decide +kernel
theorem dX4_regulation_33 : decode cX4_regulation 33 = .ok (.aload_n 0, 1) := by decide +kernel
theorem dX4_regulation_34 : decode cX4_regulation 34 = .ok (.getfield 16, 3) := by decide +kernel
theorem dX4_regulation_37 : decode cX4_regulation 37 = .ok (.new 144, 3) := by decide +kernel
theorem dX4_regulation_40 : decode cX4_regulation 40 = .ok (.dup, 1) := by decide +kernel
theorem dX4_regulation_41 : decode cX4_regulation 41 = .ok (.iload_n 1, 1) := by decide +kernel
theorem dX4_regulation_42 : decode cX4_regulation 42 = .ok (.iload_n 2, 1) := by decide +kernel
theorem dX4_regulation_43 : decode cX4_regulation 43 = .ok (.iload_n 3, 1) := by decide +kernel
theorem dX4_regulation_44 : decode cX4_regulation 44 = .ok (.iload 4, 2) := by decide +kernel
theorem dX4_regulation_46 : decode cX4_regulation 46 = .ok (.invokespecial 146, 3) := by decide +kernel
theorem dX4_regulation_49 : decode cX4_regulation 49 = .ok (.invokevirtual 57, 3) := by decide +kernel
theorem dX4_regulation_52 : decode cX4_regulation 52 = .ok (.pop, 1) := by decide +kernel
theorem dX4_regulation_53 : decode cX4_regulation 53 = .ok (.aload_n 0, 1) := by decide +kernel
theorem dX4_regulation_54 : decode cX4_regulation 54 = .ok (.getfield 16, 3) := by decide +kernel
theorem dX4_regulation_57 : decode cX4_regulation 57 = .ok (.invokevirtual 41, 3) := by decide +kernel
theorem dX4_regulation_60 : decode cX4_regulation 60 = .ok (.iconst 1, 1) := by decide +kernel
theorem dX4_regulation_61 : decode cX4_regulation 61 = .ok (.isub, 1) := by decide +kernel
theorem dX4_regulation_62 : decode cX4_regulation 62 = .ok (.ireturn, 1) := by decide +kernel
theorem dX4_rate_0 : decode cX4_rate 0 = .ok (.aload_n 0, 1) := by decide +kernel
theorem dX4_rate_1 : decode cX4_rate 1 = .ok (.iload_n 1, 1) := by decide +kernel
theorem dX4_rate_2 : decode cX4_rate 2 = .ok (.invokevirtual 149, 3) := by decide +kernel
theorem dX4_rate_5 : decode cX4_rate 5 = .ok (.astore_n 3, 1) := by decide +kernel
theorem dX4_rate_6 : decode cX4_rate 6 = .ok (.iload_n 2, 1) := by decide +kernel
theorem dX4_rate_7 : decode cX4_rate 7 = .ok (.iconst 0, 1) := by decide +kernel
theorem dX4_rate_8 : decode cX4_rate 8 = .ok (.bipush 60, 2) := by decide +kernel
theorem dX4_rate_10 : decode cX4_rate 10 = .ok (.invokestatic 37, 3) := by decide +kernel
theorem dX4_rate_13 : decode cX4_rate 13 = .ok (.aload_n 3, 1) := by decide +kernel
theorem dX4_rate_14 : decode cX4_rate 14 = .ok (.invokestatic 153, 3) := by decide +kernel
theorem dX4_rate_17 : decode cX4_rate 17 = .ok (.aload_n 3, 1) := by decide +kernel
theorem dX4_rate_18 : decode cX4_rate 18 = .ok (.getfield 157, 3) := by decide +kernel
theorem dX4_rate_21 : decode cX4_rate 21 = .ok (.istore 4, 2) := by decide +kernel
theorem dX4_rate_23 : decode cX4_rate 23 = .ok (.aload_n 3, 1) := by decide +kernel
theorem dX4_rate_24 : decode cX4_rate 24 = .ok (.iload_n 2, 1) := by decide +kernel
theorem dX4_rate_25 : decode cX4_rate 25 = .ok (.putfield 157, 3) := by decide +kernel
theorem dX4_rate_28 : decode cX4_rate 28 = .ok (.iload 4, 2) := by decide +kernel
theorem dX4_rate_30 : decode cX4_rate 30 = .ok (.ireturn, 1) := by decide +kernel
theorem dX4_end_0 : decode cX4_end 0 = .ok (.aload_n 0, 1) := by decide +kernel
theorem dX4_end_1 : decode cX4_end 1 = .ok (.iload_n 1, 1) := by decide +kernel
theorem dX4_end_2 : decode cX4_end 2 = .ok (.invokevirtual 149, 3) := by decide +kernel
theorem dX4_end_5 : decode cX4_end 5 = .ok (.astore_n 2, 1) := by decide +kernel
theorem dX4_end_6 : decode cX4_end 6 = .ok (.aload_n 2, 1) := by decide +kernel
theorem dX4_end_7 : decode cX4_end 7 = .ok (.invokestatic 153, 3) := by decide +kernel
theorem dX4_end_10 : decode cX4_end 10 = .ok (.aload_n 2, 1) := by decide +kernel
theorem dX4_end_11 : decode cX4_end 11 = .ok (.iconst 1, 1) := by decide +kernel
theorem dX4_end_12 : decode cX4_end 12 = .ok (.putfield 160, 3) := by decide +kernel
theorem dX4_end_15 : decode cX4_end 15 = .ok (.return_, 1) := by decide +kernel
theorem dX4_regulationIs_0 : decode cX4_regulationIs 0 = .ok (.aload_n 0, 1) := by decide +kernel
theorem dX4_regulationIs_1 : decode cX4_regulationIs 1 = .ok (.iload_n 1, 1) := by decide +kernel
theorem dX4_regulationIs_2 : decode cX4_regulationIs 2 = .ok (.invokevirtual 149, 3) := by decide +kernel
theorem dX4_regulationIs_5 : decode cX4_regulationIs 5 = .ok (.astore_n 3, 1) := by decide +kernel
theorem dX4_regulationIs_6 : decode cX4_regulationIs 6 = .ok (.iload_n 2, 1) := by decide +kernel
theorem dX4_regulationIs_7 : decode cX4_regulationIs 7 = .ok (.iconst 0, 1) := by decide +kernel
theorem dX4_regulationIs_8 : decode cX4_regulationIs 8 = .ok (.bipush 6, 2) := by decide +kernel
theorem dX4_regulationIs_10 : decode cX4_regulationIs 10 = .ok (.invokestatic 37, 3) := by decide +kernel
theorem dX4_regulationIs_13 : decode cX4_regulationIs 13 = .ok (.aload_n 0, 1) := by decide +kernel
theorem dX4_regulationIs_14 : decode cX4_regulationIs 14 = .ok (.getfield 22, 3) := by decide +kernel
theorem dX4_regulationIs_17 : decode cX4_regulationIs 17 = .ok (.aload_n 3, 1) := by decide +kernel
theorem dX4_regulationIs_18 : decode cX4_regulationIs 18 = .ok (.aload_n 0, 1) := by decide +kernel
theorem dX4_regulationIs_19 : decode cX4_regulationIs 19 = .ok (.getfield 10, 3) := by decide +kernel
theorem dX4_regulationIs_22 : decode cX4_regulationIs 22 = .ok (.invokevirtual 163, 3) := by decide +kernel
theorem dX4_regulationIs_25 : decode cX4_regulationIs 25 = .ok (.iload_n 2, 1) := by decide +kernel
theorem dX4_regulationIs_26 : decode cX4_regulationIs 26 = .ok (.tableswitch 89 0 5 #[38, 46, 54, 65, 76, 84], 38) := by decide +kernel
theorem dX4_regulationIs_64 : decode cX4_regulationIs 64 = .ok (.aload_n 0, 1) := by decide +kernel
theorem dX4_regulationIs_65 : decode cX4_regulationIs 65 = .ok (.getfield 22, 3) := by decide +kernel
theorem dX4_regulationIs_68 : decode cX4_regulationIs 68 = .ok (.getfield 167, 3) := by decide +kernel
theorem dX4_regulationIs_71 : decode cX4_regulationIs 71 = .ok (.ireturn, 1) := by decide +kernel
theorem dX4_regulationIs_72 : decode cX4_regulationIs 72 = .ok (.aload_n 0, 1) := by decide +kernel
theorem dX4_regulationIs_73 : decode cX4_regulationIs 73 = .ok (.getfield 22, 3) := by decide +kernel
theorem dX4_regulationIs_76 : decode cX4_regulationIs 76 = .ok (.getfield 170, 3) := by decide +kernel
theorem dX4_regulationIs_79 : decode cX4_regulationIs 79 = .ok (.ireturn, 1) := by decide +kernel
theorem dX4_regulationIs_80 : decode cX4_regulationIs 80 = .ok (.aload_n 0, 1) := by decide +kernel
theorem dX4_regulationIs_81 : decode cX4_regulationIs 81 = .ok (.getfield 22, 3) := by decide +kernel
theorem dX4_regulationIs_84 : decode cX4_regulationIs 84 = .ok (.getfield 173, 3) := by decide +kernel
theorem dX4_regulationIs_87 : decode cX4_regulationIs 87 = .ok (.getfield 176, 3) := by decide +kernel
theorem dX4_regulationIs_90 : decode cX4_regulationIs 90 = .ok (.ireturn, 1) := by decide +kernel
theorem dX4_regulationIs_91 : decode cX4_regulationIs 91 = .ok (.aload_n 0, 1) := by decide +kernel
theorem dX4_regulationIs_92 : decode cX4_regulationIs 92 = .ok (.getfield 22, 3) := by decide +kernel
theorem dX4_regulationIs_95 : decode cX4_regulationIs 95 = .ok (.getfield 179, 3) := by decide +kernel
theorem dX4_regulationIs_98 : decode cX4_regulationIs 98 = .ok (.getfield 176, 3) := by decide +kernel
theorem dX4_regulationIs_101 : decode cX4_regulationIs 101 = .ok (.ireturn, 1) := by decide +kernel
theorem dX4_regulationIs_102 : decode cX4_regulationIs 102 = .ok (.aload_n 0, 1) := by decide +kernel
theorem dX4_regulationIs_103 : decode cX4_regulationIs 103 = .ok (.getfield 22, 3) := by decide +kernel
theorem dX4_regulationIs_106 : decode cX4_regulationIs 106 = .ok (.getfield 182, 3) := by decide +kernel
theorem dX4_regulationIs_109 : decode cX4_regulationIs 109 = .ok (.ireturn, 1) := by decide +kernel
theorem dX4_regulationIs_110 : decode cX4_regulationIs 110 = .ok (.aload_n 3, 1) := by decide +kernel
theorem dX4_regulationIs_111 : decode cX4_regulationIs 111 = .ok (.getfield 157, 3) := by decide +kernel
theorem dX4_regulationIs_114 : decode cX4_regulationIs 114 = .ok (.ireturn, 1) := by decide +kernel
theorem dX4_regulationIs_115 : decode cX4_regulationIs 115 = .ok (.aload_n 0, 1) := by decide +kernel
theorem dX4_regulationIs_116 : decode cX4_regulationIs 116 = .ok (.iload_n 1, 1) := by decide +kernel
theorem dX4_regulationIs_117 : decode cX4_regulationIs 117 = .ok (.invokevirtual 185, 3) := by decide +kernel
theorem dX4_regulationIs_120 : decode cX4_regulationIs 120 = .ok (.ireturn, 1) := by decide +kernel
theorem dX4_slot_0 : decode cX4_slot 0 = .ok (.aload_n 0, 1) := by decide +kernel
theorem dX4_slot_1 : decode cX4_slot 1 = .ok (.iload_n 1, 1) := by decide +kernel
theorem dX4_slot_2 : decode cX4_slot 2 = .ok (.invokevirtual 149, 3) := by decide +kernel
theorem dX4_slot_5 : decode cX4_slot 5 = .ok (.astore_n 3, 1) := by decide +kernel
theorem dX4_slot_6 : decode cX4_slot 6 = .ok (.iload_n 2, 1) := by decide +kernel
theorem dX4_slot_7 : decode cX4_slot 7 = .ok (.ifCond .ge 13, 3) := by decide +kernel
theorem dX4_slot_10 : decode cX4_slot 10 = .ok (.new 188, 3) := by decide +kernel
theorem dX4_slot_13 : decode cX4_slot 13 = .ok (.dup, 1) := by decide +kernel
theorem dX4_slot_14 : decode cX4_slot 14 = .ok (.ldc 190, 2) := by decide +kernel
theorem dX4_slot_16 : decode cX4_slot 16 = .ok (.invokespecial 192, 3) := by decide +kernel
theorem dX4_slot_19 : decode cX4_slot 19 = .ok (.athrow, 1) := by decide +kernel
theorem dX4_slot_20 : decode cX4_slot 20 = .ok (.iload_n 2, 1) := by decide +kernel
theorem dX4_slot_21 : decode cX4_slot 21 = .ok (.aload_n 3, 1) := by decide +kernel
theorem dX4_slot_22 : decode cX4_slot 22 = .ok (.invokevirtual 193, 3) := by decide +kernel
theorem dX4_slot_25 : decode cX4_slot 25 = .ok (.if_icmp .ge 11, 3) := by decide +kernel
theorem dX4_slot_28 : decode cX4_slot 28 = .ok (.aload_n 3, 1) := by decide +kernel
theorem dX4_slot_29 : decode cX4_slot 29 = .ok (.iload_n 2, 1) := by decide +kernel
theorem dX4_slot_30 : decode cX4_slot 30 = .ok (.invokevirtual 195, 3) := by decide +kernel
theorem dX4_slot_33 : decode cX4_slot 33 = .ok (.goto 4, 3) := by decide +kernel
theorem dX4_slot_36 : decode cX4_slot 36 = .ok (.iconst (-1), 1) := by decide +kernel
theorem dX4_slot_37 : decode cX4_slot 37 = .ok (.ireturn, 1) := by decide +kernel
theorem dX4_penalty_0 : decode cX4_penalty 0 = .ok (.aload_n 0, 1) := by decide +kernel
theorem dX4_penalty_1 : decode cX4_penalty 1 = .ok (.iload_n 1, 1) := by decide +kernel
theorem dX4_penalty_2 : decode cX4_penalty 2 = .ok (.invokevirtual 61, 3) := by decide +kernel
theorem dX4_penalty_5 : decode cX4_penalty 5 = .ok (.pop, 1) := by decide +kernel
theorem dX4_penalty_6 : decode cX4_penalty 6 = .ok (.aload_n 0, 1) := by decide +kernel
theorem dX4_penalty_7 : decode cX4_penalty 7 = .ok (.iload_n 2, 1) := by decide +kernel
theorem dX4_penalty_8 : decode cX4_penalty 8 = .ok (.invokevirtual 149, 3) := by decide +kernel
theorem dX4_penalty_11 : decode cX4_penalty 11 = .ok (.astore_n 3, 1) := by decide +kernel
theorem dX4_penalty_12 : decode cX4_penalty 12 = .ok (.aload_n 0, 1) := by decide +kernel
theorem dX4_penalty_13 : decode cX4_penalty 13 = .ok (.getfield 22, 3) := by decide +kernel
theorem dX4_penalty_16 : decode cX4_penalty 16 = .ok (.aload_n 3, 1) := by decide +kernel
theorem dX4_penalty_17 : decode cX4_penalty 17 = .ok (.aload_n 0, 1) := by decide +kernel
theorem dX4_penalty_18 : decode cX4_penalty 18 = .ok (.getfield 10, 3) := by decide +kernel
theorem dX4_penalty_21 : decode cX4_penalty 21 = .ok (.invokevirtual 163, 3) := by decide +kernel
theorem dX4_penalty_24 : decode cX4_penalty 24 = .ok (.aload_n 0, 1) := by decide +kernel
theorem dX4_penalty_25 : decode cX4_penalty 25 = .ok (.getfield 22, 3) := by decide +kernel
theorem dX4_penalty_28 : decode cX4_penalty 28 = .ok (.getfield 179, 3) := by decide +kernel
theorem dX4_penalty_31 : decode cX4_penalty 31 = .ok (.iload_n 1, 1) := by decide +kernel
theorem dX4_penalty_32 : decode cX4_penalty 32 = .ok (.invokevirtual 198, 3) := by decide +kernel
theorem dX4_penalty_35 : decode cX4_penalty 35 = .ok (.ireturn, 1) := by decide +kernel
theorem dX4_due_0 : decode cX4_due 0 = .ok (.aload_n 0, 1) := by decide +kernel
theorem dX4_due_1 : decode cX4_due 1 = .ok (.iload_n 1, 1) := by decide +kernel
theorem dX4_due_2 : decode cX4_due 2 = .ok (.invokevirtual 61, 3) := by decide +kernel
theorem dX4_due_5 : decode cX4_due 5 = .ok (.astore_n 2, 1) := by decide +kernel
theorem dX4_due_6 : decode cX4_due 6 = .ok (.aload_n 0, 1) := by decide +kernel
theorem dX4_due_7 : decode cX4_due 7 = .ok (.invokevirtual 201, 3) := by decide +kernel
theorem dX4_due_10 : decode cX4_due 10 = .ok (.aload_n 2, 1) := by decide +kernel
theorem dX4_due_11 : decode cX4_due 11 = .ok (.getfield 204, 3) := by decide +kernel
theorem dX4_due_14 : decode cX4_due 14 = .ok (.ireturn, 1) := by decide +kernel
theorem dX4_dueAnew_0 : decode cX4_dueAnew 0 = .ok (.aload_n 0, 1) := by decide +kernel
theorem dX4_dueAnew_1 : decode cX4_dueAnew 1 = .ok (.iload_n 1, 1) := by decide +kernel
theorem dX4_dueAnew_2 : decode cX4_dueAnew 2 = .ok (.invokevirtual 61, 3) := by decide +kernel
theorem dX4_dueAnew_5 : decode cX4_dueAnew 5 = .ok (.pop, 1) := by decide +kernel
theorem dX4_dueAnew_6 : decode cX4_dueAnew 6 = .ok (.iconst 0, 1) := by decide +kernel
theorem dX4_dueAnew_7 : decode cX4_dueAnew 7 = .ok (.istore_n 2, 1) := by decide +kernel
theorem dX4_dueAnew_8 : decode cX4_dueAnew 8 = .ok (.iconst 0, 1) := by decide +kernel
theorem dX4_dueAnew_9 : decode cX4_dueAnew 9 = .ok (.istore_n 3, 1) := by decide +kernel
theorem dX4_dueAnew_10 : decode cX4_dueAnew 10 = .ok (.iload_n 3, 1) := by decide +kernel
theorem dX4_dueAnew_11 : decode cX4_dueAnew 11 = .ok (.aload_n 0, 1) := by decide +kernel
theorem dX4_dueAnew_12 : decode cX4_dueAnew 12 = .ok (.getfield 16, 3) := by decide +kernel
theorem dX4_dueAnew_15 : decode cX4_dueAnew 15 = .ok (.invokevirtual 41, 3) := by decide +kernel
theorem dX4_dueAnew_18 : decode cX4_dueAnew 18 = .ok (.if_icmp .ge 37, 3) := by decide +kernel
theorem dX4_dueAnew_21 : decode cX4_dueAnew 21 = .ok (.iload_n 2, 1) := by decide +kernel
theorem dX4_dueAnew_22 : decode cX4_dueAnew 22 = .ok (.aload_n 0, 1) := by decide +kernel
theorem dX4_dueAnew_23 : decode cX4_dueAnew 23 = .ok (.getfield 22, 3) := by decide +kernel
theorem dX4_dueAnew_26 : decode cX4_dueAnew 26 = .ok (.aload_n 0, 1) := by decide +kernel
theorem dX4_dueAnew_27 : decode cX4_dueAnew 27 = .ok (.getfield 16, 3) := by decide +kernel
theorem dX4_dueAnew_30 : decode cX4_dueAnew 30 = .ok (.iload_n 3, 1) := by decide +kernel
theorem dX4_dueAnew_31 : decode cX4_dueAnew 31 = .ok (.invokevirtual 116, 3) := by decide +kernel
theorem dX4_dueAnew_34 : decode cX4_dueAnew 34 = .ok (.checkcast 144, 3) := by decide +kernel
theorem dX4_dueAnew_37 : decode cX4_dueAnew 37 = .ok (.aload_n 0, 1) := by decide +kernel
theorem dX4_dueAnew_38 : decode cX4_dueAnew 38 = .ok (.getfield 10, 3) := by decide +kernel
theorem dX4_dueAnew_41 : decode cX4_dueAnew 41 = .ok (.iload_n 1, 1) := by decide +kernel
theorem dX4_dueAnew_42 : decode cX4_dueAnew 42 = .ok (.invokevirtual 207, 3) := by decide +kernel
theorem dX4_dueAnew_45 : decode cX4_dueAnew 45 = .ok (.invokestatic 130, 3) := by decide +kernel
theorem dX4_dueAnew_48 : decode cX4_dueAnew 48 = .ok (.istore_n 2, 1) := by decide +kernel
theorem dX4_dueAnew_49 : decode cX4_dueAnew 49 = .ok (.iinc 3 1, 3) := by decide +kernel
theorem dX4_dueAnew_52 : decode cX4_dueAnew 52 = .ok (.goto (-42), 3) := by decide +kernel
theorem dX4_dueAnew_55 : decode cX4_dueAnew 55 = .ok (.iload_n 2, 1) := by decide +kernel
theorem dX4_dueAnew_56 : decode cX4_dueAnew 56 = .ok (.ireturn, 1) := by decide +kernel
theorem dX4_allDue_0 : decode cX4_allDue 0 = .ok (.aload_n 0, 1) := by decide +kernel
theorem dX4_allDue_1 : decode cX4_allDue 1 = .ok (.invokevirtual 201, 3) := by decide +kernel
theorem dX4_allDue_4 : decode cX4_allDue 4 = .ok (.aload_n 0, 1) := by decide +kernel
theorem dX4_allDue_5 : decode cX4_allDue 5 = .ok (.invokevirtual 211, 3) := by decide +kernel
theorem dX4_allDue_8 : decode cX4_allDue 8 = .ok (.ireturn, 1) := by decide +kernel
theorem dX4_would_0 : decode cX4_would 0 = .ok (.iload_n 1, 1) := by decide +kernel
theorem dX4_would_1 : decode cX4_would 1 = .ok (.invokestatic 65, 3) := by decide +kernel
theorem dX4_would_4 : decode cX4_would 4 = .ok (.iload_n 2, 1) := by decide +kernel
theorem dX4_would_5 : decode cX4_would 5 = .ok (.iload_n 3, 1) := by decide +kernel
theorem dX4_would_6 : decode cX4_would 6 = .ok (.iload 4, 2) := by decide +kernel
theorem dX4_would_8 : decode cX4_would 8 = .ok (.invokestatic 139, 3) := by decide +kernel
theorem dX4_would_11 : decode cX4_would 11 = .ok (.aload_n 0, 1) := by decide +kernel
theorem dX4_would_12 : decode cX4_would 12 = .ok (.invokevirtual 201, 3) := by decide +kernel
theorem dX4_would_15 : decode cX4_would 15 = .ok (.aload_n 0, 1) := by decide +kernel
theorem dX4_would_16 : decode cX4_would 16 = .ok (.new 144, 3) := by decide +kernel
theorem dX4_would_19 : decode cX4_would 19 = .ok (.dup, 1) := by decide +kernel
theorem dX4_would_20 : decode cX4_would 20 = .ok (.iload_n 1, 1) := by decide +kernel
theorem dX4_would_21 : decode cX4_would 21 = .ok (.iload_n 2, 1) := by decide +kernel
theorem dX4_would_22 : decode cX4_would 22 = .ok (.iload_n 3, 1) := by decide +kernel
theorem dX4_would_23 : decode cX4_would 23 = .ok (.iload 4, 2) := by decide +kernel
theorem dX4_would_25 : decode cX4_would 25 = .ok (.invokespecial 146, 3) := by decide +kernel
theorem dX4_would_28 : decode cX4_would 28 = .ok (.aload_n 0, 1) := by decide +kernel
theorem dX4_would_29 : decode cX4_would 29 = .ok (.getfield 16, 3) := by decide +kernel
theorem dX4_would_32 : decode cX4_would 32 = .ok (.invokevirtual 41, 3) := by decide +kernel
theorem dX4_would_35 : decode cX4_would 35 = .ok (.invokevirtual 214, 3) := by decide +kernel
theorem dX4_would_38 : decode cX4_would 38 = .ok (.aload_n 0, 1) := by decide +kernel
theorem dX4_would_39 : decode cX4_would 39 = .ok (.invokevirtual 211, 3) := by decide +kernel
theorem dX4_would_42 : decode cX4_would 42 = .ok (.ireturn, 1) := by decide +kernel
theorem dX4_deal_0 : decode cX4_deal 0 = .ok (.aload_n 0, 1) := by decide +kernel
theorem dX4_deal_1 : decode cX4_deal 1 = .ok (.invokevirtual 201, 3) := by decide +kernel
theorem dX4_deal_4 : decode cX4_deal 4 = .ok (.iconst 0, 1) := by decide +kernel
theorem dX4_deal_5 : decode cX4_deal 5 = .ok (.istore_n 2, 1) := by decide +kernel
theorem dX4_deal_6 : decode cX4_deal 6 = .ok (.iconst 0, 1) := by decide +kernel
theorem dX4_deal_7 : decode cX4_deal 7 = .ok (.istore_n 3, 1) := by decide +kernel
theorem dX4_deal_8 : decode cX4_deal 8 = .ok (.iload_n 3, 1) := by decide +kernel
theorem dX4_deal_9 : decode cX4_deal 9 = .ok (.aload_n 0, 1) := by decide +kernel
theorem dX4_deal_10 : decode cX4_deal 10 = .ok (.getfield 10, 3) := by decide +kernel
theorem dX4_deal_13 : decode cX4_deal 13 = .ok (.invokevirtual 41, 3) := by decide +kernel
theorem dX4_deal_16 : decode cX4_deal 16 = .ok (.if_icmp .ge 44, 3) := by decide +kernel
theorem dX4_deal_19 : decode cX4_deal 19 = .ok (.aload_n 0, 1) := by decide +kernel
theorem dX4_deal_20 : decode cX4_deal 20 = .ok (.getfield 10, 3) := by decide +kernel
theorem dX4_deal_23 : decode cX4_deal 23 = .ok (.iload_n 3, 1) := by decide +kernel
theorem dX4_deal_24 : decode cX4_deal 24 = .ok (.invokevirtual 116, 3) := by decide +kernel
theorem dX4_deal_27 : decode cX4_deal 27 = .ok (.checkcast 52, 3) := by decide +kernel
theorem dX4_deal_30 : decode cX4_deal 30 = .ok (.astore 4, 2) := by decide +kernel
theorem dX4_deal_32 : decode cX4_deal 32 = .ok (.aload 4, 2) := by decide +kernel
theorem dX4_deal_34 : decode cX4_deal 34 = .ok (.getfield 81, 3) := by decide +kernel
theorem dX4_deal_37 : decode cX4_deal 37 = .ok (.ifCond .ne 17, 3) := by decide +kernel
theorem dX4_deal_40 : decode cX4_deal 40 = .ok (.aload 4, 2) := by decide +kernel
theorem dX4_deal_42 : decode cX4_deal 42 = .ok (.iload_n 1, 1) := by decide +kernel
theorem dX4_deal_43 : decode cX4_deal 43 = .ok (.invokevirtual 218, 3) := by decide +kernel
theorem dX4_deal_46 : decode cX4_deal 46 = .ok (.iload_n 2, 1) := by decide +kernel
theorem dX4_deal_47 : decode cX4_deal 47 = .ok (.aload 4, 2) := by decide +kernel
theorem dX4_deal_49 : decode cX4_deal 49 = .ok (.invokevirtual 222, 3) := by decide +kernel
theorem dX4_deal_52 : decode cX4_deal 52 = .ok (.iadd, 1) := by decide +kernel
theorem dX4_deal_53 : decode cX4_deal 53 = .ok (.istore_n 2, 1) := by decide +kernel
theorem dX4_deal_54 : decode cX4_deal 54 = .ok (.iinc 3 1, 3) := by decide +kernel
theorem dX4_deal_57 : decode cX4_deal 57 = .ok (.goto (-49), 3) := by decide +kernel
theorem dX4_deal_60 : decode cX4_deal 60 = .ok (.iload_n 2, 1) := by decide +kernel
theorem dX4_deal_61 : decode cX4_deal 61 = .ok (.ireturn, 1) := by decide +kernel
theorem dX4_swap_0 : decode cX4_swap 0 = .ok (.aload_n 0, 1) := by decide +kernel
theorem dX4_swap_1 : decode cX4_swap 1 = .ok (.iload_n 1, 1) := by decide +kernel
theorem dX4_swap_2 : decode cX4_swap 2 = .ok (.invokevirtual 61, 3) := by decide +kernel
theorem dX4_swap_5 : decode cX4_swap 5 = .ok (.astore_n 3, 1) := by decide +kernel
theorem dX4_swap_6 : decode cX4_swap 6 = .ok (.aload_n 0, 1) := by decide +kernel
theorem dX4_swap_7 : decode cX4_swap 7 = .ok (.iload_n 2, 1) := by decide +kernel
theorem dX4_swap_8 : decode cX4_swap 8 = .ok (.invokevirtual 61, 3) := by decide +kernel
theorem dX4_swap_11 : decode cX4_swap 11 = .ok (.astore 4, 2) := by decide +kernel
theorem dX4_swap_13 : decode cX4_swap 13 = .ok (.iload_n 1, 1) := by decide +kernel
theorem dX4_swap_14 : decode cX4_swap 14 = .ok (.iload_n 2, 1) := by decide +kernel
theorem dX4_swap_15 : decode cX4_swap 15 = .ok (.if_icmp .ne 13, 3) := by decide +kernel
theorem dX4_swap_18 : decode cX4_swap 18 = .ok (.new 225, 3) := by decide +kernel
theorem dX4_swap_21 : decode cX4_swap 21 = .ok (.dup, 1) := by decide +kernel
theorem dX4_swap_22 : decode cX4_swap 22 = .ok (.ldc 227, 2) := by decide +kernel
theorem dX4_swap_24 : decode cX4_swap 24 = .ok (.invokespecial 229, 3) := by decide +kernel
theorem dX4_swap_27 : decode cX4_swap 27 = .ok (.athrow, 1) := by decide +kernel
theorem dX4_swap_28 : decode cX4_swap 28 = .ok (.aload_n 3, 1) := by decide +kernel
theorem dX4_swap_29 : decode cX4_swap 29 = .ok (.aload 4, 2) := by decide +kernel
theorem dX4_swap_31 : decode cX4_swap 31 = .ok (.invokevirtual 230, 3) := by decide +kernel
theorem dX4_swap_34 : decode cX4_swap 34 = .ok (.ifCond .ne 13, 3) := by decide +kernel
theorem dX4_swap_37 : decode cX4_swap 37 = .ok (.new 45, 3) := by decide +kernel
theorem dX4_swap_40 : decode cX4_swap 40 = .ok (.dup, 1) := by decide +kernel
theorem dX4_swap_41 : decode cX4_swap 41 = .ok (.ldc 234, 2) := by decide +kernel
theorem dX4_swap_43 : decode cX4_swap 43 = .ok (.invokespecial 49, 3) := by decide +kernel
theorem dX4_swap_46 : decode cX4_swap 46 = .ok (.athrow, 1) := by decide +kernel
theorem dX4_swap_47 : decode cX4_swap 47 = .ok (.aload_n 0, 1) := by decide +kernel
theorem dX4_swap_48 : decode cX4_swap 48 = .ok (.aload_n 3, 1) := by decide +kernel
theorem dX4_swap_49 : decode cX4_swap 49 = .ok (.getfield 99, 3) := by decide +kernel
theorem dX4_swap_52 : decode cX4_swap 52 = .ok (.invokevirtual 149, 3) := by decide +kernel
theorem dX4_swap_55 : decode cX4_swap 55 = .ok (.getfield 236, 3) := by decide +kernel
theorem dX4_swap_58 : decode cX4_swap 58 = .ok (.istore 5, 2) := by decide +kernel
theorem dX4_swap_60 : decode cX4_swap 60 = .ok (.aload 4, 2) := by decide +kernel
theorem dX4_swap_62 : decode cX4_swap 62 = .ok (.iload 5, 2) := by decide +kernel
theorem dX4_swap_64 : decode cX4_swap 64 = .ok (.invokevirtual 108, 3) := by decide +kernel
theorem dX4_swap_67 : decode cX4_swap 67 = .ok (.aload_n 3, 1) := by decide +kernel
theorem dX4_swap_68 : decode cX4_swap 68 = .ok (.iload 5, 2) := by decide +kernel
theorem dX4_swap_70 : decode cX4_swap 70 = .ok (.invokevirtual 239, 3) := by decide +kernel
theorem dX4_swap_73 : decode cX4_swap 73 = .ok (.isub, 1) := by decide +kernel
theorem dX4_swap_74 : decode cX4_swap 74 = .ok (.istore 6, 2) := by decide +kernel
theorem dX4_swap_76 : decode cX4_swap 76 = .ok (.aload_n 3, 1) := by decide +kernel
theorem dX4_swap_77 : decode cX4_swap 77 = .ok (.iload 5, 2) := by decide +kernel
theorem dX4_swap_79 : decode cX4_swap 79 = .ok (.invokevirtual 108, 3) := by decide +kernel
theorem dX4_swap_82 : decode cX4_swap 82 = .ok (.aload 4, 2) := by decide +kernel
theorem dX4_swap_84 : decode cX4_swap 84 = .ok (.iload 5, 2) := by decide +kernel
theorem dX4_swap_86 : decode cX4_swap 86 = .ok (.invokevirtual 239, 3) := by decide +kernel
theorem dX4_swap_89 : decode cX4_swap 89 = .ok (.isub, 1) := by decide +kernel
theorem dX4_swap_90 : decode cX4_swap 90 = .ok (.istore 7, 2) := by decide +kernel
theorem dX4_swap_92 : decode cX4_swap 92 = .ok (.iload 6, 2) := by decide +kernel
theorem dX4_swap_94 : decode cX4_swap 94 = .ok (.aload_n 3, 1) := by decide +kernel
theorem dX4_swap_95 : decode cX4_swap 95 = .ok (.getfield 93, 3) := by decide +kernel
theorem dX4_swap_98 : decode cX4_swap 98 = .ok (.if_icmp .lt 13, 3) := by decide +kernel
theorem dX4_swap_101 : decode cX4_swap 101 = .ok (.iload 7, 2) := by decide +kernel
theorem dX4_swap_103 : decode cX4_swap 103 = .ok (.aload 4, 2) := by decide +kernel
theorem dX4_swap_105 : decode cX4_swap 105 = .ok (.getfield 93, 3) := by decide +kernel
theorem dX4_swap_108 : decode cX4_swap 108 = .ok (.if_icmp .ge 13, 3) := by decide +kernel
theorem dX4_swap_111 : decode cX4_swap 111 = .ok (.new 45, 3) := by decide +kernel
theorem dX4_swap_114 : decode cX4_swap 114 = .ok (.dup, 1) := by decide +kernel
theorem dX4_swap_115 : decode cX4_swap 115 = .ok (.ldc 242, 2) := by decide +kernel
theorem dX4_swap_117 : decode cX4_swap 117 = .ok (.invokespecial 49, 3) := by decide +kernel
theorem dX4_swap_120 : decode cX4_swap 120 = .ok (.athrow, 1) := by decide +kernel
theorem dX4_swap_121 : decode cX4_swap 121 = .ok (.aload_n 3, 1) := by decide +kernel
theorem dX4_swap_122 : decode cX4_swap 122 = .ok (.iload 6, 2) := by decide +kernel
theorem dX4_swap_124 : decode cX4_swap 124 = .ok (.putfield 96, 3) := by decide +kernel
theorem dX4_swap_127 : decode cX4_swap 127 = .ok (.aload 4, 2) := by decide +kernel
theorem dX4_swap_129 : decode cX4_swap 129 = .ok (.iload 7, 2) := by decide +kernel
theorem dX4_swap_131 : decode cX4_swap 131 = .ok (.putfield 96, 3) := by decide +kernel
theorem dX4_swap_134 : decode cX4_swap 134 = .ok (.return_, 1) := by decide +kernel
theorem dX4_message_0 : decode cX4_message 0 = .ok (.aload_n 0, 1) := by decide +kernel
theorem dX4_message_1 : decode cX4_message 1 = .ok (.iload_n 1, 1) := by decide +kernel
theorem dX4_message_2 : decode cX4_message 2 = .ok (.invokevirtual 61, 3) := by decide +kernel
theorem dX4_message_5 : decode cX4_message 5 = .ok (.astore 5, 2) := by decide +kernel
theorem dX4_message_7 : decode cX4_message 7 = .ok (.iload_n 2, 1) := by decide +kernel
theorem dX4_message_8 : decode cX4_message 8 = .ok (.iconst 1, 1) := by decide +kernel
theorem dX4_message_9 : decode cX4_message 9 = .ok (.bipush 99, 2) := by decide +kernel
theorem dX4_message_11 : decode cX4_message 11 = .ok (.invokestatic 37, 3) := by decide +kernel
theorem dX4_message_14 : decode cX4_message 14 = .ok (.iload_n 3, 1) := by decide +kernel
theorem dX4_message_15 : decode cX4_message 15 = .ok (.iconst 0, 1) := by decide +kernel
theorem dX4_message_16 : decode cX4_message 16 = .ok (.iconst 2, 1) := by decide +kernel
theorem dX4_message_17 : decode cX4_message 17 = .ok (.invokestatic 37, 3) := by decide +kernel
theorem dX4_message_20 : decode cX4_message 20 = .ok (.iload 4, 2) := by decide +kernel
theorem dX4_message_22 : decode cX4_message 22 = .ok (.iconst 0, 1) := by decide +kernel
theorem dX4_message_23 : decode cX4_message 23 = .ok (.iload_n 3, 1) := by decide +kernel
theorem dX4_message_24 : decode cX4_message 24 = .ok (.iconst 1, 1) := by decide +kernel
theorem dX4_message_25 : decode cX4_message 25 = .ok (.if_icmp .ne 7, 3) := by decide +kernel
theorem dX4_message_28 : decode cX4_message 28 = .ok (.iconst 0, 1) := by decide +kernel
theorem dX4_message_29 : decode cX4_message 29 = .ok (.goto 6, 3) := by decide +kernel
theorem dX4_message_32 : decode cX4_message 32 = .ok (.sipush 1439, 3) := by decide +kernel
theorem dX4_message_35 : decode cX4_message 35 = .ok (.invokestatic 37, 3) := by decide +kernel
theorem dX4_message_38 : decode cX4_message 38 = .ok (.aload 5, 2) := by decide +kernel
theorem dX4_message_40 : decode cX4_message 40 = .ok (.getfield 81, 3) := by decide +kernel
theorem dX4_message_43 : decode cX4_message 43 = .ok (.ifCond .ne 12, 3) := by decide +kernel
theorem dX4_message_46 : decode cX4_message 46 = .ok (.iload_n 2, 1) := by decide +kernel
theorem dX4_message_47 : decode cX4_message 47 = .ok (.aload 5, 2) := by decide +kernel
theorem dX4_message_49 : decode cX4_message 49 = .ok (.getfield 105, 3) := by decide +kernel
theorem dX4_message_52 : decode cX4_message 52 = .ok (.if_icmp .gt 5, 3) := by decide +kernel
theorem dX4_message_55 : decode cX4_message 55 = .ok (.iconst 0, 1) := by decide +kernel
theorem dX4_message_56 : decode cX4_message 56 = .ok (.ireturn, 1) := by decide +kernel
theorem dX4_message_57 : decode cX4_message 57 = .ok (.aload 5, 2) := by decide +kernel
theorem dX4_message_59 : decode cX4_message 59 = .ok (.iload_n 2, 1) := by decide +kernel
theorem dX4_message_60 : decode cX4_message 60 = .ok (.putfield 105, 3) := by decide +kernel
theorem dX4_message_63 : decode cX4_message 63 = .ok (.aload 5, 2) := by decide +kernel
theorem dX4_message_65 : decode cX4_message 65 = .ok (.iload_n 3, 1) := by decide +kernel
theorem dX4_message_66 : decode cX4_message 66 = .ok (.iload 4, 2) := by decide +kernel
theorem dX4_message_68 : decode cX4_message 68 = .ok (.invokevirtual 244, 3) := by decide +kernel
theorem dX4_message_71 : decode cX4_message 71 = .ok (.iconst 1, 1) := by decide +kernel
theorem dX4_message_72 : decode cX4_message 72 = .ok (.ireturn, 1) := by decide +kernel
theorem dX4_companyIs_0 : decode cX4_companyIs 0 = .ok (.iload_n 1, 1) := by decide +kernel
theorem dX4_companyIs_1 : decode cX4_companyIs 1 = .ok (.invokestatic 33, 3) := by decide +kernel
theorem dX4_companyIs_4 : decode cX4_companyIs 4 = .ok (.iload_n 2, 1) := by decide +kernel
theorem dX4_companyIs_5 : decode cX4_companyIs 5 = .ok (.iconst 0, 1) := by decide +kernel
theorem dX4_companyIs_6 : decode cX4_companyIs 6 = .ok (.iconst 2, 1) := by decide +kernel
theorem dX4_companyIs_7 : decode cX4_companyIs 7 = .ok (.invokestatic 37, 3) := by decide +kernel
theorem dX4_companyIs_10 : decode cX4_companyIs 10 = .ok (.iconst 0, 1) := by decide +kernel
theorem dX4_companyIs_11 : decode cX4_companyIs 11 = .ok (.istore_n 3, 1) := by decide +kernel
theorem dX4_companyIs_12 : decode cX4_companyIs 12 = .ok (.iconst 0, 1) := by decide +kernel
theorem dX4_companyIs_13 : decode cX4_companyIs 13 = .ok (.istore 4, 2) := by decide +kernel
theorem dX4_companyIs_15 : decode cX4_companyIs 15 = .ok (.iload 4, 2) := by decide +kernel
theorem dX4_companyIs_17 : decode cX4_companyIs 17 = .ok (.aload_n 0, 1) := by decide +kernel
theorem dX4_companyIs_18 : decode cX4_companyIs 18 = .ok (.getfield 10, 3) := by decide +kernel
theorem dX4_companyIs_21 : decode cX4_companyIs 21 = .ok (.invokevirtual 41, 3) := by decide +kernel
theorem dX4_companyIs_24 : decode cX4_companyIs 24 = .ok (.if_icmp .ge 41, 3) := by decide +kernel
theorem dX4_companyIs_27 : decode cX4_companyIs 27 = .ok (.aload_n 0, 1) := by decide +kernel
theorem dX4_companyIs_28 : decode cX4_companyIs 28 = .ok (.getfield 10, 3) := by decide +kernel
theorem dX4_companyIs_31 : decode cX4_companyIs 31 = .ok (.iload 4, 2) := by decide +kernel
theorem dX4_companyIs_33 : decode cX4_companyIs 33 = .ok (.invokevirtual 116, 3) := by decide +kernel
theorem dX4_companyIs_36 : decode cX4_companyIs 36 = .ok (.checkcast 52, 3) := by decide +kernel
theorem dX4_companyIs_39 : decode cX4_companyIs 39 = .ok (.astore 5, 2) := by decide +kernel
theorem dX4_companyIs_41 : decode cX4_companyIs 41 = .ok (.aload 5, 2) := by decide +kernel
theorem dX4_companyIs_43 : decode cX4_companyIs 43 = .ok (.getfield 247, 3) := by decide +kernel
theorem dX4_companyIs_46 : decode cX4_companyIs 46 = .ok (.iload_n 1, 1) := by decide +kernel
theorem dX4_companyIs_47 : decode cX4_companyIs 47 = .ok (.if_icmp .ne 12, 3) := by decide +kernel
theorem dX4_companyIs_50 : decode cX4_companyIs 50 = .ok (.iload_n 3, 1) := by decide +kernel
theorem dX4_companyIs_51 : decode cX4_companyIs 51 = .ok (.aload 5, 2) := by decide +kernel
theorem dX4_companyIs_53 : decode cX4_companyIs 53 = .ok (.iload_n 2, 1) := by decide +kernel
theorem dX4_companyIs_54 : decode cX4_companyIs 54 = .ok (.invokevirtual 250, 3) := by decide +kernel
theorem dX4_companyIs_57 : decode cX4_companyIs 57 = .ok (.iadd, 1) := by decide +kernel
theorem dX4_companyIs_58 : decode cX4_companyIs 58 = .ok (.istore_n 3, 1) := by decide +kernel
theorem dX4_companyIs_59 : decode cX4_companyIs 59 = .ok (.iinc 4 1, 3) := by decide +kernel
theorem dX4_companyIs_62 : decode cX4_companyIs 62 = .ok (.goto (-47), 3) := by decide +kernel
theorem dX4_companyIs_65 : decode cX4_companyIs 65 = .ok (.iload_n 3, 1) := by decide +kernel
theorem dX4_companyIs_66 : decode cX4_companyIs 66 = .ok (.ireturn, 1) := by decide +kernel
theorem dX4_flightAt_0 : decode cX4_flightAt 0 = .ok (.iload_n 1, 1) := by decide +kernel
theorem dX4_flightAt_1 : decode cX4_flightAt 1 = .ok (.ifCond .lt 14, 3) := by decide +kernel
theorem dX4_flightAt_4 : decode cX4_flightAt 4 = .ok (.iload_n 1, 1) := by decide +kernel
theorem dX4_flightAt_5 : decode cX4_flightAt 5 = .ok (.aload_n 0, 1) := by decide +kernel
theorem dX4_flightAt_6 : decode cX4_flightAt 6 = .ok (.getfield 10, 3) := by decide +kernel
theorem dX4_flightAt_9 : decode cX4_flightAt 9 = .ok (.invokevirtual 41, 3) := by decide +kernel
theorem dX4_flightAt_12 : decode cX4_flightAt 12 = .ok (.if_icmp .lt 13, 3) := by decide +kernel
theorem dX4_flightAt_15 : decode cX4_flightAt 15 = .ok (.new 188, 3) := by decide +kernel
theorem dX4_flightAt_18 : decode cX4_flightAt 18 = .ok (.dup, 1) := by decide +kernel
theorem dX4_flightAt_19 : decode cX4_flightAt 19 = .ok (.ldc 253, 2) := by decide +kernel
theorem dX4_flightAt_21 : decode cX4_flightAt 21 = .ok (.invokespecial 192, 3) := by decide +kernel
theorem dX4_flightAt_24 : decode cX4_flightAt 24 = .ok (.athrow, 1) := by decide +kernel
theorem dX4_flightAt_25 : decode cX4_flightAt 25 = .ok (.aload_n 0, 1) := by decide +kernel
theorem dX4_flightAt_26 : decode cX4_flightAt 26 = .ok (.getfield 10, 3) := by decide +kernel
theorem dX4_flightAt_29 : decode cX4_flightAt 29 = .ok (.iload_n 1, 1) := by decide +kernel
theorem dX4_flightAt_30 : decode cX4_flightAt 30 = .ok (.invokevirtual 116, 3) := by decide +kernel
theorem dX4_flightAt_33 : decode cX4_flightAt 33 = .ok (.checkcast 52, 3) := by decide +kernel
theorem dX4_flightAt_36 : decode cX4_flightAt 36 = .ok (.areturn, 1) := by decide +kernel
theorem dX4_regulationAt_0 : decode cX4_regulationAt 0 = .ok (.iload_n 1, 1) := by decide +kernel
theorem dX4_regulationAt_1 : decode cX4_regulationAt 1 = .ok (.ifCond .lt 14, 3) := by decide +kernel
theorem dX4_regulationAt_4 : decode cX4_regulationAt 4 = .ok (.iload_n 1, 1) := by decide +kernel
theorem dX4_regulationAt_5 : decode cX4_regulationAt 5 = .ok (.aload_n 0, 1) := by decide +kernel
theorem dX4_regulationAt_6 : decode cX4_regulationAt 6 = .ok (.getfield 16, 3) := by decide +kernel
theorem dX4_regulationAt_9 : decode cX4_regulationAt 9 = .ok (.invokevirtual 41, 3) := by decide +kernel
theorem dX4_regulationAt_12 : decode cX4_regulationAt 12 = .ok (.if_icmp .lt 13, 3) := by decide +kernel
theorem dX4_regulationAt_15 : decode cX4_regulationAt 15 = .ok (.new 188, 3) := by decide +kernel
theorem dX4_regulationAt_18 : decode cX4_regulationAt 18 = .ok (.dup, 1) := by decide +kernel
theorem dX4_regulationAt_19 : decode cX4_regulationAt 19 = .ok (.ldc 255, 2) := by decide +kernel
theorem dX4_regulationAt_21 : decode cX4_regulationAt 21 = .ok (.invokespecial 192, 3) := by decide +kernel
theorem dX4_regulationAt_24 : decode cX4_regulationAt 24 = .ok (.athrow, 1) := by decide +kernel
theorem dX4_regulationAt_25 : decode cX4_regulationAt 25 = .ok (.aload_n 0, 1) := by decide +kernel
theorem dX4_regulationAt_26 : decode cX4_regulationAt 26 = .ok (.getfield 16, 3) := by decide +kernel
theorem dX4_regulationAt_29 : decode cX4_regulationAt 29 = .ok (.iload_n 1, 1) := by decide +kernel
theorem dX4_regulationAt_30 : decode cX4_regulationAt 30 = .ok (.invokevirtual 116, 3) := by decide +kernel
theorem dX4_regulationAt_33 : decode cX4_regulationAt 33 = .ok (.checkcast 144, 3) := by decide +kernel
theorem dX4_regulationAt_36 : decode cX4_regulationAt 36 = .ok (.areturn, 1) := by decide +kernel
theorem dX4_checkSector_0 : decode cX4_checkSector 0 = .ok (.iload_n 0, 1) := by decide +kernel
theorem dX4_checkSector_1 : decode cX4_checkSector 1 = .ok (.ifCond .lt 9, 3) := by decide +kernel
theorem dX4_checkSector_4 : decode cX4_checkSector 4 = .ok (.iload_n 0, 1) := by decide +kernel
theorem dX4_checkSector_5 : decode cX4_checkSector 5 = .ok (.bipush 6, 2) := by decide +kernel
theorem dX4_checkSector_7 : decode cX4_checkSector 7 = .ok (.if_icmp .lt 14, 3) := by decide +kernel
theorem dX4_checkSector_10 : decode cX4_checkSector 10 = .ok (.new 188, 3) := by decide +kernel
theorem dX4_checkSector_13 : decode cX4_checkSector 13 = .ok (.dup, 1) := by decide +kernel
theorem dX4_checkSector_14 : decode cX4_checkSector 14 = .ok (.ldc_w 257, 3) := by decide +kernel
theorem dX4_checkSector_17 : decode cX4_checkSector 17 = .ok (.invokespecial 192, 3) := by decide +kernel
theorem dX4_checkSector_20 : decode cX4_checkSector 20 = .ok (.athrow, 1) := by decide +kernel
theorem dX4_checkSector_21 : decode cX4_checkSector 21 = .ok (.return_, 1) := by decide +kernel
theorem dX4_checkCompany_0 : decode cX4_checkCompany 0 = .ok (.iload_n 0, 1) := by decide +kernel
theorem dX4_checkCompany_1 : decode cX4_checkCompany 1 = .ok (.ifCond .lt 8, 3) := by decide +kernel
theorem dX4_checkCompany_4 : decode cX4_checkCompany 4 = .ok (.iload_n 0, 1) := by decide +kernel
theorem dX4_checkCompany_5 : decode cX4_checkCompany 5 = .ok (.iconst 4, 1) := by decide +kernel
theorem dX4_checkCompany_6 : decode cX4_checkCompany 6 = .ok (.if_icmp .lt 14, 3) := by decide +kernel
theorem dX4_checkCompany_9 : decode cX4_checkCompany 9 = .ok (.new 188, 3) := by decide +kernel
theorem dX4_checkCompany_12 : decode cX4_checkCompany 12 = .ok (.dup, 1) := by decide +kernel
theorem dX4_checkCompany_13 : decode cX4_checkCompany 13 = .ok (.ldc_w 259, 3) := by decide +kernel
theorem dX4_checkCompany_16 : decode cX4_checkCompany 16 = .ok (.invokespecial 192, 3) := by decide +kernel
theorem dX4_checkCompany_19 : decode cX4_checkCompany 19 = .ok (.athrow, 1) := by decide +kernel
theorem dX4_checkCompany_20 : decode cX4_checkCompany 20 = .ok (.return_, 1) := by decide +kernel
theorem dX4_checkRange_0 : decode cX4_checkRange 0 = .ok (.iload_n 0, 1) := by decide +kernel
theorem dX4_checkRange_1 : decode cX4_checkRange 1 = .ok (.iload_n 1, 1) := by decide +kernel
theorem dX4_checkRange_2 : decode cX4_checkRange 2 = .ok (.if_icmp .lt 8, 3) := by decide +kernel
theorem dX4_checkRange_5 : decode cX4_checkRange 5 = .ok (.iload_n 0, 1) := by decide +kernel
theorem dX4_checkRange_6 : decode cX4_checkRange 6 = .ok (.iload_n 2, 1) := by decide +kernel
theorem dX4_checkRange_7 : decode cX4_checkRange 7 = .ok (.if_icmp .le 14, 3) := by decide +kernel
theorem dX4_checkRange_10 : decode cX4_checkRange 10 = .ok (.new 225, 3) := by decide +kernel
theorem dX4_checkRange_13 : decode cX4_checkRange 13 = .ok (.dup, 1) := by decide +kernel
theorem dX4_checkRange_14 : decode cX4_checkRange 14 = .ok (.ldc_w 261, 3) := by decide +kernel
theorem dX4_checkRange_17 : decode cX4_checkRange 17 = .ok (.invokespecial 229, 3) := by decide +kernel
theorem dX4_checkRange_20 : decode cX4_checkRange 20 = .ok (.athrow, 1) := by decide +kernel
theorem dX4_checkRange_21 : decode cX4_checkRange 21 = .ok (.return_, 1) := by decide +kernel
theorem dX4_checkTerm_0 : decode cX4_checkTerm 0 = .ok (.iload_n 0, 1) := by decide +kernel
theorem dX4_checkTerm_1 : decode cX4_checkTerm 1 = .ok (.iconst 0, 1) := by decide +kernel
theorem dX4_checkTerm_2 : decode cX4_checkTerm 2 = .ok (.sipush 1439, 3) := by decide +kernel
theorem dX4_checkTerm_5 : decode cX4_checkTerm 5 = .ok (.invokestatic 37, 3) := by decide +kernel
theorem dX4_checkTerm_8 : decode cX4_checkTerm 8 = .ok (.iload_n 1, 1) := by decide +kernel
theorem dX4_checkTerm_9 : decode cX4_checkTerm 9 = .ok (.iload_n 0, 1) := by decide +kernel
theorem dX4_checkTerm_10 : decode cX4_checkTerm 10 = .ok (.iconst 1, 1) := by decide +kernel
theorem dX4_checkTerm_11 : decode cX4_checkTerm 11 = .ok (.iadd, 1) := by decide +kernel
theorem dX4_checkTerm_12 : decode cX4_checkTerm 12 = .ok (.sipush 1440, 3) := by decide +kernel
theorem dX4_checkTerm_15 : decode cX4_checkTerm 15 = .ok (.invokestatic 37, 3) := by decide +kernel
theorem dX4_checkTerm_18 : decode cX4_checkTerm 18 = .ok (.iload_n 2, 1) := by decide +kernel
theorem dX4_checkTerm_19 : decode cX4_checkTerm 19 = .ok (.iconst 0, 1) := by decide +kernel
theorem dX4_checkTerm_20 : decode cX4_checkTerm 20 = .ok (.bipush 60, 2) := by decide +kernel
theorem dX4_checkTerm_22 : decode cX4_checkTerm 22 = .ok (.invokestatic 37, 3) := by decide +kernel
theorem dX4_checkTerm_25 : decode cX4_checkTerm 25 = .ok (.return_, 1) := by decide +kernel
theorem dX4_checkNotEnded_0 : decode cX4_checkNotEnded 0 = .ok (.aload_n 0, 1) := by decide +kernel
theorem dX4_checkNotEnded_1 : decode cX4_checkNotEnded 1 = .ok (.getfield 160, 3) := by decide +kernel
theorem dX4_checkNotEnded_4 : decode cX4_checkNotEnded 4 = .ok (.ifCond .eq 14, 3) := by decide +kernel
theorem dX4_checkNotEnded_7 : decode cX4_checkNotEnded 7 = .ok (.new 45, 3) := by decide +kernel
theorem dX4_checkNotEnded_10 : decode cX4_checkNotEnded 10 = .ok (.dup, 1) := by decide +kernel
theorem dX4_checkNotEnded_11 : decode cX4_checkNotEnded 11 = .ok (.ldc_w 263, 3) := by decide +kernel
theorem dX4_checkNotEnded_14 : decode cX4_checkNotEnded 14 = .ok (.invokespecial 49, 3) := by decide +kernel
theorem dX4_checkNotEnded_17 : decode cX4_checkNotEnded 17 = .ok (.athrow, 1) := by decide +kernel
theorem dX4_checkNotEnded_18 : decode cX4_checkNotEnded 18 = .ok (.return_, 1) := by decide +kernel
theorem dX4_loadOf_0 : decode cX4_loadOf 0 = .ok (.iconst 0, 1) := by decide +kernel
theorem dX4_loadOf_1 : decode cX4_loadOf 1 = .ok (.istore 4, 2) := by decide +kernel
theorem dX4_loadOf_3 : decode cX4_loadOf 3 = .ok (.iconst 0, 1) := by decide +kernel
theorem dX4_loadOf_4 : decode cX4_loadOf 4 = .ok (.istore 5, 2) := by decide +kernel
theorem dX4_loadOf_6 : decode cX4_loadOf 6 = .ok (.iload 5, 2) := by decide +kernel
theorem dX4_loadOf_8 : decode cX4_loadOf 8 = .ok (.aload_n 0, 1) := by decide +kernel
theorem dX4_loadOf_9 : decode cX4_loadOf 9 = .ok (.getfield 10, 3) := by decide +kernel
theorem dX4_loadOf_12 : decode cX4_loadOf 12 = .ok (.invokevirtual 41, 3) := by decide +kernel
theorem dX4_loadOf_15 : decode cX4_loadOf 15 = .ok (.if_icmp .ge 57, 3) := by decide +kernel
theorem dX4_loadOf_18 : decode cX4_loadOf 18 = .ok (.aload_n 0, 1) := by decide +kernel
theorem dX4_loadOf_19 : decode cX4_loadOf 19 = .ok (.getfield 10, 3) := by decide +kernel
theorem dX4_loadOf_22 : decode cX4_loadOf 22 = .ok (.iload 5, 2) := by decide +kernel
theorem dX4_loadOf_24 : decode cX4_loadOf 24 = .ok (.invokevirtual 116, 3) := by decide +kernel
theorem dX4_loadOf_27 : decode cX4_loadOf 27 = .ok (.checkcast 52, 3) := by decide +kernel
theorem dX4_loadOf_30 : decode cX4_loadOf 30 = .ok (.astore 6, 2) := by decide +kernel
theorem dX4_loadOf_32 : decode cX4_loadOf 32 = .ok (.aload 6, 2) := by decide +kernel
theorem dX4_loadOf_34 : decode cX4_loadOf 34 = .ok (.iload_n 1, 1) := by decide +kernel
theorem dX4_loadOf_35 : decode cX4_loadOf 35 = .ok (.invokevirtual 108, 3) := by decide +kernel
theorem dX4_loadOf_38 : decode cX4_loadOf 38 = .ok (.istore 7, 2) := by decide +kernel
theorem dX4_loadOf_40 : decode cX4_loadOf 40 = .ok (.aload 6, 2) := by decide +kernel
theorem dX4_loadOf_42 : decode cX4_loadOf 42 = .ok (.iload_n 1, 1) := by decide +kernel
theorem dX4_loadOf_43 : decode cX4_loadOf 43 = .ok (.invokevirtual 135, 3) := by decide +kernel
theorem dX4_loadOf_46 : decode cX4_loadOf 46 = .ok (.ifCond .eq 20, 3) := by decide +kernel
theorem dX4_loadOf_49 : decode cX4_loadOf 49 = .ok (.iload 7, 2) := by decide +kernel
theorem dX4_loadOf_51 : decode cX4_loadOf 51 = .ok (.iload_n 2, 1) := by decide +kernel
theorem dX4_loadOf_52 : decode cX4_loadOf 52 = .ok (.if_icmp .lt 14, 3) := by decide +kernel
theorem dX4_loadOf_55 : decode cX4_loadOf 55 = .ok (.iload 7, 2) := by decide +kernel
theorem dX4_loadOf_57 : decode cX4_loadOf 57 = .ok (.iload_n 2, 1) := by decide +kernel
theorem dX4_loadOf_58 : decode cX4_loadOf 58 = .ok (.iload_n 3, 1) := by decide +kernel
theorem dX4_loadOf_59 : decode cX4_loadOf 59 = .ok (.iadd, 1) := by decide +kernel
theorem dX4_loadOf_60 : decode cX4_loadOf 60 = .ok (.if_icmp .ge 6, 3) := by decide +kernel
theorem dX4_loadOf_63 : decode cX4_loadOf 63 = .ok (.iinc 4 1, 3) := by decide +kernel
theorem dX4_loadOf_66 : decode cX4_loadOf 66 = .ok (.iinc 5 1, 3) := by decide +kernel
theorem dX4_loadOf_69 : decode cX4_loadOf 69 = .ok (.goto (-63), 3) := by decide +kernel
theorem dX4_loadOf_72 : decode cX4_loadOf 72 = .ok (.iload 4, 2) := by decide +kernel
theorem dX4_loadOf_74 : decode cX4_loadOf 74 = .ok (.ireturn, 1) := by decide +kernel
theorem dX4_lineUpEntering_0 : decode cX4_lineUpEntering 0 = .ok (.aload_n 0, 1) := by decide +kernel
theorem dX4_lineUpEntering_1 : decode cX4_lineUpEntering 1 = .ok (.getfield 29, 3) := by decide +kernel
theorem dX4_lineUpEntering_4 : decode cX4_lineUpEntering 4 = .ok (.invokevirtual 265, 3) := by decide +kernel
theorem dX4_lineUpEntering_7 : decode cX4_lineUpEntering 7 = .ok (.iconst 0, 1) := by decide +kernel
theorem dX4_lineUpEntering_8 : decode cX4_lineUpEntering 8 = .ok (.istore_n 2, 1) := by decide +kernel
theorem dX4_lineUpEntering_9 : decode cX4_lineUpEntering 9 = .ok (.iload_n 2, 1) := by decide +kernel
theorem dX4_lineUpEntering_10 : decode cX4_lineUpEntering 10 = .ok (.aload_n 0, 1) := by decide +kernel
theorem dX4_lineUpEntering_11 : decode cX4_lineUpEntering 11 = .ok (.getfield 10, 3) := by decide +kernel
theorem dX4_lineUpEntering_14 : decode cX4_lineUpEntering 14 = .ok (.invokevirtual 41, 3) := by decide +kernel
theorem dX4_lineUpEntering_17 : decode cX4_lineUpEntering 17 = .ok (.if_icmp .ge 42, 3) := by decide +kernel
theorem dX4_lineUpEntering_20 : decode cX4_lineUpEntering 20 = .ok (.aload_n 0, 1) := by decide +kernel
theorem dX4_lineUpEntering_21 : decode cX4_lineUpEntering 21 = .ok (.getfield 10, 3) := by decide +kernel
theorem dX4_lineUpEntering_24 : decode cX4_lineUpEntering 24 = .ok (.iload_n 2, 1) := by decide +kernel
theorem dX4_lineUpEntering_25 : decode cX4_lineUpEntering 25 = .ok (.invokevirtual 116, 3) := by decide +kernel
theorem dX4_lineUpEntering_28 : decode cX4_lineUpEntering 28 = .ok (.checkcast 52, 3) := by decide +kernel
theorem dX4_lineUpEntering_31 : decode cX4_lineUpEntering 31 = .ok (.astore_n 3, 1) := by decide +kernel
theorem dX4_lineUpEntering_32 : decode cX4_lineUpEntering 32 = .ok (.aload_n 3, 1) := by decide +kernel
theorem dX4_lineUpEntering_33 : decode cX4_lineUpEntering 33 = .ok (.iload_n 1, 1) := by decide +kernel
theorem dX4_lineUpEntering_34 : decode cX4_lineUpEntering 34 = .ok (.invokevirtual 135, 3) := by decide +kernel
theorem dX4_lineUpEntering_37 : decode cX4_lineUpEntering 37 = .ok (.ifCond .eq 16, 3) := by decide +kernel
theorem dX4_lineUpEntering_40 : decode cX4_lineUpEntering 40 = .ok (.aload_n 0, 1) := by decide +kernel
theorem dX4_lineUpEntering_41 : decode cX4_lineUpEntering 41 = .ok (.getfield 29, 3) := by decide +kernel
theorem dX4_lineUpEntering_44 : decode cX4_lineUpEntering 44 = .ok (.iload_n 2, 1) := by decide +kernel
theorem dX4_lineUpEntering_45 : decode cX4_lineUpEntering 45 = .ok (.aload_n 3, 1) := by decide +kernel
theorem dX4_lineUpEntering_46 : decode cX4_lineUpEntering 46 = .ok (.iload_n 1, 1) := by decide +kernel
theorem dX4_lineUpEntering_47 : decode cX4_lineUpEntering 47 = .ok (.invokevirtual 108, 3) := by decide +kernel
theorem dX4_lineUpEntering_50 : decode cX4_lineUpEntering 50 = .ok (.invokevirtual 268, 3) := by decide +kernel
theorem dX4_lineUpEntering_53 : decode cX4_lineUpEntering 53 = .ok (.iinc 2 1, 3) := by decide +kernel
theorem dX4_lineUpEntering_56 : decode cX4_lineUpEntering 56 = .ok (.goto (-47), 3) := by decide +kernel
theorem dX4_lineUpEntering_59 : decode cX4_lineUpEntering 59 = .ok (.return_, 1) := by decide +kernel
theorem dX4_reckonDues_0 : decode cX4_reckonDues 0 = .ok (.iconst 0, 1) := by decide +kernel
theorem dX4_reckonDues_1 : decode cX4_reckonDues 1 = .ok (.istore_n 1, 1) := by decide +kernel
theorem dX4_reckonDues_2 : decode cX4_reckonDues 2 = .ok (.iload_n 1, 1) := by decide +kernel
theorem dX4_reckonDues_3 : decode cX4_reckonDues 3 = .ok (.aload_n 0, 1) := by decide +kernel
theorem dX4_reckonDues_4 : decode cX4_reckonDues 4 = .ok (.getfield 10, 3) := by decide +kernel
theorem dX4_reckonDues_7 : decode cX4_reckonDues 7 = .ok (.invokevirtual 41, 3) := by decide +kernel
theorem dX4_reckonDues_10 : decode cX4_reckonDues 10 = .ok (.if_icmp .ge 23, 3) := by decide +kernel
theorem dX4_reckonDues_13 : decode cX4_reckonDues 13 = .ok (.aload_n 0, 1) := by decide +kernel
theorem dX4_reckonDues_14 : decode cX4_reckonDues 14 = .ok (.getfield 10, 3) := by decide +kernel
theorem dX4_reckonDues_17 : decode cX4_reckonDues 17 = .ok (.iload_n 1, 1) := by decide +kernel
theorem dX4_reckonDues_18 : decode cX4_reckonDues 18 = .ok (.invokevirtual 116, 3) := by decide +kernel
theorem dX4_reckonDues_21 : decode cX4_reckonDues 21 = .ok (.checkcast 52, 3) := by decide +kernel
theorem dX4_reckonDues_24 : decode cX4_reckonDues 24 = .ok (.invokevirtual 270, 3) := by decide +kernel
theorem dX4_reckonDues_27 : decode cX4_reckonDues 27 = .ok (.iinc 1 1, 3) := by decide +kernel
theorem dX4_reckonDues_30 : decode cX4_reckonDues 30 = .ok (.goto (-28), 3) := by decide +kernel
theorem dX4_reckonDues_33 : decode cX4_reckonDues 33 = .ok (.iconst 0, 1) := by decide +kernel
theorem dX4_reckonDues_34 : decode cX4_reckonDues 34 = .ok (.istore_n 1, 1) := by decide +kernel
theorem dX4_reckonDues_35 : decode cX4_reckonDues 35 = .ok (.iload_n 1, 1) := by decide +kernel
theorem dX4_reckonDues_36 : decode cX4_reckonDues 36 = .ok (.aload_n 0, 1) := by decide +kernel
theorem dX4_reckonDues_37 : decode cX4_reckonDues 37 = .ok (.getfield 16, 3) := by decide +kernel
theorem dX4_reckonDues_40 : decode cX4_reckonDues 40 = .ok (.invokevirtual 41, 3) := by decide +kernel
theorem dX4_reckonDues_43 : decode cX4_reckonDues 43 = .ok (.if_icmp .ge 25, 3) := by decide +kernel
theorem dX4_reckonDues_46 : decode cX4_reckonDues 46 = .ok (.aload_n 0, 1) := by decide +kernel
theorem dX4_reckonDues_47 : decode cX4_reckonDues 47 = .ok (.aload_n 0, 1) := by decide +kernel
theorem dX4_reckonDues_48 : decode cX4_reckonDues 48 = .ok (.getfield 16, 3) := by decide +kernel
theorem dX4_reckonDues_51 : decode cX4_reckonDues 51 = .ok (.iload_n 1, 1) := by decide +kernel
theorem dX4_reckonDues_52 : decode cX4_reckonDues 52 = .ok (.invokevirtual 116, 3) := by decide +kernel
theorem dX4_reckonDues_55 : decode cX4_reckonDues 55 = .ok (.checkcast 144, 3) := by decide +kernel
theorem dX4_reckonDues_58 : decode cX4_reckonDues 58 = .ok (.iload_n 1, 1) := by decide +kernel
theorem dX4_reckonDues_59 : decode cX4_reckonDues 59 = .ok (.invokevirtual 214, 3) := by decide +kernel
theorem dX4_reckonDues_62 : decode cX4_reckonDues 62 = .ok (.iinc 1 1, 3) := by decide +kernel
theorem dX4_reckonDues_65 : decode cX4_reckonDues 65 = .ok (.goto (-30), 3) := by decide +kernel
theorem dX4_reckonDues_68 : decode cX4_reckonDues 68 = .ok (.return_, 1) := by decide +kernel
theorem dX4_reckonPenalties_0 : decode cX4_reckonPenalties 0 = .ok (.aload_n 0, 1) := by decide +kernel
theorem dX4_reckonPenalties_1 : decode cX4_reckonPenalties 1 = .ok (.getfield 22, 3) := by decide +kernel
theorem dX4_reckonPenalties_4 : decode cX4_reckonPenalties 4 = .ok (.aload_n 1, 1) := by decide +kernel
theorem dX4_reckonPenalties_5 : decode cX4_reckonPenalties 5 = .ok (.aload_n 0, 1) := by decide +kernel
theorem dX4_reckonPenalties_6 : decode cX4_reckonPenalties 6 = .ok (.getfield 10, 3) := by decide +kernel
theorem dX4_reckonPenalties_9 : decode cX4_reckonPenalties 9 = .ok (.invokevirtual 163, 3) := by decide +kernel
theorem dX4_reckonPenalties_12 : decode cX4_reckonPenalties 12 = .ok (.iconst 0, 1) := by decide +kernel
theorem dX4_reckonPenalties_13 : decode cX4_reckonPenalties 13 = .ok (.istore_n 3, 1) := by decide +kernel
theorem dX4_reckonPenalties_14 : decode cX4_reckonPenalties 14 = .ok (.iload_n 3, 1) := by decide +kernel
theorem dX4_reckonPenalties_15 : decode cX4_reckonPenalties 15 = .ok (.aload_n 0, 1) := by decide +kernel
theorem dX4_reckonPenalties_16 : decode cX4_reckonPenalties 16 = .ok (.getfield 10, 3) := by decide +kernel
theorem dX4_reckonPenalties_19 : decode cX4_reckonPenalties 19 = .ok (.invokevirtual 41, 3) := by decide +kernel
theorem dX4_reckonPenalties_22 : decode cX4_reckonPenalties 22 = .ok (.if_icmp .ge 35, 3) := by decide +kernel
theorem dX4_reckonPenalties_25 : decode cX4_reckonPenalties 25 = .ok (.aload_n 0, 1) := by decide +kernel
theorem dX4_reckonPenalties_26 : decode cX4_reckonPenalties 26 = .ok (.getfield 10, 3) := by decide +kernel
theorem dX4_reckonPenalties_29 : decode cX4_reckonPenalties 29 = .ok (.iload_n 3, 1) := by decide +kernel
theorem dX4_reckonPenalties_30 : decode cX4_reckonPenalties 30 = .ok (.invokevirtual 116, 3) := by decide +kernel
theorem dX4_reckonPenalties_33 : decode cX4_reckonPenalties 33 = .ok (.checkcast 52, 3) := by decide +kernel
theorem dX4_reckonPenalties_36 : decode cX4_reckonPenalties 36 = .ok (.aload_n 0, 1) := by decide +kernel
theorem dX4_reckonPenalties_37 : decode cX4_reckonPenalties 37 = .ok (.getfield 22, 3) := by decide +kernel
theorem dX4_reckonPenalties_40 : decode cX4_reckonPenalties 40 = .ok (.getfield 179, 3) := by decide +kernel
theorem dX4_reckonPenalties_43 : decode cX4_reckonPenalties 43 = .ok (.iload_n 3, 1) := by decide +kernel
theorem dX4_reckonPenalties_44 : decode cX4_reckonPenalties 44 = .ok (.invokevirtual 198, 3) := by decide +kernel
theorem dX4_reckonPenalties_47 : decode cX4_reckonPenalties 47 = .ok (.iload_n 2, 1) := by decide +kernel
theorem dX4_reckonPenalties_48 : decode cX4_reckonPenalties 48 = .ok (.invokevirtual 273, 3) := by decide +kernel
theorem dX4_reckonPenalties_51 : decode cX4_reckonPenalties 51 = .ok (.iinc 3 1, 3) := by decide +kernel
theorem dX4_reckonPenalties_54 : decode cX4_reckonPenalties 54 = .ok (.goto (-40), 3) := by decide +kernel
theorem dX4_reckonPenalties_57 : decode cX4_reckonPenalties 57 = .ok (.return_, 1) := by decide +kernel
theorem dX4_sumOfDues_0 : decode cX4_sumOfDues 0 = .ok (.iconst 0, 1) := by decide +kernel
theorem dX4_sumOfDues_1 : decode cX4_sumOfDues 1 = .ok (.istore_n 1, 1) := by decide +kernel
theorem dX4_sumOfDues_2 : decode cX4_sumOfDues 2 = .ok (.iconst 0, 1) := by decide +kernel
theorem dX4_sumOfDues_3 : decode cX4_sumOfDues 3 = .ok (.istore_n 2, 1) := by decide +kernel
theorem dX4_sumOfDues_4 : decode cX4_sumOfDues 4 = .ok (.iload_n 2, 1) := by decide +kernel
theorem dX4_sumOfDues_5 : decode cX4_sumOfDues 5 = .ok (.aload_n 0, 1) := by decide +kernel
theorem dX4_sumOfDues_6 : decode cX4_sumOfDues 6 = .ok (.getfield 10, 3) := by decide +kernel
theorem dX4_sumOfDues_9 : decode cX4_sumOfDues 9 = .ok (.invokevirtual 41, 3) := by decide +kernel
theorem dX4_sumOfDues_12 : decode cX4_sumOfDues 12 = .ok (.if_icmp .ge 26, 3) := by decide +kernel
theorem dX4_sumOfDues_15 : decode cX4_sumOfDues 15 = .ok (.iload_n 1, 1) := by decide +kernel
theorem dX4_sumOfDues_16 : decode cX4_sumOfDues 16 = .ok (.aload_n 0, 1) := by decide +kernel
theorem dX4_sumOfDues_17 : decode cX4_sumOfDues 17 = .ok (.getfield 10, 3) := by decide +kernel
theorem dX4_sumOfDues_20 : decode cX4_sumOfDues 20 = .ok (.iload_n 2, 1) := by decide +kernel
theorem dX4_sumOfDues_21 : decode cX4_sumOfDues 21 = .ok (.invokevirtual 116, 3) := by decide +kernel
theorem dX4_sumOfDues_24 : decode cX4_sumOfDues 24 = .ok (.checkcast 52, 3) := by decide +kernel
theorem dX4_sumOfDues_27 : decode cX4_sumOfDues 27 = .ok (.getfield 204, 3) := by decide +kernel
theorem dX4_sumOfDues_30 : decode cX4_sumOfDues 30 = .ok (.iadd, 1) := by decide +kernel
theorem dX4_sumOfDues_31 : decode cX4_sumOfDues 31 = .ok (.istore_n 1, 1) := by decide +kernel
theorem dX4_sumOfDues_32 : decode cX4_sumOfDues 32 = .ok (.iinc 2 1, 3) := by decide +kernel
theorem dX4_sumOfDues_35 : decode cX4_sumOfDues 35 = .ok (.goto (-31), 3) := by decide +kernel
theorem dX4_sumOfDues_38 : decode cX4_sumOfDues 38 = .ok (.iload_n 1, 1) := by decide +kernel
theorem dX4_sumOfDues_39 : decode cX4_sumOfDues 39 = .ok (.ireturn, 1) := by decide +kernel
theorem dX4_chargedToRegulation_0 : decode cX4_chargedToRegulation 0 = .ok (.iconst 0, 1) := by decide +kernel
theorem dX4_chargedToRegulation_1 : decode cX4_chargedToRegulation 1 = .ok (.istore_n 2, 1) := by decide +kernel
theorem dX4_chargedToRegulation_2 : decode cX4_chargedToRegulation 2 = .ok (.iconst 0, 1) := by decide +kernel
theorem dX4_chargedToRegulation_3 : decode cX4_chargedToRegulation 3 = .ok (.istore_n 3, 1) := by decide +kernel
theorem dX4_chargedToRegulation_4 : decode cX4_chargedToRegulation 4 = .ok (.iload_n 3, 1) := by decide +kernel
theorem dX4_chargedToRegulation_5 : decode cX4_chargedToRegulation 5 = .ok (.aload_n 0, 1) := by decide +kernel
theorem dX4_chargedToRegulation_6 : decode cX4_chargedToRegulation 6 = .ok (.getfield 10, 3) := by decide +kernel
theorem dX4_chargedToRegulation_9 : decode cX4_chargedToRegulation 9 = .ok (.invokevirtual 41, 3) := by decide +kernel
theorem dX4_chargedToRegulation_12 : decode cX4_chargedToRegulation 12 = .ok (.if_icmp .ge 39, 3) := by decide +kernel
theorem dX4_chargedToRegulation_15 : decode cX4_chargedToRegulation 15 = .ok (.aload_n 0, 1) := by decide +kernel
theorem dX4_chargedToRegulation_16 : decode cX4_chargedToRegulation 16 = .ok (.getfield 10, 3) := by decide +kernel
theorem dX4_chargedToRegulation_19 : decode cX4_chargedToRegulation 19 = .ok (.iload_n 3, 1) := by decide +kernel
theorem dX4_chargedToRegulation_20 : decode cX4_chargedToRegulation 20 = .ok (.invokevirtual 116, 3) := by decide +kernel
theorem dX4_chargedToRegulation_23 : decode cX4_chargedToRegulation 23 = .ok (.checkcast 52, 3) := by decide +kernel
theorem dX4_chargedToRegulation_26 : decode cX4_chargedToRegulation 26 = .ok (.astore 4, 2) := by decide +kernel
theorem dX4_chargedToRegulation_28 : decode cX4_chargedToRegulation 28 = .ok (.aload 4, 2) := by decide +kernel
theorem dX4_chargedToRegulation_30 : decode cX4_chargedToRegulation 30 = .ok (.getfield 99, 3) := by decide +kernel
theorem dX4_chargedToRegulation_33 : decode cX4_chargedToRegulation 33 = .ok (.iload_n 1, 1) := by decide +kernel
theorem dX4_chargedToRegulation_34 : decode cX4_chargedToRegulation 34 = .ok (.if_icmp .ne 11, 3) := by decide +kernel
theorem dX4_chargedToRegulation_37 : decode cX4_chargedToRegulation 37 = .ok (.iload_n 2, 1) := by decide +kernel
theorem dX4_chargedToRegulation_38 : decode cX4_chargedToRegulation 38 = .ok (.aload 4, 2) := by decide +kernel
theorem dX4_chargedToRegulation_40 : decode cX4_chargedToRegulation 40 = .ok (.invokevirtual 276, 3) := by decide +kernel
theorem dX4_chargedToRegulation_43 : decode cX4_chargedToRegulation 43 = .ok (.iadd, 1) := by decide +kernel
theorem dX4_chargedToRegulation_44 : decode cX4_chargedToRegulation 44 = .ok (.istore_n 2, 1) := by decide +kernel
theorem dX4_chargedToRegulation_45 : decode cX4_chargedToRegulation 45 = .ok (.iinc 3 1, 3) := by decide +kernel
theorem dX4_chargedToRegulation_48 : decode cX4_chargedToRegulation 48 = .ok (.goto (-44), 3) := by decide +kernel
theorem dX4_chargedToRegulation_51 : decode cX4_chargedToRegulation 51 = .ok (.iload_n 2, 1) := by decide +kernel
theorem dX4_chargedToRegulation_52 : decode cX4_chargedToRegulation 52 = .ok (.ireturn, 1) := by decide +kernel
theorem dX5_init_0 : decode cX5_init 0 = .ok (.aload_n 0, 1) := by decide +kernel
theorem dX5_init_1 : decode cX5_init 1 = .ok (.invokespecial 1, 3) := by decide +kernel
theorem dX5_init_4 : decode cX5_init 4 = .ok (.aload_n 0, 1) := by decide +kernel
theorem dX5_init_5 : decode cX5_init 5 = .ok (.bipush 24, 2) := by decide +kernel
theorem dX5_init_7 : decode cX5_init 7 = .ok (.newarray .int, 2) := by decide +kernel
theorem dX5_init_9 : decode cX5_init 9 = .ok (.putfield 7, 3) := by decide +kernel
theorem dX5_init_12 : decode cX5_init 12 = .ok (.aload_n 0, 1) := by decide +kernel
theorem dX5_init_13 : decode cX5_init 13 = .ok (.bipush 24, 2) := by decide +kernel
theorem dX5_init_15 : decode cX5_init 15 = .ok (.newarray .int, 2) := by decide +kernel
theorem dX5_init_17 : decode cX5_init 17 = .ok (.putfield 13, 3) := by decide +kernel
theorem dX5_init_20 : decode cX5_init 20 = .ok (.aload_n 0, 1) := by decide +kernel
theorem dX5_init_21 : decode cX5_init 21 = .ok (.bipush 24, 2) := by decide +kernel
theorem dX5_init_23 : decode cX5_init 23 = .ok (.newarray .int, 2) := by decide +kernel
theorem dX5_init_25 : decode cX5_init 25 = .ok (.putfield 16, 3) := by decide +kernel
theorem dX5_init_28 : decode cX5_init 28 = .ok (.aload_n 0, 1) := by decide +kernel
theorem dX5_init_29 : decode cX5_init 29 = .ok (.bipush 24, 2) := by decide +kernel
theorem dX5_init_31 : decode cX5_init 31 = .ok (.newarray .int, 2) := by decide +kernel
theorem dX5_init_33 : decode cX5_init 33 = .ok (.putfield 19, 3) := by decide +kernel
theorem dX5_init_36 : decode cX5_init 36 = .ok (.aload_n 0, 1) := by decide +kernel
theorem dX5_init_37 : decode cX5_init 37 = .ok (.bipush 24, 2) := by decide +kernel
theorem dX5_init_39 : decode cX5_init 39 = .ok (.newarray .int, 2) := by decide +kernel
theorem dX5_init_41 : decode cX5_init 41 = .ok (.putfield 22, 3) := by decide +kernel
theorem dX5_init_44 : decode cX5_init 44 = .ok (.aload_n 0, 1) := by decide +kernel
theorem dX5_init_45 : decode cX5_init 45 = .ok (.bipush 24, 2) := by decide +kernel
theorem dX5_init_47 : decode cX5_init 47 = .ok (.newarray .int, 2) := by decide +kernel
theorem dX5_init_49 : decode cX5_init 49 = .ok (.putfield 25, 3) := by decide +kernel
theorem dX5_init_52 : decode cX5_init 52 = .ok (.aload_n 0, 1) := by decide +kernel
theorem dX5_init_53 : decode cX5_init 53 = .ok (.bipush 24, 2) := by decide +kernel
theorem dX5_init_55 : decode cX5_init 55 = .ok (.newarray .int, 2) := by decide +kernel
theorem dX5_init_57 : decode cX5_init 57 = .ok (.putfield 28, 3) := by decide +kernel
theorem dX5_init_60 : decode cX5_init 60 = .ok (.aload_n 0, 1) := by decide +kernel
theorem dX5_init_61 : decode cX5_init 61 = .ok (.bipush 24, 2) := by decide +kernel
theorem dX5_init_63 : decode cX5_init 63 = .ok (.newarray .int, 2) := by decide +kernel
theorem dX5_init_65 : decode cX5_init 65 = .ok (.putfield 31, 3) := by decide +kernel
theorem dX5_init_68 : decode cX5_init 68 = .ok (.aload_n 0, 1) := by decide +kernel
theorem dX5_init_69 : decode cX5_init 69 = .ok (.bipush 24, 2) := by decide +kernel
theorem dX5_init_71 : decode cX5_init 71 = .ok (.newarray .int, 2) := by decide +kernel
theorem dX5_init_73 : decode cX5_init 73 = .ok (.putfield 34, 3) := by decide +kernel
theorem dX5_init_76 : decode cX5_init 76 = .ok (.aload_n 0, 1) := by decide +kernel
theorem dX5_init_77 : decode cX5_init 77 = .ok (.bipush 24, 2) := by decide +kernel
theorem dX5_init_79 : decode cX5_init 79 = .ok (.newarray .boolean, 2) := by decide +kernel
theorem dX5_init_81 : decode cX5_init 81 = .ok (.putfield 37, 3) := by decide +kernel
theorem dX5_init_84 : decode cX5_init 84 = .ok (.aload_n 0, 1) := by decide +kernel
theorem dX5_init_85 : decode cX5_init 85 = .ok (.sipush 144, 3) := by decide +kernel
theorem dX5_init_88 : decode cX5_init 88 = .ok (.newarray .int, 2) := by decide +kernel
theorem dX5_init_90 : decode cX5_init 90 = .ok (.putfield 41, 3) := by decide +kernel
theorem dX5_init_93 : decode cX5_init 93 = .ok (.aload_n 0, 1) := by decide +kernel
theorem dX5_init_94 : decode cX5_init 94 = .ok (.sipush 144, 3) := by decide +kernel
theorem dX5_init_97 : decode cX5_init 97 = .ok (.newarray .int, 2) := by decide +kernel
theorem dX5_init_99 : decode cX5_init 99 = .ok (.putfield 44, 3) := by decide +kernel
theorem dX5_init_102 : decode cX5_init 102 = .ok (.aload_n 0, 1) := by decide +kernel
theorem dX5_init_103 : decode cX5_init 103 = .ok (.bipush 7, 2) := by decide +kernel
theorem dX5_init_105 : decode cX5_init 105 = .ok (.newarray .int, 2) := by decide +kernel
theorem dX5_init_107 : decode cX5_init 107 = .ok (.putfield 47, 3) := by decide +kernel
theorem dX5_init_110 : decode cX5_init 110 = .ok (.aload_n 0, 1) := by decide +kernel
theorem dX5_init_111 : decode cX5_init 111 = .ok (.bipush 7, 2) := by decide +kernel
theorem dX5_init_113 : decode cX5_init 113 = .ok (.newarray .int, 2) := by decide +kernel
theorem dX5_init_115 : decode cX5_init 115 = .ok (.putfield 50, 3) := by decide +kernel
theorem dX5_init_118 : decode cX5_init 118 = .ok (.aload_n 0, 1) := by decide +kernel
theorem dX5_init_119 : decode cX5_init 119 = .ok (.bipush 7, 2) := by decide +kernel
theorem dX5_init_121 : decode cX5_init 121 = .ok (.newarray .int, 2) := by decide +kernel
theorem dX5_init_123 : decode cX5_init 123 = .ok (.putfield 53, 3) := by decide +kernel
theorem dX5_init_126 : decode cX5_init 126 = .ok (.aload_n 0, 1) := by decide +kernel
theorem dX5_init_127 : decode cX5_init 127 = .ok (.bipush 7, 2) := by decide +kernel
theorem dX5_init_129 : decode cX5_init 129 = .ok (.newarray .int, 2) := by decide +kernel
theorem dX5_init_131 : decode cX5_init 131 = .ok (.putfield 56, 3) := by decide +kernel
theorem dX5_init_134 : decode cX5_init 134 = .ok (.aload_n 0, 1) := by decide +kernel
theorem dX5_init_135 : decode cX5_init 135 = .ok (.bipush 7, 2) := by decide +kernel
theorem dX5_init_137 : decode cX5_init 137 = .ok (.newarray .int, 2) := by decide +kernel
theorem dX5_init_139 : decode cX5_init 139 = .ok (.putfield 59, 3) := by decide +kernel
end
section
/-! decode rows -/
theorem dX5_init_142 : decode cX5_init 142 = .ok (.aload_n 0, 1) := by decide +kernel
theorem dX5_init_143 : decode cX5_init 143 = .ok (.bipush 7, 2) := by decide +kernel
theorem dX5_init_145 : decode cX5_init 145 = .ok (.newarray .boolean, 2) := by decide +kernel
theorem dX5_init_147 : decode cX5_init 147 = .ok (.putfield 62, 3) := by decide +kernel
theorem dX5_init_150 : decode cX5_init 150 = .ok (.aload_n 0, 1) := by decide +kernel
theorem dX5_init_151 : decode cX5_init 151 = .ok (.iconst 4, 1) := by decide +kernel
theorem dX5_init_152 : decode cX5_init 152 = .ok (.newarray .int, 2) := by decide +kernel
theorem dX5_init_154 : decode cX5_init 154 = .ok (.putfield 65, 3) := by decide +kernel
theorem dX5_init_157 : decode cX5_init 157 = .ok (.aload_n 0, 1) := by decide +kernel
theorem dX5_init_158 : decode cX5_init 158 = .ok (.iconst 4, 1) := by decide +kernel
theorem dX5_init_159 : decode cX5_init 159 = .ok (.newarray .int, 2) := by decide +kernel
theorem dX5_init_161 : decode cX5_init 161 = .ok (.putfield 68, 3) := by decide +kernel
theorem dX5_init_164 : decode cX5_init 164 = .ok (.aload_n 0, 1) := by decide +kernel
theorem dX5_init_165 : decode cX5_init 165 = .ok (.sipush 1441, 3) := by decide +kernel
theorem dX5_init_168 : decode cX5_init 168 = .ok (.newarray .boolean, 2) := by decide +kernel
theorem dX5_init_170 : decode cX5_init 170 = .ok (.putfield 71, 3) := by decide +kernel
theorem dX5_init_173 : decode cX5_init 173 = .ok (.aload_n 0, 1) := by decide +kernel
theorem dX5_init_174 : decode cX5_init 174 = .ok (.sipush 168, 3) := by decide +kernel
theorem dX5_init_177 : decode cX5_init 177 = .ok (.newarray .int, 2) := by decide +kernel
theorem dX5_init_179 : decode cX5_init 179 = .ok (.putfield 74, 3) := by decide +kernel
theorem dX5_init_182 : decode cX5_init 182 = .ok (.return_, 1) := by decide +kernel
theorem dX5_thrown_0 : decode cX5_thrown 0 = .ok (.aload_n 0, 1) := by decide +kernel
theorem dX5_thrown_1 : decode cX5_thrown 1 = .ok (.getfield 77, 3) := by decide +kernel
theorem dX5_thrown_4 : decode cX5_thrown 4 = .ok (.ireturn, 1) := by decide +kernel
theorem dX5_holds_0 : decode cX5_holds 0 = .ok (.aload_n 0, 1) := by decide +kernel
theorem dX5_holds_1 : decode cX5_holds 1 = .ok (.iload_n 1, 1) := by decide +kernel
theorem dX5_holds_2 : decode cX5_holds 2 = .ok (.putfield 77, 3) := by decide +kernel
theorem dX5_holds_5 : decode cX5_holds 5 = .ok (.iload_n 1, 1) := by decide +kernel
theorem dX5_holds_6 : decode cX5_holds 6 = .ok (.ifCond .ne 7, 3) := by decide +kernel
theorem dX5_holds_9 : decode cX5_holds 9 = .ok (.iconst 1, 1) := by decide +kernel
theorem dX5_holds_10 : decode cX5_holds 10 = .ok (.goto 4, 3) := by decide +kernel
theorem dX5_holds_13 : decode cX5_holds 13 = .ok (.iconst 0, 1) := by decide +kernel
theorem dX5_holds_14 : decode cX5_holds 14 = .ok (.ireturn, 1) := by decide +kernel
theorem dX5_isIn_0 : decode cX5_isIn 0 = .ok (.iload_n 0, 1) := by decide +kernel
theorem dX5_isIn_1 : decode cX5_isIn 1 = .ok (.iload_n 1, 1) := by decide +kernel
theorem dX5_isIn_2 : decode cX5_isIn 2 = .ok (.if_icmp .lt 12, 3) := by decide +kernel
theorem dX5_isIn_5 : decode cX5_isIn 5 = .ok (.iload_n 0, 1) := by decide +kernel
theorem dX5_isIn_6 : decode cX5_isIn 6 = .ok (.iload_n 2, 1) := by decide +kernel
theorem dX5_isIn_7 : decode cX5_isIn 7 = .ok (.if_icmp .gt 7, 3) := by decide +kernel
theorem dX5_isIn_10 : decode cX5_isIn 10 = .ok (.iconst 1, 1) := by decide +kernel
theorem dX5_isIn_11 : decode cX5_isIn 11 = .ok (.goto 4, 3) := by decide +kernel
theorem dX5_isIn_14 : decode cX5_isIn 14 = .ok (.iconst 0, 1) := by decide +kernel
theorem dX5_isIn_15 : decode cX5_isIn 15 = .ok (.ireturn, 1) := by decide +kernel
theorem dX5_isFlight_0 : decode cX5_isFlight 0 = .ok (.iload_n 1, 1) := by decide +kernel
theorem dX5_isFlight_1 : decode cX5_isFlight 1 = .ok (.iconst 0, 1) := by decide +kernel
theorem dX5_isFlight_2 : decode cX5_isFlight 2 = .ok (.aload_n 0, 1) := by decide +kernel
theorem dX5_isFlight_3 : decode cX5_isFlight 3 = .ok (.getfield 81, 3) := by decide +kernel
theorem dX5_isFlight_6 : decode cX5_isFlight 6 = .ok (.iconst 1, 1) := by decide +kernel
theorem dX5_isFlight_7 : decode cX5_isFlight 7 = .ok (.isub, 1) := by decide +kernel
theorem dX5_isFlight_8 : decode cX5_isFlight 8 = .ok (.invokestatic 84, 3) := by decide +kernel
theorem dX5_isFlight_11 : decode cX5_isFlight 11 = .ok (.ireturn, 1) := by decide +kernel
theorem dX5_isRegulation_0 : decode cX5_isRegulation 0 = .ok (.iload_n 1, 1) := by decide +kernel
theorem dX5_isRegulation_1 : decode cX5_isRegulation 1 = .ok (.iconst 0, 1) := by decide +kernel
theorem dX5_isRegulation_2 : decode cX5_isRegulation 2 = .ok (.aload_n 0, 1) := by decide +kernel
theorem dX5_isRegulation_3 : decode cX5_isRegulation 3 = .ok (.getfield 88, 3) := by decide +kernel
theorem dX5_isRegulation_6 : decode cX5_isRegulation 6 = .ok (.iconst 1, 1) := by decide +kernel
theorem dX5_isRegulation_7 : decode cX5_isRegulation 7 = .ok (.isub, 1) := by decide +kernel
theorem dX5_isRegulation_8 : decode cX5_isRegulation 8 = .ok (.invokestatic 84, 3) := by decide +kernel
theorem dX5_isRegulation_11 : decode cX5_isRegulation 11 = .ok (.ireturn, 1) := by decide +kernel
theorem dX5_isSector_0 : decode cX5_isSector 0 = .ok (.iload_n 0, 1) := by decide +kernel
theorem dX5_isSector_1 : decode cX5_isSector 1 = .ok (.iconst 0, 1) := by decide +kernel
theorem dX5_isSector_2 : decode cX5_isSector 2 = .ok (.iconst 5, 1) := by decide +kernel
theorem dX5_isSector_3 : decode cX5_isSector 3 = .ok (.invokestatic 84, 3) := by decide +kernel
theorem dX5_isSector_6 : decode cX5_isSector 6 = .ok (.ireturn, 1) := by decide +kernel
theorem dX5_flight_0 : decode cX5_flight 0 = .ok (.aload_n 0, 1) := by decide +kernel
theorem dX5_flight_1 : decode cX5_flight 1 = .ok (.iload_n 1, 1) := by decide +kernel
theorem dX5_flight_2 : decode cX5_flight 2 = .ok (.iconst 0, 1) := by decide +kernel
theorem dX5_flight_3 : decode cX5_flight 3 = .ok (.iconst 3, 1) := by decide +kernel
theorem dX5_flight_4 : decode cX5_flight 4 = .ok (.invokestatic 84, 3) := by decide +kernel
theorem dX5_flight_7 : decode cX5_flight 7 = .ok (.ifCond .ne 7, 3) := by decide +kernel
theorem dX5_flight_10 : decode cX5_flight 10 = .ok (.iconst 1, 1) := by decide +kernel
theorem dX5_flight_11 : decode cX5_flight 11 = .ok (.goto 32, 3) := by decide +kernel
theorem dX5_flight_14 : decode cX5_flight 14 = .ok (.iload_n 2, 1) := by decide +kernel
theorem dX5_flight_15 : decode cX5_flight 15 = .ok (.iconst 0, 1) := by decide +kernel
theorem dX5_flight_16 : decode cX5_flight 16 = .ok (.sipush 1439, 3) := by decide +kernel
theorem dX5_flight_19 : decode cX5_flight 19 = .ok (.invokestatic 84, 3) := by decide +kernel
theorem dX5_flight_22 : decode cX5_flight 22 = .ok (.ifCond .ne 7, 3) := by decide +kernel
theorem dX5_flight_25 : decode cX5_flight 25 = .ok (.iconst 2, 1) := by decide +kernel
theorem dX5_flight_26 : decode cX5_flight 26 = .ok (.goto 17, 3) := by decide +kernel
theorem dX5_flight_29 : decode cX5_flight 29 = .ok (.aload_n 0, 1) := by decide +kernel
theorem dX5_flight_30 : decode cX5_flight 30 = .ok (.getfield 81, 3) := by decide +kernel
theorem dX5_flight_33 : decode cX5_flight 33 = .ok (.bipush 24, 2) := by decide +kernel
theorem dX5_flight_35 : decode cX5_flight 35 = .ok (.if_icmp .ne 7, 3) := by decide +kernel
theorem dX5_flight_38 : decode cX5_flight 38 = .ok (.iconst 3, 1) := by decide +kernel
theorem dX5_flight_39 : decode cX5_flight 39 = .ok (.goto 4, 3) := by decide +kernel
theorem dX5_flight_42 : decode cX5_flight 42 = .ok (.iconst 0, 1) := by decide +kernel
theorem dX5_flight_43 : decode cX5_flight 43 = .ok (.invokevirtual 91, 3) := by decide +kernel
theorem dX5_flight_46 : decode cX5_flight 46 = .ok (.ifCond .ne 5, 3) := by decide +kernel
theorem dX5_flight_49 : decode cX5_flight 49 = .ok (.iconst 0, 1) := by decide +kernel
theorem dX5_flight_50 : decode cX5_flight 50 = .ok (.ireturn, 1) := by decide +kernel
theorem dX5_flight_51 : decode cX5_flight 51 = .ok (.aload_n 0, 1) := by decide +kernel
theorem dX5_flight_52 : decode cX5_flight 52 = .ok (.getfield 7, 3) := by decide +kernel
theorem dX5_flight_55 : decode cX5_flight 55 = .ok (.aload_n 0, 1) := by decide +kernel
theorem dX5_flight_56 : decode cX5_flight 56 = .ok (.getfield 81, 3) := by decide +kernel
theorem dX5_flight_59 : decode cX5_flight 59 = .ok (.iload_n 1, 1) := by decide +kernel
theorem dX5_flight_60 : decode cX5_flight 60 = .ok (.iastore, 1) := by decide +kernel
theorem dX5_flight_61 : decode cX5_flight 61 = .ok (.aload_n 0, 1) := by decide +kernel
theorem dX5_flight_62 : decode cX5_flight 62 = .ok (.getfield 13, 3) := by decide +kernel
theorem dX5_flight_65 : decode cX5_flight 65 = .ok (.aload_n 0, 1) := by decide +kernel
theorem dX5_flight_66 : decode cX5_flight 66 = .ok (.getfield 81, 3) := by decide +kernel
theorem dX5_flight_69 : decode cX5_flight 69 = .ok (.iload_n 2, 1) := by decide +kernel
theorem dX5_flight_70 : decode cX5_flight 70 = .ok (.iastore, 1) := by decide +kernel
theorem dX5_flight_71 : decode cX5_flight 71 = .ok (.aload_n 0, 1) := by decide +kernel
theorem dX5_flight_72 : decode cX5_flight 72 = .ok (.getfield 22, 3) := by decide +kernel
theorem dX5_flight_75 : decode cX5_flight 75 = .ok (.aload_n 0, 1) := by decide +kernel
theorem dX5_flight_76 : decode cX5_flight 76 = .ok (.getfield 81, 3) := by decide +kernel
theorem dX5_flight_79 : decode cX5_flight 79 = .ok (.iconst (-1), 1) := by decide +kernel
theorem dX5_flight_80 : decode cX5_flight 80 = .ok (.iastore, 1) := by decide +kernel
theorem dX5_flight_81 : decode cX5_flight 81 = .ok (.aload_n 0, 1) := by decide +kernel
theorem dX5_flight_82 : decode cX5_flight 82 = .ok (.getfield 25, 3) := by decide +kernel
theorem dX5_flight_85 : decode cX5_flight 85 = .ok (.aload_n 0, 1) := by decide +kernel
theorem dX5_flight_86 : decode cX5_flight 86 = .ok (.getfield 81, 3) := by decide +kernel
theorem dX5_flight_89 : decode cX5_flight 89 = .ok (.iconst (-1), 1) := by decide +kernel
theorem dX5_flight_90 : decode cX5_flight 90 = .ok (.iastore, 1) := by decide +kernel
theorem dX5_flight_91 : decode cX5_flight 91 = .ok (.aload_n 0, 1) := by decide +kernel
theorem dX5_flight_92 : decode cX5_flight 92 = .ok (.getfield 31, 3) := by decide +kernel
theorem dX5_flight_95 : decode cX5_flight 95 = .ok (.aload_n 0, 1) := by decide +kernel
theorem dX5_flight_96 : decode cX5_flight 96 = .ok (.getfield 81, 3) := by decide +kernel
theorem dX5_flight_99 : decode cX5_flight 99 = .ok (.iconst (-1), 1) := by decide +kernel
theorem dX5_flight_100 : decode cX5_flight 100 = .ok (.iastore, 1) := by decide +kernel
theorem dX5_flight_101 : decode cX5_flight 101 = .ok (.iconst 0, 1) := by decide +kernel
theorem dX5_flight_102 : decode cX5_flight 102 = .ok (.istore_n 3, 1) := by decide +kernel
theorem dX5_flight_103 : decode cX5_flight 103 = .ok (.iload_n 3, 1) := by decide +kernel
theorem dX5_flight_104 : decode cX5_flight 104 = .ok (.bipush 6, 2) := by decide +kernel
theorem dX5_flight_106 : decode cX5_flight 106 = .ok (.if_icmp .ge 24, 3) := by decide +kernel
theorem dX5_flight_109 : decode cX5_flight 109 = .ok (.aload_n 0, 1) := by decide +kernel
theorem dX5_flight_110 : decode cX5_flight 110 = .ok (.getfield 41, 3) := by decide +kernel
theorem dX5_flight_113 : decode cX5_flight 113 = .ok (.bipush 6, 2) := by decide +kernel
theorem dX5_flight_115 : decode cX5_flight 115 = .ok (.aload_n 0, 1) := by decide +kernel
theorem dX5_flight_116 : decode cX5_flight 116 = .ok (.getfield 81, 3) := by decide +kernel
theorem dX5_flight_119 : decode cX5_flight 119 = .ok (.imul, 1) := by decide +kernel
theorem dX5_flight_120 : decode cX5_flight 120 = .ok (.iload_n 3, 1) := by decide +kernel
theorem dX5_flight_121 : decode cX5_flight 121 = .ok (.iadd, 1) := by decide +kernel
theorem dX5_flight_122 : decode cX5_flight 122 = .ok (.iconst (-1), 1) := by decide +kernel
theorem dX5_flight_123 : decode cX5_flight 123 = .ok (.iastore, 1) := by decide +kernel
theorem dX5_flight_124 : decode cX5_flight 124 = .ok (.iinc 3 1, 3) := by decide +kernel
theorem dX5_flight_127 : decode cX5_flight 127 = .ok (.goto (-24), 3) := by decide +kernel
theorem dX5_flight_130 : decode cX5_flight 130 = .ok (.aload_n 0, 1) := by decide +kernel
theorem dX5_flight_131 : decode cX5_flight 131 = .ok (.dup, 1) := by decide +kernel
theorem dX5_flight_132 : decode cX5_flight 132 = .ok (.getfield 81, 3) := by decide +kernel
theorem dX5_flight_135 : decode cX5_flight 135 = .ok (.iconst 1, 1) := by decide +kernel
theorem dX5_flight_136 : decode cX5_flight 136 = .ok (.iadd, 1) := by decide +kernel
theorem dX5_flight_137 : decode cX5_flight 137 = .ok (.putfield 81, 3) := by decide +kernel
theorem dX5_flight_140 : decode cX5_flight 140 = .ok (.aload_n 0, 1) := by decide +kernel
theorem dX5_flight_141 : decode cX5_flight 141 = .ok (.getfield 81, 3) := by decide +kernel
theorem dX5_flight_144 : decode cX5_flight 144 = .ok (.iconst 1, 1) := by decide +kernel
theorem dX5_flight_145 : decode cX5_flight 145 = .ok (.isub, 1) := by decide +kernel
theorem dX5_flight_146 : decode cX5_flight 146 = .ok (.ireturn, 1) := by decide +kernel
theorem dX5_entry_0 : decode cX5_entry 0 = .ok (.aload_n 0, 1) := by decide +kernel
theorem dX5_entry_1 : decode cX5_entry 1 = .ok (.iload_n 1, 1) := by decide +kernel
theorem dX5_entry_2 : decode cX5_entry 2 = .ok (.invokevirtual 95, 3) := by decide +kernel
theorem dX5_entry_5 : decode cX5_entry 5 = .ok (.ifCond .eq 14, 3) := by decide +kernel
theorem dX5_entry_8 : decode cX5_entry 8 = .ok (.iload_n 2, 1) := by decide +kernel
theorem dX5_entry_9 : decode cX5_entry 9 = .ok (.invokestatic 98, 3) := by decide +kernel
theorem dX5_entry_12 : decode cX5_entry 12 = .ok (.ifCond .eq 7, 3) := by decide +kernel
theorem dX5_entry_15 : decode cX5_entry 15 = .ok (.iconst 1, 1) := by decide +kernel
theorem dX5_entry_16 : decode cX5_entry 16 = .ok (.goto 4, 3) := by decide +kernel
theorem dX5_entry_19 : decode cX5_entry 19 = .ok (.iconst 0, 1) := by decide +kernel
theorem dX5_entry_20 : decode cX5_entry 20 = .ok (.istore 5, 2) := by decide +kernel
theorem dX5_entry_22 : decode cX5_entry 22 = .ok (.iload_n 3, 1) := by decide +kernel
theorem dX5_entry_23 : decode cX5_entry 23 = .ok (.iconst 0, 1) := by decide +kernel
theorem dX5_entry_24 : decode cX5_entry 24 = .ok (.sipush 600, 3) := by decide +kernel
theorem dX5_entry_27 : decode cX5_entry 27 = .ok (.invokestatic 84, 3) := by decide +kernel
theorem dX5_entry_30 : decode cX5_entry 30 = .ok (.ifCond .eq 18, 3) := by decide +kernel
theorem dX5_entry_33 : decode cX5_entry 33 = .ok (.iload 4, 2) := by decide +kernel
theorem dX5_entry_35 : decode cX5_entry 35 = .ok (.iconst 1, 1) := by decide +kernel
theorem dX5_entry_36 : decode cX5_entry 36 = .ok (.bipush 120, 2) := by decide +kernel
theorem dX5_entry_38 : decode cX5_entry 38 = .ok (.invokestatic 84, 3) := by decide +kernel
theorem dX5_entry_41 : decode cX5_entry 41 = .ok (.ifCond .eq 7, 3) := by decide +kernel
theorem dX5_entry_44 : decode cX5_entry 44 = .ok (.iconst 1, 1) := by decide +kernel
theorem dX5_entry_45 : decode cX5_entry 45 = .ok (.goto 4, 3) := by decide +kernel
theorem dX5_entry_48 : decode cX5_entry 48 = .ok (.iconst 0, 1) := by decide +kernel
theorem dX5_entry_49 : decode cX5_entry 49 = .ok (.istore 6, 2) := by decide +kernel
theorem dX5_entry_51 : decode cX5_entry 51 = .ok (.iload 5, 2) := by decide +kernel
theorem dX5_entry_53 : decode cX5_entry 53 = .ok (.ifCond .eq 61, 3) := by decide +kernel
theorem dX5_entry_56 : decode cX5_entry 56 = .ok (.aload_n 0, 1) := by decide +kernel
theorem dX5_entry_57 : decode cX5_entry 57 = .ok (.getfield 16, 3) := by decide +kernel
theorem dX5_entry_60 : decode cX5_entry 60 = .ok (.iload_n 1, 1) := by decide +kernel
theorem dX5_entry_61 : decode cX5_entry 61 = .ok (.iaload, 1) := by decide +kernel
theorem dX5_entry_62 : decode cX5_entry 62 = .ok (.ifCond .ne 52, 3) := by decide +kernel
theorem dX5_entry_65 : decode cX5_entry 65 = .ok (.aload_n 0, 1) := by decide +kernel
theorem dX5_entry_66 : decode cX5_entry 66 = .ok (.getfield 22, 3) := by decide +kernel
theorem dX5_entry_69 : decode cX5_entry 69 = .ok (.iload_n 1, 1) := by decide +kernel
theorem dX5_entry_70 : decode cX5_entry 70 = .ok (.iaload, 1) := by decide +kernel
theorem dX5_entry_71 : decode cX5_entry 71 = .ok (.iconst (-1), 1) := by decide +kernel
theorem dX5_entry_72 : decode cX5_entry 72 = .ok (.if_icmp .ne 42, 3) := by decide +kernel
theorem dX5_entry_75 : decode cX5_entry 75 = .ok (.aload_n 0, 1) := by decide +kernel
theorem dX5_entry_76 : decode cX5_entry 76 = .ok (.getfield 28, 3) := by decide +kernel
theorem dX5_entry_79 : decode cX5_entry 79 = .ok (.iload_n 1, 1) := by decide +kernel
theorem dX5_entry_80 : decode cX5_entry 80 = .ok (.iaload, 1) := by decide +kernel
theorem dX5_entry_81 : decode cX5_entry 81 = .ok (.iconst 5, 1) := by decide +kernel
theorem dX5_entry_82 : decode cX5_entry 82 = .ok (.if_icmp .ge 32, 3) := by decide +kernel
theorem dX5_entry_85 : decode cX5_entry 85 = .ok (.aload_n 0, 1) := by decide +kernel
theorem dX5_entry_86 : decode cX5_entry 86 = .ok (.getfield 41, 3) := by decide +kernel
theorem dX5_entry_89 : decode cX5_entry 89 = .ok (.bipush 6, 2) := by decide +kernel
theorem dX5_entry_91 : decode cX5_entry 91 = .ok (.iload_n 1, 1) := by decide +kernel
theorem dX5_entry_92 : decode cX5_entry 92 = .ok (.imul, 1) := by decide +kernel
theorem dX5_entry_93 : decode cX5_entry 93 = .ok (.iload_n 2, 1) := by decide +kernel
theorem dX5_entry_94 : decode cX5_entry 94 = .ok (.iadd, 1) := by decide +kernel
theorem dX5_entry_95 : decode cX5_entry 95 = .ok (.iaload, 1) := by decide +kernel
theorem dX5_entry_96 : decode cX5_entry 96 = .ok (.iconst (-1), 1) := by decide +kernel
theorem dX5_entry_97 : decode cX5_entry 97 = .ok (.if_icmp .ne 17, 3) := by decide +kernel
theorem dX5_entry_100 : decode cX5_entry 100 = .ok (.iload_n 3, 1) := by decide +kernel
theorem dX5_entry_101 : decode cX5_entry 101 = .ok (.aload_n 0, 1) := by decide +kernel
theorem dX5_entry_102 : decode cX5_entry 102 = .ok (.getfield 31, 3) := by decide +kernel
theorem dX5_entry_105 : decode cX5_entry 105 = .ok (.iload_n 1, 1) := by decide +kernel
theorem dX5_entry_106 : decode cX5_entry 106 = .ok (.iaload, 1) := by decide +kernel
theorem dX5_entry_107 : decode cX5_entry 107 = .ok (.if_icmp .le 7, 3) := by decide +kernel
theorem dX5_entry_110 : decode cX5_entry 110 = .ok (.iconst 1, 1) := by decide +kernel
theorem dX5_entry_111 : decode cX5_entry 111 = .ok (.goto 4, 3) := by decide +kernel
theorem dX5_entry_114 : decode cX5_entry 114 = .ok (.iconst 0, 1) := by decide +kernel
theorem dX5_entry_115 : decode cX5_entry 115 = .ok (.istore 7, 2) := by decide +kernel
theorem dX5_entry_117 : decode cX5_entry 117 = .ok (.aload_n 0, 1) := by decide +kernel
theorem dX5_entry_118 : decode cX5_entry 118 = .ok (.iload 5, 2) := by decide +kernel
theorem dX5_entry_120 : decode cX5_entry 120 = .ok (.ifCond .ne 7, 3) := by decide +kernel
theorem dX5_entry_123 : decode cX5_entry 123 = .ok (.iconst 1, 1) := by decide +kernel
theorem dX5_entry_124 : decode cX5_entry 124 = .ok (.goto 22, 3) := by decide +kernel
theorem dX5_entry_127 : decode cX5_entry 127 = .ok (.iload 6, 2) := by decide +kernel
theorem dX5_entry_129 : decode cX5_entry 129 = .ok (.ifCond .ne 7, 3) := by decide +kernel
theorem dX5_entry_132 : decode cX5_entry 132 = .ok (.iconst 2, 1) := by decide +kernel
theorem dX5_entry_133 : decode cX5_entry 133 = .ok (.goto 13, 3) := by decide +kernel
theorem dX5_entry_136 : decode cX5_entry 136 = .ok (.iload 7, 2) := by decide +kernel
theorem dX5_entry_138 : decode cX5_entry 138 = .ok (.ifCond .eq 7, 3) := by decide +kernel
theorem dX5_entry_141 : decode cX5_entry 141 = .ok (.iconst 0, 1) := by decide +kernel
theorem dX5_entry_142 : decode cX5_entry 142 = .ok (.goto 4, 3) := by decide +kernel
theorem dX5_entry_145 : decode cX5_entry 145 = .ok (.iconst 3, 1) := by decide +kernel
theorem dX5_entry_146 : decode cX5_entry 146 = .ok (.invokevirtual 91, 3) := by decide +kernel
theorem dX5_entry_149 : decode cX5_entry 149 = .ok (.ifCond .ne 5, 3) := by decide +kernel
theorem dX5_entry_152 : decode cX5_entry 152 = .ok (.iconst 0, 1) := by decide +kernel
theorem dX5_entry_153 : decode cX5_entry 153 = .ok (.ireturn, 1) := by decide +kernel
theorem dX5_entry_154 : decode cX5_entry 154 = .ok (.aload_n 0, 1) := by decide +kernel
theorem dX5_entry_155 : decode cX5_entry 155 = .ok (.getfield 41, 3) := by decide +kernel
theorem dX5_entry_158 : decode cX5_entry 158 = .ok (.bipush 6, 2) := by decide +kernel
theorem dX5_entry_160 : decode cX5_entry 160 = .ok (.iload_n 1, 1) := by decide +kernel
theorem dX5_entry_161 : decode cX5_entry 161 = .ok (.imul, 1) := by decide +kernel
theorem dX5_entry_162 : decode cX5_entry 162 = .ok (.iload_n 2, 1) := by decide +kernel
theorem dX5_entry_163 : decode cX5_entry 163 = .ok (.iadd, 1) := by decide +kernel
theorem dX5_entry_164 : decode cX5_entry 164 = .ok (.iload_n 3, 1) := by decide +kernel
theorem dX5_entry_165 : decode cX5_entry 165 = .ok (.iastore, 1) := by decide +kernel
theorem dX5_entry_166 : decode cX5_entry 166 = .ok (.aload_n 0, 1) := by decide +kernel
theorem dX5_entry_167 : decode cX5_entry 167 = .ok (.getfield 44, 3) := by decide +kernel
theorem dX5_entry_170 : decode cX5_entry 170 = .ok (.bipush 6, 2) := by decide +kernel
theorem dX5_entry_172 : decode cX5_entry 172 = .ok (.iload_n 1, 1) := by decide +kernel
theorem dX5_entry_173 : decode cX5_entry 173 = .ok (.imul, 1) := by decide +kernel
theorem dX5_entry_174 : decode cX5_entry 174 = .ok (.iload_n 2, 1) := by decide +kernel
theorem dX5_entry_175 : decode cX5_entry 175 = .ok (.iadd, 1) := by decide +kernel
theorem dX5_entry_176 : decode cX5_entry 176 = .ok (.iload 4, 2) := by decide +kernel
theorem dX5_entry_178 : decode cX5_entry 178 = .ok (.iastore, 1) := by decide +kernel
theorem dX5_entry_179 : decode cX5_entry 179 = .ok (.aload_n 0, 1) := by decide +kernel
theorem dX5_entry_180 : decode cX5_entry 180 = .ok (.getfield 31, 3) := by decide +kernel
theorem dX5_entry_183 : decode cX5_entry 183 = .ok (.iload_n 1, 1) := by decide +kernel
theorem dX5_entry_184 : decode cX5_entry 184 = .ok (.iload_n 3, 1) := by decide +kernel
theorem dX5_entry_185 : decode cX5_entry 185 = .ok (.iastore, 1) := by decide +kernel
theorem dX5_entry_186 : decode cX5_entry 186 = .ok (.aload_n 0, 1) := by decide +kernel
theorem dX5_entry_187 : decode cX5_entry 187 = .ok (.getfield 28, 3) := by decide +kernel
theorem dX5_entry_190 : decode cX5_entry 190 = .ok (.iload_n 1, 1) := by decide +kernel
theorem dX5_entry_191 : decode cX5_entry 191 = .ok (.dup2, 1) := by decide +kernel
theorem dX5_entry_192 : decode cX5_entry 192 = .ok (.iaload, 1) := by decide +kernel
theorem dX5_entry_193 : decode cX5_entry 193 = .ok (.iconst 1, 1) := by decide +kernel
theorem dX5_entry_194 : decode cX5_entry 194 = .ok (.iadd, 1) := by decide +kernel
theorem dX5_entry_195 : decode cX5_entry 195 = .ok (.iastore, 1) := by decide +kernel
theorem dX5_entry_196 : decode cX5_entry 196 = .ok (.aload_n 0, 1) := by decide +kernel
theorem dX5_entry_197 : decode cX5_entry 197 = .ok (.getfield 28, 3) := by decide +kernel
theorem dX5_entry_200 : decode cX5_entry 200 = .ok (.iload_n 1, 1) := by decide +kernel
theorem dX5_entry_201 : decode cX5_entry 201 = .ok (.iaload, 1) := by decide +kernel
theorem dX5_entry_202 : decode cX5_entry 202 = .ok (.ireturn, 1) := by decide +kernel
theorem dX5_exempt_0 : decode cX5_exempt 0 = .ok (.aload_n 0, 1) := by decide +kernel
theorem dX5_exempt_1 : decode cX5_exempt 1 = .ok (.iload_n 1, 1) := by decide +kernel
theorem dX5_exempt_2 : decode cX5_exempt 2 = .ok (.invokevirtual 95, 3) := by decide +kernel
theorem dX5_exempt_5 : decode cX5_exempt 5 = .ok (.istore_n 3, 1) := by decide +kernel
theorem dX5_exempt_6 : decode cX5_exempt 6 = .ok (.aload_n 0, 1) := by decide +kernel
theorem dX5_exempt_7 : decode cX5_exempt 7 = .ok (.iload_n 3, 1) := by decide +kernel
theorem dX5_exempt_8 : decode cX5_exempt 8 = .ok (.ifCond .ne 7, 3) := by decide +kernel
theorem dX5_exempt_11 : decode cX5_exempt 11 = .ok (.iconst 1, 1) := by decide +kernel
theorem dX5_exempt_12 : decode cX5_exempt 12 = .ok (.goto 17, 3) := by decide +kernel
theorem dX5_exempt_15 : decode cX5_exempt 15 = .ok (.aload_n 0, 1) := by decide +kernel
theorem dX5_exempt_16 : decode cX5_exempt 16 = .ok (.getfield 16, 3) := by decide +kernel
theorem dX5_exempt_19 : decode cX5_exempt 19 = .ok (.iload_n 1, 1) := by decide +kernel
theorem dX5_exempt_20 : decode cX5_exempt 20 = .ok (.iaload, 1) := by decide +kernel
theorem dX5_exempt_21 : decode cX5_exempt 21 = .ok (.ifCond .ne 7, 3) := by decide +kernel
theorem dX5_exempt_24 : decode cX5_exempt 24 = .ok (.iconst 0, 1) := by decide +kernel
theorem dX5_exempt_25 : decode cX5_exempt 25 = .ok (.goto 4, 3) := by decide +kernel
theorem dX5_exempt_28 : decode cX5_exempt 28 = .ok (.iconst 2, 1) := by decide +kernel
theorem dX5_exempt_29 : decode cX5_exempt 29 = .ok (.invokevirtual 91, 3) := by decide +kernel
theorem dX5_exempt_32 : decode cX5_exempt 32 = .ok (.ifCond .ne 5, 3) := by decide +kernel
theorem dX5_exempt_35 : decode cX5_exempt 35 = .ok (.iconst 0, 1) := by decide +kernel
theorem dX5_exempt_36 : decode cX5_exempt 36 = .ok (.ireturn, 1) := by decide +kernel
theorem dX5_exempt_37 : decode cX5_exempt 37 = .ok (.aload_n 0, 1) := by decide +kernel
theorem dX5_exempt_38 : decode cX5_exempt 38 = .ok (.getfield 37, 3) := by decide +kernel
theorem dX5_exempt_41 : decode cX5_exempt 41 = .ok (.iload_n 1, 1) := by decide +kernel
theorem dX5_exempt_42 : decode cX5_exempt 42 = .ok (.baload, 1) := by decide +kernel
theorem dX5_exempt_43 : decode cX5_exempt 43 = .ok (.istore 4, 2) := by decide +kernel
theorem dX5_exempt_45 : decode cX5_exempt 45 = .ok (.aload_n 0, 1) := by decide +kernel
theorem dX5_exempt_46 : decode cX5_exempt 46 = .ok (.getfield 37, 3) := by decide +kernel
theorem dX5_exempt_49 : decode cX5_exempt 49 = .ok (.iload_n 1, 1) := by decide +kernel
theorem dX5_exempt_50 : decode cX5_exempt 50 = .ok (.iload_n 2, 1) := by decide +kernel
theorem dX5_exempt_51 : decode cX5_exempt 51 = .ok (.bastore, 1) := by decide +kernel
theorem dX5_exempt_52 : decode cX5_exempt 52 = .ok (.aload_n 0, 1) := by decide +kernel
theorem dX5_exempt_53 : decode cX5_exempt 53 = .ok (.getfield 22, 3) := by decide +kernel
theorem dX5_exempt_56 : decode cX5_exempt 56 = .ok (.iload_n 1, 1) := by decide +kernel
theorem dX5_exempt_57 : decode cX5_exempt 57 = .ok (.iload_n 2, 1) := by decide +kernel
theorem dX5_exempt_58 : decode cX5_exempt 58 = .ok (.ifCond .eq 7, 3) := by decide +kernel
theorem dX5_exempt_61 : decode cX5_exempt 61 = .ok (.iconst (-1), 1) := by decide +kernel
theorem dX5_exempt_62 : decode cX5_exempt 62 = .ok (.goto 9, 3) := by decide +kernel
theorem dX5_exempt_65 : decode cX5_exempt 65 = .ok (.aload_n 0, 1) := by decide +kernel
theorem dX5_exempt_66 : decode cX5_exempt 66 = .ok (.getfield 22, 3) := by decide +kernel
theorem dX5_exempt_69 : decode cX5_exempt 69 = .ok (.iload_n 1, 1) := by decide +kernel
theorem dX5_exempt_70 : decode cX5_exempt 70 = .ok (.iaload, 1) := by decide +kernel
theorem dX5_exempt_71 : decode cX5_exempt 71 = .ok (.iastore, 1) := by decide +kernel
theorem dX5_exempt_72 : decode cX5_exempt 72 = .ok (.aload_n 0, 1) := by decide +kernel
theorem dX5_exempt_73 : decode cX5_exempt 73 = .ok (.getfield 25, 3) := by decide +kernel
theorem dX5_exempt_76 : decode cX5_exempt 76 = .ok (.iload_n 1, 1) := by decide +kernel
theorem dX5_exempt_77 : decode cX5_exempt 77 = .ok (.iload_n 2, 1) := by decide +kernel
theorem dX5_exempt_78 : decode cX5_exempt 78 = .ok (.ifCond .eq 7, 3) := by decide +kernel
theorem dX5_exempt_81 : decode cX5_exempt 81 = .ok (.iconst (-1), 1) := by decide +kernel
theorem dX5_exempt_82 : decode cX5_exempt 82 = .ok (.goto 9, 3) := by decide +kernel
theorem dX5_exempt_85 : decode cX5_exempt 85 = .ok (.aload_n 0, 1) := by decide +kernel
theorem dX5_exempt_86 : decode cX5_exempt 86 = .ok (.getfield 25, 3) := by decide +kernel
theorem dX5_exempt_89 : decode cX5_exempt 89 = .ok (.iload_n 1, 1) := by decide +kernel
theorem dX5_exempt_90 : decode cX5_exempt 90 = .ok (.iaload, 1) := by decide +kernel
theorem dX5_exempt_91 : decode cX5_exempt 91 = .ok (.iastore, 1) := by decide +kernel
theorem dX5_exempt_92 : decode cX5_exempt 92 = .ok (.iload 4, 2) := by decide +kernel
theorem dX5_exempt_94 : decode cX5_exempt 94 = .ok (.ireturn, 1) := by decide +kernel
theorem dX5_departure_0 : decode cX5_departure 0 = .ok (.aload_n 0, 1) := by decide +kernel
theorem dX5_departure_1 : decode cX5_departure 1 = .ok (.getfield 16, 3) := by decide +kernel
theorem dX5_departure_4 : decode cX5_departure 4 = .ok (.iload_n 1, 1) := by decide +kernel
theorem dX5_departure_5 : decode cX5_departure 5 = .ok (.iaload, 1) := by decide +kernel
theorem dX5_departure_6 : decode cX5_departure 6 = .ok (.iconst 1, 1) := by decide +kernel
theorem dX5_departure_7 : decode cX5_departure 7 = .ok (.if_icmp .ne 12, 3) := by decide +kernel
theorem dX5_departure_10 : decode cX5_departure 10 = .ok (.aload_n 0, 1) := by decide +kernel
theorem dX5_departure_11 : decode cX5_departure 11 = .ok (.getfield 19, 3) := by decide +kernel
theorem dX5_departure_14 : decode cX5_departure 14 = .ok (.iload_n 1, 1) := by decide +kernel
theorem dX5_departure_15 : decode cX5_departure 15 = .ok (.iaload, 1) := by decide +kernel
theorem dX5_departure_16 : decode cX5_departure 16 = .ok (.goto 28, 3) := by decide +kernel
theorem dX5_departure_19 : decode cX5_departure 19 = .ok (.aload_n 0, 1) := by decide +kernel
theorem dX5_departure_20 : decode cX5_departure 20 = .ok (.getfield 22, 3) := by decide +kernel
theorem dX5_departure_23 : decode cX5_departure 23 = .ok (.iload_n 1, 1) := by decide +kernel
theorem dX5_departure_24 : decode cX5_departure 24 = .ok (.iaload, 1) := by decide +kernel
theorem dX5_departure_25 : decode cX5_departure 25 = .ok (.iconst (-1), 1) := by decide +kernel
theorem dX5_departure_26 : decode cX5_departure 26 = .ok (.if_icmp .ne 12, 3) := by decide +kernel
theorem dX5_departure_29 : decode cX5_departure 29 = .ok (.aload_n 0, 1) := by decide +kernel
theorem dX5_departure_30 : decode cX5_departure 30 = .ok (.getfield 13, 3) := by decide +kernel
theorem dX5_departure_33 : decode cX5_departure 33 = .ok (.iload_n 1, 1) := by decide +kernel
theorem dX5_departure_34 : decode cX5_departure 34 = .ok (.iaload, 1) := by decide +kernel
theorem dX5_departure_35 : decode cX5_departure 35 = .ok (.goto 9, 3) := by decide +kernel
theorem dX5_departure_38 : decode cX5_departure 38 = .ok (.aload_n 0, 1) := by decide +kernel
theorem dX5_departure_39 : decode cX5_departure 39 = .ok (.getfield 22, 3) := by decide +kernel
theorem dX5_departure_42 : decode cX5_departure 42 = .ok (.iload_n 1, 1) := by decide +kernel
theorem dX5_departure_43 : decode cX5_departure 43 = .ok (.iaload, 1) := by decide +kernel
theorem dX5_departure_44 : decode cX5_departure 44 = .ok (.ireturn, 1) := by decide +kernel
theorem dX5_flightIs_0 : decode cX5_flightIs 0 = .ok (.aload_n 0, 1) := by decide +kernel
theorem dX5_flightIs_1 : decode cX5_flightIs 1 = .ok (.aload_n 0, 1) := by decide +kernel
theorem dX5_flightIs_2 : decode cX5_flightIs 2 = .ok (.iload_n 1, 1) := by decide +kernel
theorem dX5_flightIs_3 : decode cX5_flightIs 3 = .ok (.invokevirtual 95, 3) := by decide +kernel
theorem dX5_flightIs_6 : decode cX5_flightIs 6 = .ok (.ifCond .ne 7, 3) := by decide +kernel
theorem dX5_flightIs_9 : decode cX5_flightIs 9 = .ok (.iconst 1, 1) := by decide +kernel
theorem dX5_flightIs_10 : decode cX5_flightIs 10 = .ok (.goto 18, 3) := by decide +kernel
theorem dX5_flightIs_13 : decode cX5_flightIs 13 = .ok (.iload_n 2, 1) := by decide +kernel
theorem dX5_flightIs_14 : decode cX5_flightIs 14 = .ok (.iconst 0, 1) := by decide +kernel
theorem dX5_flightIs_15 : decode cX5_flightIs 15 = .ok (.bipush 7, 2) := by decide +kernel
theorem dX5_flightIs_17 : decode cX5_flightIs 17 = .ok (.invokestatic 84, 3) := by decide +kernel
theorem dX5_flightIs_20 : decode cX5_flightIs 20 = .ok (.ifCond .eq 7, 3) := by decide +kernel
theorem dX5_flightIs_23 : decode cX5_flightIs 23 = .ok (.iconst 0, 1) := by decide +kernel
theorem dX5_flightIs_24 : decode cX5_flightIs 24 = .ok (.goto 4, 3) := by decide +kernel
theorem dX5_flightIs_27 : decode cX5_flightIs 27 = .ok (.iconst 2, 1) := by decide +kernel
theorem dX5_flightIs_28 : decode cX5_flightIs 28 = .ok (.invokevirtual 91, 3) := by decide +kernel
theorem dX5_flightIs_31 : decode cX5_flightIs 31 = .ok (.ifCond .ne 5, 3) := by decide +kernel
theorem dX5_flightIs_34 : decode cX5_flightIs 34 = .ok (.iconst 0, 1) := by decide +kernel
theorem dX5_flightIs_35 : decode cX5_flightIs 35 = .ok (.ireturn, 1) := by decide +kernel
theorem dX5_flightIs_36 : decode cX5_flightIs 36 = .ok (.iload_n 2, 1) := by decide +kernel
theorem dX5_flightIs_37 : decode cX5_flightIs 37 = .ok (.iconst 4, 1) := by decide +kernel
theorem dX5_flightIs_38 : decode cX5_flightIs 38 = .ok (.if_icmp .ge 51, 3) := by decide +kernel
theorem dX5_flightIs_41 : decode cX5_flightIs 41 = .ok (.iload_n 2, 1) := by decide +kernel
theorem dX5_flightIs_42 : decode cX5_flightIs 42 = .ok (.ifCond .ne 12, 3) := by decide +kernel
theorem dX5_flightIs_45 : decode cX5_flightIs 45 = .ok (.aload_n 0, 1) := by decide +kernel
theorem dX5_flightIs_46 : decode cX5_flightIs 46 = .ok (.getfield 16, 3) := by decide +kernel
theorem dX5_flightIs_49 : decode cX5_flightIs 49 = .ok (.iload_n 1, 1) := by decide +kernel
theorem dX5_flightIs_50 : decode cX5_flightIs 50 = .ok (.iaload, 1) := by decide +kernel
theorem dX5_flightIs_51 : decode cX5_flightIs 51 = .ok (.goto 37, 3) := by decide +kernel
theorem dX5_flightIs_54 : decode cX5_flightIs 54 = .ok (.iload_n 2, 1) := by decide +kernel
theorem dX5_flightIs_55 : decode cX5_flightIs 55 = .ok (.iconst 1, 1) := by decide +kernel
theorem dX5_flightIs_56 : decode cX5_flightIs 56 = .ok (.if_icmp .ne 12, 3) := by decide +kernel
theorem dX5_flightIs_59 : decode cX5_flightIs 59 = .ok (.aload_n 0, 1) := by decide +kernel
theorem dX5_flightIs_60 : decode cX5_flightIs 60 = .ok (.getfield 13, 3) := by decide +kernel
theorem dX5_flightIs_63 : decode cX5_flightIs 63 = .ok (.iload_n 1, 1) := by decide +kernel
theorem dX5_flightIs_64 : decode cX5_flightIs 64 = .ok (.iaload, 1) := by decide +kernel
theorem dX5_flightIs_65 : decode cX5_flightIs 65 = .ok (.goto 23, 3) := by decide +kernel
theorem dX5_flightIs_68 : decode cX5_flightIs 68 = .ok (.iload_n 2, 1) := by decide +kernel
theorem dX5_flightIs_69 : decode cX5_flightIs 69 = .ok (.iconst 2, 1) := by decide +kernel
theorem dX5_flightIs_70 : decode cX5_flightIs 70 = .ok (.if_icmp .ne 12, 3) := by decide +kernel
theorem dX5_flightIs_73 : decode cX5_flightIs 73 = .ok (.aload_n 0, 1) := by decide +kernel
theorem dX5_flightIs_74 : decode cX5_flightIs 74 = .ok (.getfield 22, 3) := by decide +kernel
theorem dX5_flightIs_77 : decode cX5_flightIs 77 = .ok (.iload_n 1, 1) := by decide +kernel
theorem dX5_flightIs_78 : decode cX5_flightIs 78 = .ok (.iaload, 1) := by decide +kernel
theorem dX5_flightIs_79 : decode cX5_flightIs 79 = .ok (.goto 9, 3) := by decide +kernel
theorem dX5_flightIs_82 : decode cX5_flightIs 82 = .ok (.aload_n 0, 1) := by decide +kernel
theorem dX5_flightIs_83 : decode cX5_flightIs 83 = .ok (.getfield 25, 3) := by decide +kernel
theorem dX5_flightIs_86 : decode cX5_flightIs 86 = .ok (.iload_n 1, 1) := by decide +kernel
theorem dX5_flightIs_87 : decode cX5_flightIs 87 = .ok (.iaload, 1) := by decide +kernel
theorem dX5_flightIs_88 : decode cX5_flightIs 88 = .ok (.ireturn, 1) := by decide +kernel
theorem dX5_flightIs_89 : decode cX5_flightIs 89 = .ok (.iload_n 2, 1) := by decide +kernel
theorem dX5_flightIs_90 : decode cX5_flightIs 90 = .ok (.iconst 4, 1) := by decide +kernel
theorem dX5_flightIs_91 : decode cX5_flightIs 91 = .ok (.if_icmp .ne 11, 3) := by decide +kernel
theorem dX5_flightIs_94 : decode cX5_flightIs 94 = .ok (.aload_n 0, 1) := by decide +kernel
theorem dX5_flightIs_95 : decode cX5_flightIs 95 = .ok (.iload_n 1, 1) := by decide +kernel
theorem dX5_flightIs_96 : decode cX5_flightIs 96 = .ok (.invokevirtual 101, 3) := by decide +kernel
theorem dX5_flightIs_99 : decode cX5_flightIs 99 = .ok (.goto 46, 3) := by decide +kernel
theorem dX5_flightIs_102 : decode cX5_flightIs 102 = .ok (.iload_n 2, 1) := by decide +kernel
theorem dX5_flightIs_103 : decode cX5_flightIs 103 = .ok (.iconst 5, 1) := by decide +kernel
theorem dX5_flightIs_104 : decode cX5_flightIs 104 = .ok (.if_icmp .ne 12, 3) := by decide +kernel
theorem dX5_flightIs_107 : decode cX5_flightIs 107 = .ok (.aload_n 0, 1) := by decide +kernel
theorem dX5_flightIs_108 : decode cX5_flightIs 108 = .ok (.getfield 28, 3) := by decide +kernel
theorem dX5_flightIs_111 : decode cX5_flightIs 111 = .ok (.iload_n 1, 1) := by decide +kernel
theorem dX5_flightIs_112 : decode cX5_flightIs 112 = .ok (.iaload, 1) := by decide +kernel
theorem dX5_flightIs_113 : decode cX5_flightIs 113 = .ok (.goto 32, 3) := by decide +kernel
theorem dX5_flightIs_116 : decode cX5_flightIs 116 = .ok (.iload_n 2, 1) := by decide +kernel
theorem dX5_flightIs_117 : decode cX5_flightIs 117 = .ok (.bipush 6, 2) := by decide +kernel
theorem dX5_flightIs_119 : decode cX5_flightIs 119 = .ok (.if_icmp .ne 12, 3) := by decide +kernel
theorem dX5_flightIs_122 : decode cX5_flightIs 122 = .ok (.aload_n 0, 1) := by decide +kernel
theorem dX5_flightIs_123 : decode cX5_flightIs 123 = .ok (.getfield 34, 3) := by decide +kernel
theorem dX5_flightIs_126 : decode cX5_flightIs 126 = .ok (.iload_n 1, 1) := by decide +kernel
theorem dX5_flightIs_127 : decode cX5_flightIs 127 = .ok (.iaload, 1) := by decide +kernel
theorem dX5_flightIs_128 : decode cX5_flightIs 128 = .ok (.goto 17, 3) := by decide +kernel
theorem dX5_flightIs_131 : decode cX5_flightIs 131 = .ok (.aload_n 0, 1) := by decide +kernel
theorem dX5_flightIs_132 : decode cX5_flightIs 132 = .ok (.getfield 37, 3) := by decide +kernel
theorem dX5_flightIs_135 : decode cX5_flightIs 135 = .ok (.iload_n 1, 1) := by decide +kernel
theorem dX5_flightIs_136 : decode cX5_flightIs 136 = .ok (.baload, 1) := by decide +kernel
theorem dX5_flightIs_137 : decode cX5_flightIs 137 = .ok (.ifCond .eq 7, 3) := by decide +kernel
theorem dX5_flightIs_140 : decode cX5_flightIs 140 = .ok (.iconst 1, 1) := by decide +kernel
theorem dX5_flightIs_141 : decode cX5_flightIs 141 = .ok (.goto 4, 3) := by decide +kernel
theorem dX5_flightIs_144 : decode cX5_flightIs 144 = .ok (.iconst 0, 1) := by decide +kernel
theorem dX5_flightIs_145 : decode cX5_flightIs 145 = .ok (.ireturn, 1) := by decide +kernel
theorem dX5_enters_0 : decode cX5_enters 0 = .ok (.aload_n 0, 1) := by decide +kernel
theorem dX5_enters_1 : decode cX5_enters 1 = .ok (.getfield 41, 3) := by decide +kernel
theorem dX5_enters_4 : decode cX5_enters 4 = .ok (.bipush 6, 2) := by decide +kernel
theorem dX5_enters_6 : decode cX5_enters 6 = .ok (.iload_n 1, 1) := by decide +kernel
theorem dX5_enters_7 : decode cX5_enters 7 = .ok (.imul, 1) := by decide +kernel
theorem dX5_enters_8 : decode cX5_enters 8 = .ok (.iload_n 2, 1) := by decide +kernel
theorem dX5_enters_9 : decode cX5_enters 9 = .ok (.iadd, 1) := by decide +kernel
theorem dX5_enters_10 : decode cX5_enters 10 = .ok (.iaload, 1) := by decide +kernel
theorem dX5_enters_11 : decode cX5_enters 11 = .ok (.iconst (-1), 1) := by decide +kernel
theorem dX5_enters_12 : decode cX5_enters 12 = .ok (.if_icmp .eq 7, 3) := by decide +kernel
theorem dX5_enters_15 : decode cX5_enters 15 = .ok (.iconst 1, 1) := by decide +kernel
theorem dX5_enters_16 : decode cX5_enters 16 = .ok (.goto 4, 3) := by decide +kernel
theorem dX5_enters_19 : decode cX5_enters 19 = .ok (.iconst 0, 1) := by decide +kernel
theorem dX5_enters_20 : decode cX5_enters 20 = .ok (.ireturn, 1) := by decide +kernel
theorem dX5_overOf_0 : decode cX5_overOf 0 = .ok (.aload_n 0, 1) := by decide +kernel
theorem dX5_overOf_1 : decode cX5_overOf 1 = .ok (.iload_n 1, 1) := by decide +kernel
theorem dX5_overOf_2 : decode cX5_overOf 2 = .ok (.invokevirtual 101, 3) := by decide +kernel
theorem dX5_overOf_5 : decode cX5_overOf 5 = .ok (.aload_n 0, 1) := by decide +kernel
theorem dX5_overOf_6 : decode cX5_overOf 6 = .ok (.getfield 41, 3) := by decide +kernel
theorem dX5_overOf_9 : decode cX5_overOf 9 = .ok (.bipush 6, 2) := by decide +kernel
theorem dX5_overOf_11 : decode cX5_overOf 11 = .ok (.iload_n 1, 1) := by decide +kernel
theorem dX5_overOf_12 : decode cX5_overOf 12 = .ok (.imul, 1) := by decide +kernel
theorem dX5_overOf_13 : decode cX5_overOf 13 = .ok (.iload_n 2, 1) := by decide +kernel
theorem dX5_overOf_14 : decode cX5_overOf 14 = .ok (.iadd, 1) := by decide +kernel
theorem dX5_overOf_15 : decode cX5_overOf 15 = .ok (.iaload, 1) := by decide +kernel
theorem dX5_overOf_16 : decode cX5_overOf 16 = .ok (.iadd, 1) := by decide +kernel
theorem dX5_overOf_17 : decode cX5_overOf 17 = .ok (.ireturn, 1) := by decide +kernel
theorem dX5_plannedOver_0 : decode cX5_plannedOver 0 = .ok (.aload_n 0, 1) := by decide +kernel
theorem dX5_plannedOver_1 : decode cX5_plannedOver 1 = .ok (.getfield 13, 3) := by decide +kernel
theorem dX5_plannedOver_4 : decode cX5_plannedOver 4 = .ok (.iload_n 1, 1) := by decide +kernel
theorem dX5_plannedOver_5 : decode cX5_plannedOver 5 = .ok (.iaload, 1) := by decide +kernel
theorem dX5_plannedOver_6 : decode cX5_plannedOver 6 = .ok (.aload_n 0, 1) := by decide +kernel
theorem dX5_plannedOver_7 : decode cX5_plannedOver 7 = .ok (.getfield 41, 3) := by decide +kernel
theorem dX5_plannedOver_10 : decode cX5_plannedOver 10 = .ok (.bipush 6, 2) := by decide +kernel
theorem dX5_plannedOver_12 : decode cX5_plannedOver 12 = .ok (.iload_n 1, 1) := by decide +kernel
theorem dX5_plannedOver_13 : decode cX5_plannedOver 13 = .ok (.imul, 1) := by decide +kernel
theorem dX5_plannedOver_14 : decode cX5_plannedOver 14 = .ok (.iload_n 2, 1) := by decide +kernel
theorem dX5_plannedOver_15 : decode cX5_plannedOver 15 = .ok (.iadd, 1) := by decide +kernel
theorem dX5_plannedOver_16 : decode cX5_plannedOver 16 = .ok (.iaload, 1) := by decide +kernel
theorem dX5_plannedOver_17 : decode cX5_plannedOver 17 = .ok (.iadd, 1) := by decide +kernel
theorem dX5_plannedOver_18 : decode cX5_plannedOver 18 = .ok (.ireturn, 1) := by decide +kernel
theorem dX5_over_0 : decode cX5_over 0 = .ok (.aload_n 0, 1) := by decide +kernel
theorem dX5_over_1 : decode cX5_over 1 = .ok (.aload_n 0, 1) := by decide +kernel
theorem dX5_over_2 : decode cX5_over 2 = .ok (.iload_n 1, 1) := by decide +kernel
theorem dX5_over_3 : decode cX5_over 3 = .ok (.invokevirtual 95, 3) := by decide +kernel
theorem dX5_over_6 : decode cX5_over 6 = .ok (.ifCond .eq 14, 3) := by decide +kernel
theorem dX5_over_9 : decode cX5_over 9 = .ok (.iload_n 2, 1) := by decide +kernel
theorem dX5_over_10 : decode cX5_over 10 = .ok (.invokestatic 98, 3) := by decide +kernel
theorem dX5_over_13 : decode cX5_over 13 = .ok (.ifCond .eq 7, 3) := by decide +kernel
theorem dX5_over_16 : decode cX5_over 16 = .ok (.iconst 0, 1) := by decide +kernel
theorem dX5_over_17 : decode cX5_over 17 = .ok (.goto 4, 3) := by decide +kernel
theorem dX5_over_20 : decode cX5_over 20 = .ok (.iconst 1, 1) := by decide +kernel
theorem dX5_over_21 : decode cX5_over 21 = .ok (.invokevirtual 91, 3) := by decide +kernel
theorem dX5_over_24 : decode cX5_over 24 = .ok (.ifCond .ne 5, 3) := by decide +kernel
theorem dX5_over_27 : decode cX5_over 27 = .ok (.iconst 0, 1) := by decide +kernel
theorem dX5_over_28 : decode cX5_over 28 = .ok (.ireturn, 1) := by decide +kernel
theorem dX5_over_29 : decode cX5_over 29 = .ok (.aload_n 0, 1) := by decide +kernel
theorem dX5_over_30 : decode cX5_over 30 = .ok (.iload_n 1, 1) := by decide +kernel
theorem dX5_over_31 : decode cX5_over 31 = .ok (.iload_n 2, 1) := by decide +kernel
theorem dX5_over_32 : decode cX5_over 32 = .ok (.invokevirtual 105, 3) := by decide +kernel
theorem dX5_over_35 : decode cX5_over 35 = .ok (.ifCond .eq 12, 3) := by decide +kernel
theorem dX5_over_38 : decode cX5_over 38 = .ok (.aload_n 0, 1) := by decide +kernel
theorem dX5_over_39 : decode cX5_over 39 = .ok (.iload_n 1, 1) := by decide +kernel
theorem dX5_over_40 : decode cX5_over 40 = .ok (.iload_n 2, 1) := by decide +kernel
theorem dX5_over_41 : decode cX5_over 41 = .ok (.invokevirtual 109, 3) := by decide +kernel
theorem dX5_over_44 : decode cX5_over 44 = .ok (.goto 4, 3) := by decide +kernel
theorem dX5_over_47 : decode cX5_over 47 = .ok (.iconst (-1), 1) := by decide +kernel
theorem dX5_over_48 : decode cX5_over 48 = .ok (.ireturn, 1) := by decide +kernel
theorem dX5_loadOf_0 : decode cX5_loadOf 0 = .ok (.iconst 0, 1) := by decide +kernel
theorem dX5_loadOf_1 : decode cX5_loadOf 1 = .ok (.istore 4, 2) := by decide +kernel
theorem dX5_loadOf_3 : decode cX5_loadOf 3 = .ok (.iconst 0, 1) := by decide +kernel
theorem dX5_loadOf_4 : decode cX5_loadOf 4 = .ok (.istore 5, 2) := by decide +kernel
theorem dX5_loadOf_6 : decode cX5_loadOf 6 = .ok (.iload 5, 2) := by decide +kernel
theorem dX5_loadOf_8 : decode cX5_loadOf 8 = .ok (.aload_n 0, 1) := by decide +kernel
theorem dX5_loadOf_9 : decode cX5_loadOf 9 = .ok (.getfield 81, 3) := by decide +kernel
theorem dX5_loadOf_12 : decode cX5_loadOf 12 = .ok (.if_icmp .ge 59, 3) := by decide +kernel
theorem dX5_loadOf_15 : decode cX5_loadOf 15 = .ok (.iload 4, 2) := by decide +kernel
theorem dX5_loadOf_17 : decode cX5_loadOf 17 = .ok (.aload_n 0, 1) := by decide +kernel
theorem dX5_loadOf_18 : decode cX5_loadOf 18 = .ok (.getfield 16, 3) := by decide +kernel
theorem dX5_loadOf_21 : decode cX5_loadOf 21 = .ok (.iload 5, 2) := by decide +kernel
theorem dX5_loadOf_23 : decode cX5_loadOf 23 = .ok (.iaload, 1) := by decide +kernel
theorem dX5_loadOf_24 : decode cX5_loadOf 24 = .ok (.iconst 2, 1) := by decide +kernel
theorem dX5_loadOf_25 : decode cX5_loadOf 25 = .ok (.if_icmp .eq 36, 3) := by decide +kernel
theorem dX5_loadOf_28 : decode cX5_loadOf 28 = .ok (.aload_n 0, 1) := by decide +kernel
theorem dX5_loadOf_29 : decode cX5_loadOf 29 = .ok (.iload 5, 2) := by decide +kernel
theorem dX5_loadOf_31 : decode cX5_loadOf 31 = .ok (.iload_n 1, 1) := by decide +kernel
theorem dX5_loadOf_32 : decode cX5_loadOf 32 = .ok (.invokevirtual 105, 3) := by decide +kernel
theorem dX5_loadOf_35 : decode cX5_loadOf 35 = .ok (.ifCond .eq 26, 3) := by decide +kernel
theorem dX5_loadOf_38 : decode cX5_loadOf 38 = .ok (.aload_n 0, 1) := by decide +kernel
theorem dX5_loadOf_39 : decode cX5_loadOf 39 = .ok (.iload 5, 2) := by decide +kernel
theorem dX5_loadOf_41 : decode cX5_loadOf 41 = .ok (.iload_n 1, 1) := by decide +kernel
theorem dX5_loadOf_42 : decode cX5_loadOf 42 = .ok (.invokevirtual 109, 3) := by decide +kernel
theorem dX5_loadOf_45 : decode cX5_loadOf 45 = .ok (.iload_n 2, 1) := by decide +kernel
theorem dX5_loadOf_46 : decode cX5_loadOf 46 = .ok (.iload_n 2, 1) := by decide +kernel
theorem dX5_loadOf_47 : decode cX5_loadOf 47 = .ok (.iload_n 3, 1) := by decide +kernel
theorem dX5_loadOf_48 : decode cX5_loadOf 48 = .ok (.iadd, 1) := by decide +kernel
theorem dX5_loadOf_49 : decode cX5_loadOf 49 = .ok (.iconst 1, 1) := by decide +kernel
theorem dX5_loadOf_50 : decode cX5_loadOf 50 = .ok (.isub, 1) := by decide +kernel
theorem dX5_loadOf_51 : decode cX5_loadOf 51 = .ok (.invokestatic 84, 3) := by decide +kernel
theorem dX5_loadOf_54 : decode cX5_loadOf 54 = .ok (.ifCond .eq 7, 3) := by decide +kernel
theorem dX5_loadOf_57 : decode cX5_loadOf 57 = .ok (.iconst 1, 1) := by decide +kernel
theorem dX5_loadOf_58 : decode cX5_loadOf 58 = .ok (.goto 4, 3) := by decide +kernel
theorem dX5_loadOf_61 : decode cX5_loadOf 61 = .ok (.iconst 0, 1) := by decide +kernel
theorem dX5_loadOf_62 : decode cX5_loadOf 62 = .ok (.iadd, 1) := by decide +kernel
theorem dX5_loadOf_63 : decode cX5_loadOf 63 = .ok (.istore 4, 2) := by decide +kernel
theorem dX5_loadOf_65 : decode cX5_loadOf 65 = .ok (.iinc 5 1, 3) := by decide +kernel
theorem dX5_loadOf_68 : decode cX5_loadOf 68 = .ok (.goto (-62), 3) := by decide +kernel
theorem dX5_loadOf_71 : decode cX5_loadOf 71 = .ok (.iload 4, 2) := by decide +kernel
theorem dX5_loadOf_73 : decode cX5_loadOf 73 = .ok (.ireturn, 1) := by decide +kernel
theorem dX5_load_0 : decode cX5_load 0 = .ok (.aload_n 0, 1) := by decide +kernel
theorem dX5_load_1 : decode cX5_load 1 = .ok (.iload_n 1, 1) := by decide +kernel
theorem dX5_load_2 : decode cX5_load 2 = .ok (.invokestatic 98, 3) := by decide +kernel
theorem dX5_load_5 : decode cX5_load 5 = .ok (.ifCond .ne 7, 3) := by decide +kernel
theorem dX5_load_8 : decode cX5_load 8 = .ok (.iconst 1, 1) := by decide +kernel
theorem dX5_load_9 : decode cX5_load 9 = .ok (.goto 30, 3) := by decide +kernel
theorem dX5_load_12 : decode cX5_load 12 = .ok (.iload_n 2, 1) := by decide +kernel
theorem dX5_load_13 : decode cX5_load 13 = .ok (.iconst 0, 1) := by decide +kernel
theorem dX5_load_14 : decode cX5_load 14 = .ok (.sipush 2999, 3) := by decide +kernel
theorem dX5_load_17 : decode cX5_load 17 = .ok (.invokestatic 84, 3) := by decide +kernel
theorem dX5_load_20 : decode cX5_load 20 = .ok (.ifCond .eq 18, 3) := by decide +kernel
theorem dX5_load_23 : decode cX5_load 23 = .ok (.iload_n 3, 1) := by decide +kernel
theorem dX5_load_24 : decode cX5_load 24 = .ok (.iconst 1, 1) := by decide +kernel
theorem dX5_load_25 : decode cX5_load 25 = .ok (.sipush 240, 3) := by decide +kernel
theorem dX5_load_28 : decode cX5_load 28 = .ok (.invokestatic 84, 3) := by decide +kernel
theorem dX5_load_31 : decode cX5_load 31 = .ok (.ifCond .eq 7, 3) := by decide +kernel
theorem dX5_load_34 : decode cX5_load 34 = .ok (.iconst 0, 1) := by decide +kernel
theorem dX5_load_35 : decode cX5_load 35 = .ok (.goto 4, 3) := by decide +kernel
theorem dX5_load_38 : decode cX5_load 38 = .ok (.iconst 2, 1) := by decide +kernel
theorem dX5_load_39 : decode cX5_load 39 = .ok (.invokevirtual 91, 3) := by decide +kernel
theorem dX5_load_42 : decode cX5_load 42 = .ok (.ifCond .eq 13, 3) := by decide +kernel
theorem dX5_load_45 : decode cX5_load 45 = .ok (.aload_n 0, 1) := by decide +kernel
theorem dX5_load_46 : decode cX5_load 46 = .ok (.iload_n 1, 1) := by decide +kernel
theorem dX5_load_47 : decode cX5_load 47 = .ok (.iload_n 2, 1) := by decide +kernel
theorem dX5_load_48 : decode cX5_load 48 = .ok (.iload_n 3, 1) := by decide +kernel
theorem dX5_load_49 : decode cX5_load 49 = .ok (.invokevirtual 113, 3) := by decide +kernel
theorem dX5_load_52 : decode cX5_load 52 = .ok (.goto 4, 3) := by decide +kernel
theorem dX5_load_55 : decode cX5_load 55 = .ok (.iconst 0, 1) := by decide +kernel
theorem dX5_load_56 : decode cX5_load 56 = .ok (.ireturn, 1) := by decide +kernel
theorem dX5_inside_0 : decode cX5_inside 0 = .ok (.aload_n 0, 1) := by decide +kernel
theorem dX5_inside_1 : decode cX5_inside 1 = .ok (.iload_n 1, 1) := by decide +kernel
theorem dX5_inside_2 : decode cX5_inside 2 = .ok (.invokestatic 98, 3) := by decide +kernel
theorem dX5_inside_5 : decode cX5_inside 5 = .ok (.ifCond .ne 7, 3) := by decide +kernel
theorem dX5_inside_8 : decode cX5_inside 8 = .ok (.iconst 1, 1) := by decide +kernel
theorem dX5_inside_9 : decode cX5_inside 9 = .ok (.goto 19, 3) := by decide +kernel
theorem dX5_inside_12 : decode cX5_inside 12 = .ok (.iload_n 2, 1) := by decide +kernel
theorem dX5_inside_13 : decode cX5_inside 13 = .ok (.iconst 0, 1) := by decide +kernel
theorem dX5_inside_14 : decode cX5_inside 14 = .ok (.sipush 2999, 3) := by decide +kernel
theorem dX5_inside_17 : decode cX5_inside 17 = .ok (.invokestatic 84, 3) := by decide +kernel
theorem dX5_inside_20 : decode cX5_inside 20 = .ok (.ifCond .eq 7, 3) := by decide +kernel
theorem dX5_inside_23 : decode cX5_inside 23 = .ok (.iconst 0, 1) := by decide +kernel
theorem dX5_inside_24 : decode cX5_inside 24 = .ok (.goto 4, 3) := by decide +kernel
theorem dX5_inside_27 : decode cX5_inside 27 = .ok (.iconst 2, 1) := by decide +kernel
theorem dX5_inside_28 : decode cX5_inside 28 = .ok (.invokevirtual 91, 3) := by decide +kernel
theorem dX5_inside_31 : decode cX5_inside 31 = .ok (.ifCond .ne 5, 3) := by decide +kernel
theorem dX5_inside_34 : decode cX5_inside 34 = .ok (.iconst 0, 1) := by decide +kernel
theorem dX5_inside_35 : decode cX5_inside 35 = .ok (.ireturn, 1) := by decide +kernel
theorem dX5_inside_36 : decode cX5_inside 36 = .ok (.iconst 0, 1) := by decide +kernel
theorem dX5_inside_37 : decode cX5_inside 37 = .ok (.istore_n 3, 1) := by decide +kernel
theorem dX5_inside_38 : decode cX5_inside 38 = .ok (.iconst 0, 1) := by decide +kernel
theorem dX5_inside_39 : decode cX5_inside 39 = .ok (.istore 4, 2) := by decide +kernel
theorem dX5_inside_41 : decode cX5_inside 41 = .ok (.iload 4, 2) := by decide +kernel
theorem dX5_inside_43 : decode cX5_inside 43 = .ok (.aload_n 0, 1) := by decide +kernel
theorem dX5_inside_44 : decode cX5_inside 44 = .ok (.getfield 81, 3) := by decide +kernel
theorem dX5_inside_47 : decode cX5_inside 47 = .ok (.if_icmp .ge 85, 3) := by decide +kernel
theorem dX5_inside_50 : decode cX5_inside 50 = .ok (.aload_n 0, 1) := by decide +kernel
theorem dX5_inside_51 : decode cX5_inside 51 = .ok (.iload 4, 2) := by decide +kernel
theorem dX5_inside_53 : decode cX5_inside 53 = .ok (.iload_n 1, 1) := by decide +kernel
theorem dX5_inside_54 : decode cX5_inside 54 = .ok (.invokevirtual 105, 3) := by decide +kernel
theorem dX5_inside_57 : decode cX5_inside 57 = .ok (.ifCond .eq 15, 3) := by decide +kernel
theorem dX5_inside_60 : decode cX5_inside 60 = .ok (.iload_n 2, 1) := by decide +kernel
theorem dX5_inside_61 : decode cX5_inside 61 = .ok (.aload_n 0, 1) := by decide +kernel
theorem dX5_inside_62 : decode cX5_inside 62 = .ok (.iload 4, 2) := by decide +kernel
theorem dX5_inside_64 : decode cX5_inside 64 = .ok (.iload_n 1, 1) := by decide +kernel
theorem dX5_inside_65 : decode cX5_inside 65 = .ok (.invokevirtual 109, 3) := by decide +kernel
theorem dX5_inside_68 : decode cX5_inside 68 = .ok (.isub, 1) := by decide +kernel
theorem dX5_inside_69 : decode cX5_inside 69 = .ok (.goto 4, 3) := by decide +kernel
theorem dX5_inside_72 : decode cX5_inside 72 = .ok (.iconst (-1), 1) := by decide +kernel
theorem dX5_inside_73 : decode cX5_inside 73 = .ok (.istore 5, 2) := by decide +kernel
theorem dX5_inside_75 : decode cX5_inside 75 = .ok (.iload_n 3, 1) := by decide +kernel
theorem dX5_inside_76 : decode cX5_inside 76 = .ok (.aload_n 0, 1) := by decide +kernel
theorem dX5_inside_77 : decode cX5_inside 77 = .ok (.getfield 16, 3) := by decide +kernel
theorem dX5_inside_80 : decode cX5_inside 80 = .ok (.iload 4, 2) := by decide +kernel
theorem dX5_inside_82 : decode cX5_inside 82 = .ok (.iaload, 1) := by decide +kernel
theorem dX5_inside_83 : decode cX5_inside 83 = .ok (.iconst 2, 1) := by decide +kernel
theorem dX5_inside_84 : decode cX5_inside 84 = .ok (.if_icmp .eq 39, 3) := by decide +kernel
theorem dX5_inside_87 : decode cX5_inside 87 = .ok (.aload_n 0, 1) := by decide +kernel
theorem dX5_inside_88 : decode cX5_inside 88 = .ok (.iload 4, 2) := by decide +kernel
theorem dX5_inside_90 : decode cX5_inside 90 = .ok (.iload_n 1, 1) := by decide +kernel
theorem dX5_inside_91 : decode cX5_inside 91 = .ok (.invokevirtual 105, 3) := by decide +kernel
theorem dX5_inside_94 : decode cX5_inside 94 = .ok (.ifCond .eq 29, 3) := by decide +kernel
theorem dX5_inside_97 : decode cX5_inside 97 = .ok (.iload 5, 2) := by decide +kernel
theorem dX5_inside_99 : decode cX5_inside 99 = .ok (.ifCond .lt 24, 3) := by decide +kernel
theorem dX5_inside_102 : decode cX5_inside 102 = .ok (.iload 5, 2) := by decide +kernel
theorem dX5_inside_104 : decode cX5_inside 104 = .ok (.aload_n 0, 1) := by decide +kernel
theorem dX5_inside_105 : decode cX5_inside 105 = .ok (.getfield 44, 3) := by decide +kernel
theorem dX5_inside_108 : decode cX5_inside 108 = .ok (.bipush 6, 2) := by decide +kernel
theorem dX5_inside_110 : decode cX5_inside 110 = .ok (.iload 4, 2) := by decide +kernel
theorem dX5_inside_112 : decode cX5_inside 112 = .ok (.imul, 1) := by decide +kernel
theorem dX5_inside_113 : decode cX5_inside 113 = .ok (.iload_n 1, 1) := by decide +kernel
theorem dX5_inside_114 : decode cX5_inside 114 = .ok (.iadd, 1) := by decide +kernel
theorem dX5_inside_115 : decode cX5_inside 115 = .ok (.iaload, 1) := by decide +kernel
theorem dX5_inside_116 : decode cX5_inside 116 = .ok (.if_icmp .ge 7, 3) := by decide +kernel
theorem dX5_inside_119 : decode cX5_inside 119 = .ok (.iconst 1, 1) := by decide +kernel
theorem dX5_inside_120 : decode cX5_inside 120 = .ok (.goto 4, 3) := by decide +kernel
theorem dX5_inside_123 : decode cX5_inside 123 = .ok (.iconst 0, 1) := by decide +kernel
theorem dX5_inside_124 : decode cX5_inside 124 = .ok (.iadd, 1) := by decide +kernel
theorem dX5_inside_125 : decode cX5_inside 125 = .ok (.istore_n 3, 1) := by decide +kernel
theorem dX5_inside_126 : decode cX5_inside 126 = .ok (.iinc 4 1, 3) := by decide +kernel
theorem dX5_inside_129 : decode cX5_inside 129 = .ok (.goto (-88), 3) := by decide +kernel
theorem dX5_inside_132 : decode cX5_inside 132 = .ok (.iload_n 3, 1) := by decide +kernel
theorem dX5_inside_133 : decode cX5_inside 133 = .ok (.ireturn, 1) := by decide +kernel
theorem dX5_peak_0 : decode cX5_peak 0 = .ok (.aload_n 0, 1) := by decide +kernel
theorem dX5_peak_1 : decode cX5_peak 1 = .ok (.iload_n 1, 1) := by decide +kernel
theorem dX5_peak_2 : decode cX5_peak 2 = .ok (.invokestatic 98, 3) := by decide +kernel
theorem dX5_peak_5 : decode cX5_peak 5 = .ok (.ifCond .ne 7, 3) := by decide +kernel
theorem dX5_peak_8 : decode cX5_peak 8 = .ok (.iconst 1, 1) := by decide +kernel
theorem dX5_peak_9 : decode cX5_peak 9 = .ok (.goto 19, 3) := by decide +kernel
theorem dX5_peak_12 : decode cX5_peak 12 = .ok (.iload_n 2, 1) := by decide +kernel
theorem dX5_peak_13 : decode cX5_peak 13 = .ok (.iconst 1, 1) := by decide +kernel
theorem dX5_peak_14 : decode cX5_peak 14 = .ok (.sipush 240, 3) := by decide +kernel
theorem dX5_peak_17 : decode cX5_peak 17 = .ok (.invokestatic 84, 3) := by decide +kernel
theorem dX5_peak_20 : decode cX5_peak 20 = .ok (.ifCond .eq 7, 3) := by decide +kernel
theorem dX5_peak_23 : decode cX5_peak 23 = .ok (.iconst 0, 1) := by decide +kernel
theorem dX5_peak_24 : decode cX5_peak 24 = .ok (.goto 4, 3) := by decide +kernel
theorem dX5_peak_27 : decode cX5_peak 27 = .ok (.iconst 2, 1) := by decide +kernel
theorem dX5_peak_28 : decode cX5_peak 28 = .ok (.invokevirtual 91, 3) := by decide +kernel
theorem dX5_peak_31 : decode cX5_peak 31 = .ok (.ifCond .ne 5, 3) := by decide +kernel
theorem dX5_peak_34 : decode cX5_peak 34 = .ok (.iconst 0, 1) := by decide +kernel
theorem dX5_peak_35 : decode cX5_peak 35 = .ok (.ireturn, 1) := by decide +kernel
theorem dX5_peak_36 : decode cX5_peak 36 = .ok (.iconst 0, 1) := by decide +kernel
theorem dX5_peak_37 : decode cX5_peak 37 = .ok (.istore_n 3, 1) := by decide +kernel
theorem dX5_peak_38 : decode cX5_peak 38 = .ok (.iconst 0, 1) := by decide +kernel
theorem dX5_peak_39 : decode cX5_peak 39 = .ok (.istore 4, 2) := by decide +kernel
theorem dX5_peak_41 : decode cX5_peak 41 = .ok (.iload 4, 2) := by decide +kernel
theorem dX5_peak_43 : decode cX5_peak 43 = .ok (.aload_n 0, 1) := by decide +kernel
theorem dX5_peak_44 : decode cX5_peak 44 = .ok (.getfield 81, 3) := by decide +kernel
theorem dX5_peak_47 : decode cX5_peak 47 = .ok (.if_icmp .ge 62, 3) := by decide +kernel
theorem dX5_peak_50 : decode cX5_peak 50 = .ok (.aload_n 0, 1) := by decide +kernel
theorem dX5_peak_51 : decode cX5_peak 51 = .ok (.getfield 16, 3) := by decide +kernel
theorem dX5_peak_54 : decode cX5_peak 54 = .ok (.iload 4, 2) := by decide +kernel
theorem dX5_peak_56 : decode cX5_peak 56 = .ok (.iaload, 1) := by decide +kernel
theorem dX5_peak_57 : decode cX5_peak 57 = .ok (.iconst 2, 1) := by decide +kernel
theorem dX5_peak_58 : decode cX5_peak 58 = .ok (.if_icmp .eq 29, 3) := by decide +kernel
theorem dX5_peak_61 : decode cX5_peak 61 = .ok (.aload_n 0, 1) := by decide +kernel
theorem dX5_peak_62 : decode cX5_peak 62 = .ok (.iload 4, 2) := by decide +kernel
theorem dX5_peak_64 : decode cX5_peak 64 = .ok (.iload_n 1, 1) := by decide +kernel
theorem dX5_peak_65 : decode cX5_peak 65 = .ok (.invokevirtual 105, 3) := by decide +kernel
theorem dX5_peak_68 : decode cX5_peak 68 = .ok (.ifCond .eq 19, 3) := by decide +kernel
theorem dX5_peak_71 : decode cX5_peak 71 = .ok (.aload_n 0, 1) := by decide +kernel
theorem dX5_peak_72 : decode cX5_peak 72 = .ok (.iload_n 1, 1) := by decide +kernel
theorem dX5_peak_73 : decode cX5_peak 73 = .ok (.aload_n 0, 1) := by decide +kernel
theorem dX5_peak_74 : decode cX5_peak 74 = .ok (.iload 4, 2) := by decide +kernel
theorem dX5_peak_76 : decode cX5_peak 76 = .ok (.iload_n 1, 1) := by decide +kernel
theorem dX5_peak_77 : decode cX5_peak 77 = .ok (.invokevirtual 109, 3) := by decide +kernel
theorem dX5_peak_80 : decode cX5_peak 80 = .ok (.iload_n 2, 1) := by decide +kernel
theorem dX5_peak_81 : decode cX5_peak 81 = .ok (.invokevirtual 113, 3) := by decide +kernel
theorem dX5_peak_84 : decode cX5_peak 84 = .ok (.goto 4, 3) := by decide +kernel
theorem dX5_peak_87 : decode cX5_peak 87 = .ok (.iconst 0, 1) := by decide +kernel
theorem dX5_peak_88 : decode cX5_peak 88 = .ok (.istore 5, 2) := by decide +kernel
theorem dX5_peak_90 : decode cX5_peak 90 = .ok (.iload 5, 2) := by decide +kernel
theorem dX5_peak_92 : decode cX5_peak 92 = .ok (.iload_n 3, 1) := by decide +kernel
theorem dX5_peak_93 : decode cX5_peak 93 = .ok (.if_icmp .le 8, 3) := by decide +kernel
theorem dX5_peak_96 : decode cX5_peak 96 = .ok (.iload 5, 2) := by decide +kernel
theorem dX5_peak_98 : decode cX5_peak 98 = .ok (.goto 4, 3) := by decide +kernel
theorem dX5_peak_101 : decode cX5_peak 101 = .ok (.iload_n 3, 1) := by decide +kernel
theorem dX5_peak_102 : decode cX5_peak 102 = .ok (.istore_n 3, 1) := by decide +kernel
theorem dX5_peak_103 : decode cX5_peak 103 = .ok (.iinc 4 1, 3) := by decide +kernel
theorem dX5_peak_106 : decode cX5_peak 106 = .ok (.goto (-65), 3) := by decide +kernel
theorem dX5_peak_109 : decode cX5_peak 109 = .ok (.iload_n 3, 1) := by decide +kernel
theorem dX5_peak_110 : decode cX5_peak 110 = .ok (.ireturn, 1) := by decide +kernel
theorem dX5_peakAnew_0 : decode cX5_peakAnew 0 = .ok (.aload_n 0, 1) := by decide +kernel
theorem dX5_peakAnew_1 : decode cX5_peakAnew 1 = .ok (.iload_n 1, 1) := by decide +kernel
theorem dX5_peakAnew_2 : decode cX5_peakAnew 2 = .ok (.iload_n 2, 1) := by decide +kernel
theorem dX5_peakAnew_3 : decode cX5_peakAnew 3 = .ok (.invokevirtual 117, 3) := by decide +kernel
theorem dX5_peakAnew_6 : decode cX5_peakAnew 6 = .ok (.ireturn, 1) := by decide +kernel
theorem dX5_isPart_0 : decode cX5_isPart 0 = .ok (.iload_n 0, 1) := by decide +kernel
theorem dX5_isPart_1 : decode cX5_isPart 1 = .ok (.iconst 0, 1) := by decide +kernel
theorem dX5_isPart_2 : decode cX5_isPart 2 = .ok (.sipush 1439, 3) := by decide +kernel
theorem dX5_isPart_5 : decode cX5_isPart 5 = .ok (.invokestatic 84, 3) := by decide +kernel
theorem dX5_isPart_8 : decode cX5_isPart 8 = .ok (.ifCond .eq 30, 3) := by decide +kernel
theorem dX5_isPart_11 : decode cX5_isPart 11 = .ok (.iload_n 1, 1) := by decide +kernel
theorem dX5_isPart_12 : decode cX5_isPart 12 = .ok (.iload_n 0, 1) := by decide +kernel
theorem dX5_isPart_13 : decode cX5_isPart 13 = .ok (.iconst 1, 1) := by decide +kernel
theorem dX5_isPart_14 : decode cX5_isPart 14 = .ok (.iadd, 1) := by decide +kernel
theorem dX5_isPart_15 : decode cX5_isPart 15 = .ok (.sipush 1440, 3) := by decide +kernel
theorem dX5_isPart_18 : decode cX5_isPart 18 = .ok (.invokestatic 84, 3) := by decide +kernel
theorem dX5_isPart_21 : decode cX5_isPart 21 = .ok (.ifCond .eq 17, 3) := by decide +kernel
theorem dX5_isPart_24 : decode cX5_isPart 24 = .ok (.iload_n 2, 1) := by decide +kernel
theorem dX5_isPart_25 : decode cX5_isPart 25 = .ok (.iconst 0, 1) := by decide +kernel
theorem dX5_isPart_26 : decode cX5_isPart 26 = .ok (.bipush 60, 2) := by decide +kernel
theorem dX5_isPart_28 : decode cX5_isPart 28 = .ok (.invokestatic 84, 3) := by decide +kernel
theorem dX5_isPart_31 : decode cX5_isPart 31 = .ok (.ifCond .eq 7, 3) := by decide +kernel
theorem dX5_isPart_34 : decode cX5_isPart 34 = .ok (.iconst 1, 1) := by decide +kernel
theorem dX5_isPart_35 : decode cX5_isPart 35 = .ok (.goto 4, 3) := by decide +kernel
theorem dX5_isPart_38 : decode cX5_isPart 38 = .ok (.iconst 0, 1) := by decide +kernel
theorem dX5_isPart_39 : decode cX5_isPart 39 = .ok (.ireturn, 1) := by decide +kernel
theorem dX5_lays_0 : decode cX5_lays 0 = .ok (.aload_n 0, 1) := by decide +kernel
theorem dX5_lays_1 : decode cX5_lays 1 = .ok (.getfield 47, 3) := by decide +kernel
theorem dX5_lays_4 : decode cX5_lays 4 = .ok (.iload_n 1, 1) := by decide +kernel
theorem dX5_lays_5 : decode cX5_lays 5 = .ok (.iload_n 2, 1) := by decide +kernel
theorem dX5_lays_6 : decode cX5_lays 6 = .ok (.iastore, 1) := by decide +kernel
theorem dX5_lays_7 : decode cX5_lays 7 = .ok (.aload_n 0, 1) := by decide +kernel
theorem dX5_lays_8 : decode cX5_lays 8 = .ok (.getfield 50, 3) := by decide +kernel
theorem dX5_lays_11 : decode cX5_lays 11 = .ok (.iload_n 1, 1) := by decide +kernel
theorem dX5_lays_12 : decode cX5_lays 12 = .ok (.iload_n 3, 1) := by decide +kernel
theorem dX5_lays_13 : decode cX5_lays 13 = .ok (.iastore, 1) := by decide +kernel
theorem dX5_lays_14 : decode cX5_lays 14 = .ok (.aload_n 0, 1) := by decide +kernel
theorem dX5_lays_15 : decode cX5_lays 15 = .ok (.getfield 53, 3) := by decide +kernel
theorem dX5_lays_18 : decode cX5_lays 18 = .ok (.iload_n 1, 1) := by decide +kernel
theorem dX5_lays_19 : decode cX5_lays 19 = .ok (.iload 4, 2) := by decide +kernel
theorem dX5_lays_21 : decode cX5_lays 21 = .ok (.iastore, 1) := by decide +kernel
theorem dX5_lays_22 : decode cX5_lays 22 = .ok (.aload_n 0, 1) := by decide +kernel
theorem dX5_lays_23 : decode cX5_lays 23 = .ok (.getfield 56, 3) := by decide +kernel
theorem dX5_lays_26 : decode cX5_lays 26 = .ok (.iload_n 1, 1) := by decide +kernel
theorem dX5_lays_27 : decode cX5_lays 27 = .ok (.iload 5, 2) := by decide +kernel
theorem dX5_lays_29 : decode cX5_lays 29 = .ok (.iastore, 1) := by decide +kernel
theorem dX5_lays_30 : decode cX5_lays 30 = .ok (.return_, 1) := by decide +kernel
theorem dX5_regulation_0 : decode cX5_regulation 0 = .ok (.aload_n 0, 1) := by decide +kernel
theorem dX5_regulation_1 : decode cX5_regulation 1 = .ok (.iload_n 1, 1) := by decide +kernel
theorem dX5_regulation_2 : decode cX5_regulation 2 = .ok (.invokestatic 98, 3) := by decide +kernel
theorem dX5_regulation_5 : decode cX5_regulation 5 = .ok (.ifCond .ne 7, 3) := by decide +kernel
theorem dX5_regulation_8 : decode cX5_regulation 8 = .ok (.iconst 1, 1) := by decide +kernel
theorem dX5_regulation_9 : decode cX5_regulation 9 = .ok (.goto 31, 3) := by decide +kernel
theorem dX5_regulation_12 : decode cX5_regulation 12 = .ok (.iload_n 2, 1) := by decide +kernel
theorem dX5_regulation_13 : decode cX5_regulation 13 = .ok (.iload_n 3, 1) := by decide +kernel
theorem dX5_regulation_14 : decode cX5_regulation 14 = .ok (.iload 4, 2) := by decide +kernel
theorem dX5_regulation_16 : decode cX5_regulation 16 = .ok (.invokestatic 120, 3) := by decide +kernel
theorem dX5_regulation_19 : decode cX5_regulation 19 = .ok (.ifCond .ne 7, 3) := by decide +kernel
theorem dX5_regulation_22 : decode cX5_regulation 22 = .ok (.iconst 2, 1) := by decide +kernel
theorem dX5_regulation_23 : decode cX5_regulation 23 = .ok (.goto 17, 3) := by decide +kernel
theorem dX5_regulation_26 : decode cX5_regulation 26 = .ok (.aload_n 0, 1) := by decide +kernel
theorem dX5_regulation_27 : decode cX5_regulation 27 = .ok (.getfield 88, 3) := by decide +kernel
theorem dX5_regulation_30 : decode cX5_regulation 30 = .ok (.bipush 6, 2) := by decide +kernel
theorem dX5_regulation_32 : decode cX5_regulation 32 = .ok (.if_icmp .ne 7, 3) := by decide +kernel
theorem dX5_regulation_35 : decode cX5_regulation 35 = .ok (.iconst 3, 1) := by decide +kernel
theorem dX5_regulation_36 : decode cX5_regulation 36 = .ok (.goto 4, 3) := by decide +kernel
theorem dX5_regulation_39 : decode cX5_regulation 39 = .ok (.iconst 0, 1) := by decide +kernel
theorem dX5_regulation_40 : decode cX5_regulation 40 = .ok (.invokevirtual 91, 3) := by decide +kernel
theorem dX5_regulation_43 : decode cX5_regulation 43 = .ok (.ifCond .ne 5, 3) := by decide +kernel
theorem dX5_regulation_46 : decode cX5_regulation 46 = .ok (.iconst 0, 1) := by decide +kernel
theorem dX5_regulation_47 : decode cX5_regulation 47 = .ok (.ireturn, 1) := by decide +kernel
theorem dX5_regulation_48 : decode cX5_regulation 48 = .ok (.aload_n 0, 1) := by decide +kernel
theorem dX5_regulation_49 : decode cX5_regulation 49 = .ok (.aload_n 0, 1) := by decide +kernel
theorem dX5_regulation_50 : decode cX5_regulation 50 = .ok (.getfield 88, 3) := by decide +kernel
theorem dX5_regulation_53 : decode cX5_regulation 53 = .ok (.iload_n 1, 1) := by decide +kernel
theorem dX5_regulation_54 : decode cX5_regulation 54 = .ok (.iload_n 2, 1) := by decide +kernel
theorem dX5_regulation_55 : decode cX5_regulation 55 = .ok (.iload_n 3, 1) := by decide +kernel
theorem dX5_regulation_56 : decode cX5_regulation 56 = .ok (.iload 4, 2) := by decide +kernel
theorem dX5_regulation_58 : decode cX5_regulation 58 = .ok (.invokevirtual 123, 3) := by decide +kernel
theorem dX5_regulation_61 : decode cX5_regulation 61 = .ok (.aload_n 0, 1) := by decide +kernel
theorem dX5_regulation_62 : decode cX5_regulation 62 = .ok (.dup, 1) := by decide +kernel
theorem dX5_regulation_63 : decode cX5_regulation 63 = .ok (.getfield 88, 3) := by decide +kernel
theorem dX5_regulation_66 : decode cX5_regulation 66 = .ok (.iconst 1, 1) := by decide +kernel
theorem dX5_regulation_67 : decode cX5_regulation 67 = .ok (.iadd, 1) := by decide +kernel
theorem dX5_regulation_68 : decode cX5_regulation 68 = .ok (.putfield 88, 3) := by decide +kernel
theorem dX5_regulation_71 : decode cX5_regulation 71 = .ok (.aload_n 0, 1) := by decide +kernel
theorem dX5_regulation_72 : decode cX5_regulation 72 = .ok (.getfield 88, 3) := by decide +kernel
theorem dX5_regulation_75 : decode cX5_regulation 75 = .ok (.iconst 1, 1) := by decide +kernel
theorem dX5_regulation_76 : decode cX5_regulation 76 = .ok (.isub, 1) := by decide +kernel
theorem dX5_regulation_77 : decode cX5_regulation 77 = .ok (.ireturn, 1) := by decide +kernel
theorem dX5_rate_0 : decode cX5_rate 0 = .ok (.aload_n 0, 1) := by decide +kernel
theorem dX5_rate_1 : decode cX5_rate 1 = .ok (.iload_n 1, 1) := by decide +kernel
theorem dX5_rate_2 : decode cX5_rate 2 = .ok (.invokevirtual 127, 3) := by decide +kernel
theorem dX5_rate_5 : decode cX5_rate 5 = .ok (.istore_n 3, 1) := by decide +kernel
theorem dX5_rate_6 : decode cX5_rate 6 = .ok (.aload_n 0, 1) := by decide +kernel
theorem dX5_rate_7 : decode cX5_rate 7 = .ok (.iload_n 3, 1) := by decide +kernel
theorem dX5_rate_8 : decode cX5_rate 8 = .ok (.ifCond .ne 7, 3) := by decide +kernel
theorem dX5_rate_11 : decode cX5_rate 11 = .ok (.iconst 1, 1) := by decide +kernel
theorem dX5_rate_12 : decode cX5_rate 12 = .ok (.goto 31, 3) := by decide +kernel
theorem dX5_rate_15 : decode cX5_rate 15 = .ok (.iload_n 2, 1) := by decide +kernel
theorem dX5_rate_16 : decode cX5_rate 16 = .ok (.iconst 0, 1) := by decide +kernel
theorem dX5_rate_17 : decode cX5_rate 17 = .ok (.bipush 60, 2) := by decide +kernel
theorem dX5_rate_19 : decode cX5_rate 19 = .ok (.invokestatic 84, 3) := by decide +kernel
theorem dX5_rate_22 : decode cX5_rate 22 = .ok (.ifCond .ne 7, 3) := by decide +kernel
theorem dX5_rate_25 : decode cX5_rate 25 = .ok (.iconst 2, 1) := by decide +kernel
theorem dX5_rate_26 : decode cX5_rate 26 = .ok (.goto 17, 3) := by decide +kernel
theorem dX5_rate_29 : decode cX5_rate 29 = .ok (.aload_n 0, 1) := by decide +kernel
theorem dX5_rate_30 : decode cX5_rate 30 = .ok (.getfield 62, 3) := by decide +kernel
theorem dX5_rate_33 : decode cX5_rate 33 = .ok (.iload_n 1, 1) := by decide +kernel
theorem dX5_rate_34 : decode cX5_rate 34 = .ok (.baload, 1) := by decide +kernel
theorem dX5_rate_35 : decode cX5_rate 35 = .ok (.ifCond .eq 7, 3) := by decide +kernel
theorem dX5_rate_38 : decode cX5_rate 38 = .ok (.iconst 3, 1) := by decide +kernel
theorem dX5_rate_39 : decode cX5_rate 39 = .ok (.goto 4, 3) := by decide +kernel
theorem dX5_rate_42 : decode cX5_rate 42 = .ok (.iconst 0, 1) := by decide +kernel
theorem dX5_rate_43 : decode cX5_rate 43 = .ok (.invokevirtual 91, 3) := by decide +kernel
theorem dX5_rate_46 : decode cX5_rate 46 = .ok (.ifCond .ne 5, 3) := by decide +kernel
theorem dX5_rate_49 : decode cX5_rate 49 = .ok (.iconst 0, 1) := by decide +kernel
theorem dX5_rate_50 : decode cX5_rate 50 = .ok (.ireturn, 1) := by decide +kernel
theorem dX5_rate_51 : decode cX5_rate 51 = .ok (.aload_n 0, 1) := by decide +kernel
theorem dX5_rate_52 : decode cX5_rate 52 = .ok (.getfield 56, 3) := by decide +kernel
theorem dX5_rate_55 : decode cX5_rate 55 = .ok (.iload_n 1, 1) := by decide +kernel
theorem dX5_rate_56 : decode cX5_rate 56 = .ok (.iaload, 1) := by decide +kernel
theorem dX5_rate_57 : decode cX5_rate 57 = .ok (.istore 4, 2) := by decide +kernel
theorem dX5_rate_59 : decode cX5_rate 59 = .ok (.aload_n 0, 1) := by decide +kernel
theorem dX5_rate_60 : decode cX5_rate 60 = .ok (.getfield 56, 3) := by decide +kernel
theorem dX5_rate_63 : decode cX5_rate 63 = .ok (.iload_n 1, 1) := by decide +kernel
theorem dX5_rate_64 : decode cX5_rate 64 = .ok (.iload_n 2, 1) := by decide +kernel
theorem dX5_rate_65 : decode cX5_rate 65 = .ok (.iastore, 1) := by decide +kernel
theorem dX5_rate_66 : decode cX5_rate 66 = .ok (.iload 4, 2) := by decide +kernel
theorem dX5_rate_68 : decode cX5_rate 68 = .ok (.ireturn, 1) := by decide +kernel
theorem dX5_end_0 : decode cX5_end 0 = .ok (.aload_n 0, 1) := by decide +kernel
theorem dX5_end_1 : decode cX5_end 1 = .ok (.iload_n 1, 1) := by decide +kernel
theorem dX5_end_2 : decode cX5_end 2 = .ok (.invokevirtual 127, 3) := by decide +kernel
theorem dX5_end_5 : decode cX5_end 5 = .ok (.istore_n 2, 1) := by decide +kernel
theorem dX5_end_6 : decode cX5_end 6 = .ok (.aload_n 0, 1) := by decide +kernel
theorem dX5_end_7 : decode cX5_end 7 = .ok (.iload_n 2, 1) := by decide +kernel
theorem dX5_end_8 : decode cX5_end 8 = .ok (.ifCond .ne 7, 3) := by decide +kernel
theorem dX5_end_11 : decode cX5_end 11 = .ok (.iconst 1, 1) := by decide +kernel
theorem dX5_end_12 : decode cX5_end 12 = .ok (.goto 17, 3) := by decide +kernel
theorem dX5_end_15 : decode cX5_end 15 = .ok (.aload_n 0, 1) := by decide +kernel
theorem dX5_end_16 : decode cX5_end 16 = .ok (.getfield 62, 3) := by decide +kernel
theorem dX5_end_19 : decode cX5_end 19 = .ok (.iload_n 1, 1) := by decide +kernel
theorem dX5_end_20 : decode cX5_end 20 = .ok (.baload, 1) := by decide +kernel
theorem dX5_end_21 : decode cX5_end 21 = .ok (.ifCond .eq 7, 3) := by decide +kernel
theorem dX5_end_24 : decode cX5_end 24 = .ok (.iconst 2, 1) := by decide +kernel
theorem dX5_end_25 : decode cX5_end 25 = .ok (.goto 4, 3) := by decide +kernel
theorem dX5_end_28 : decode cX5_end 28 = .ok (.iconst 0, 1) := by decide +kernel
theorem dX5_end_29 : decode cX5_end 29 = .ok (.invokevirtual 91, 3) := by decide +kernel
theorem dX5_end_32 : decode cX5_end 32 = .ok (.ifCond .eq 10, 3) := by decide +kernel
theorem dX5_end_35 : decode cX5_end 35 = .ok (.aload_n 0, 1) := by decide +kernel
theorem dX5_end_36 : decode cX5_end 36 = .ok (.getfield 62, 3) := by decide +kernel
theorem dX5_end_39 : decode cX5_end 39 = .ok (.iload_n 1, 1) := by decide +kernel
theorem dX5_end_40 : decode cX5_end 40 = .ok (.iconst 1, 1) := by decide +kernel
theorem dX5_end_41 : decode cX5_end 41 = .ok (.bastore, 1) := by decide +kernel
theorem dX5_end_42 : decode cX5_end 42 = .ok (.return_, 1) := by decide +kernel
theorem dX5_begin_0 : decode cX5_begin 0 = .ok (.aload_n 0, 1) := by decide +kernel
theorem dX5_begin_1 : decode cX5_begin 1 = .ok (.getfield 50, 3) := by decide +kernel
theorem dX5_begin_4 : decode cX5_begin 4 = .ok (.iload_n 1, 1) := by decide +kernel
theorem dX5_begin_5 : decode cX5_begin 5 = .ok (.iaload, 1) := by decide +kernel
theorem dX5_begin_6 : decode cX5_begin 6 = .ok (.bipush 60, 2) := by decide +kernel
theorem dX5_begin_8 : decode cX5_begin 8 = .ok (.iload_n 2, 1) := by decide +kernel
theorem dX5_begin_9 : decode cX5_begin 9 = .ok (.imul, 1) := by decide +kernel
theorem dX5_begin_10 : decode cX5_begin 10 = .ok (.aload_n 0, 1) := by decide +kernel
theorem dX5_begin_11 : decode cX5_begin 11 = .ok (.getfield 56, 3) := by decide +kernel
theorem dX5_begin_14 : decode cX5_begin 14 = .ok (.iload_n 1, 1) := by decide +kernel
theorem dX5_begin_15 : decode cX5_begin 15 = .ok (.iaload, 1) := by decide +kernel
theorem dX5_begin_16 : decode cX5_begin 16 = .ok (.idiv, 1) := by decide +kernel
theorem dX5_begin_17 : decode cX5_begin 17 = .ok (.iadd, 1) := by decide +kernel
theorem dX5_begin_18 : decode cX5_begin 18 = .ok (.ireturn, 1) := by decide +kernel
theorem dX5_ending_0 : decode cX5_ending 0 = .ok (.iload_n 2, 1) := by decide +kernel
theorem dX5_ending_1 : decode cX5_ending 1 = .ok (.iconst 1, 1) := by decide +kernel
theorem dX5_ending_2 : decode cX5_ending 2 = .ok (.iadd, 1) := by decide +kernel
theorem dX5_ending_3 : decode cX5_ending 3 = .ok (.aload_n 0, 1) := by decide +kernel
theorem dX5_ending_4 : decode cX5_ending 4 = .ok (.getfield 130, 3) := by decide +kernel
theorem dX5_ending_7 : decode cX5_ending 7 = .ok (.if_icmp .ge 14, 3) := by decide +kernel
theorem dX5_ending_10 : decode cX5_ending 10 = .ok (.aload_n 0, 1) := by decide +kernel
theorem dX5_ending_11 : decode cX5_ending 11 = .ok (.iload_n 1, 1) := by decide +kernel
theorem dX5_ending_12 : decode cX5_ending 12 = .ok (.iload_n 2, 1) := by decide +kernel
theorem dX5_ending_13 : decode cX5_ending 13 = .ok (.iconst 1, 1) := by decide +kernel
theorem dX5_ending_14 : decode cX5_ending 14 = .ok (.iadd, 1) := by decide +kernel
theorem dX5_ending_15 : decode cX5_ending 15 = .ok (.invokevirtual 133, 3) := by decide +kernel
theorem dX5_ending_18 : decode cX5_ending 18 = .ok (.goto 9, 3) := by decide +kernel
theorem dX5_ending_21 : decode cX5_ending 21 = .ok (.aload_n 0, 1) := by decide +kernel
theorem dX5_ending_22 : decode cX5_ending 22 = .ok (.getfield 53, 3) := by decide +kernel
theorem dX5_ending_25 : decode cX5_ending 25 = .ok (.iload_n 1, 1) := by decide +kernel
theorem dX5_ending_26 : decode cX5_ending 26 = .ok (.iaload, 1) := by decide +kernel
theorem dX5_ending_27 : decode cX5_ending 27 = .ok (.ireturn, 1) := by decide +kernel
theorem dX5_timeOf_0 : decode cX5_timeOf 0 = .ok (.aload_n 0, 1) := by decide +kernel
theorem dX5_timeOf_1 : decode cX5_timeOf 1 = .ok (.getfield 47, 3) := by decide +kernel
theorem dX5_timeOf_4 : decode cX5_timeOf 4 = .ok (.iload_n 1, 1) := by decide +kernel
theorem dX5_timeOf_5 : decode cX5_timeOf 5 = .ok (.iaload, 1) := by decide +kernel
theorem dX5_timeOf_6 : decode cX5_timeOf 6 = .ok (.istore 4, 2) := by decide +kernel
theorem dX5_timeOf_8 : decode cX5_timeOf 8 = .ok (.aload_n 0, 1) := by decide +kernel
theorem dX5_timeOf_9 : decode cX5_timeOf 9 = .ok (.iload_n 2, 1) := by decide +kernel
theorem dX5_timeOf_10 : decode cX5_timeOf 10 = .ok (.iload 4, 2) := by decide +kernel
theorem dX5_timeOf_12 : decode cX5_timeOf 12 = .ok (.invokevirtual 105, 3) := by decide +kernel
theorem dX5_timeOf_15 : decode cX5_timeOf 15 = .ok (.ifCond .ne 5, 3) := by decide +kernel
theorem dX5_timeOf_18 : decode cX5_timeOf 18 = .ok (.iconst (-1), 1) := by decide +kernel
theorem dX5_timeOf_19 : decode cX5_timeOf 19 = .ok (.ireturn, 1) := by decide +kernel
theorem dX5_timeOf_20 : decode cX5_timeOf 20 = .ok (.iload_n 3, 1) := by decide +kernel
theorem dX5_timeOf_21 : decode cX5_timeOf 21 = .ok (.ifCond .eq 39, 3) := by decide +kernel
theorem dX5_timeOf_24 : decode cX5_timeOf 24 = .ok (.aload_n 0, 1) := by decide +kernel
theorem dX5_timeOf_25 : decode cX5_timeOf 25 = .ok (.getfield 16, 3) := by decide +kernel
theorem dX5_timeOf_28 : decode cX5_timeOf 28 = .ok (.iload_n 2, 1) := by decide +kernel
theorem dX5_timeOf_29 : decode cX5_timeOf 29 = .ok (.iaload, 1) := by decide +kernel
theorem dX5_timeOf_30 : decode cX5_timeOf 30 = .ok (.iconst 1, 1) := by decide +kernel
theorem dX5_timeOf_31 : decode cX5_timeOf 31 = .ok (.if_icmp .eq 21, 3) := by decide +kernel
theorem dX5_timeOf_34 : decode cX5_timeOf 34 = .ok (.aload_n 0, 1) := by decide +kernel
theorem dX5_timeOf_35 : decode cX5_timeOf 35 = .ok (.getfield 16, 3) := by decide +kernel
theorem dX5_timeOf_38 : decode cX5_timeOf 38 = .ok (.iload_n 2, 1) := by decide +kernel
theorem dX5_timeOf_39 : decode cX5_timeOf 39 = .ok (.iaload, 1) := by decide +kernel
theorem dX5_timeOf_40 : decode cX5_timeOf 40 = .ok (.ifCond .ne 16, 3) := by decide +kernel
theorem dX5_timeOf_43 : decode cX5_timeOf 43 = .ok (.aload_n 0, 1) := by decide +kernel
theorem dX5_timeOf_44 : decode cX5_timeOf 44 = .ok (.getfield 37, 3) := by decide +kernel
theorem dX5_timeOf_47 : decode cX5_timeOf 47 = .ok (.iload_n 2, 1) := by decide +kernel
theorem dX5_timeOf_48 : decode cX5_timeOf 48 = .ok (.baload, 1) := by decide +kernel
theorem dX5_timeOf_49 : decode cX5_timeOf 49 = .ok (.ifCond .eq 7, 3) := by decide +kernel
theorem dX5_timeOf_52 : decode cX5_timeOf 52 = .ok (.iconst 1, 1) := by decide +kernel
theorem dX5_timeOf_53 : decode cX5_timeOf 53 = .ok (.goto 30, 3) := by decide +kernel
theorem dX5_timeOf_56 : decode cX5_timeOf 56 = .ok (.iconst 0, 1) := by decide +kernel
theorem dX5_timeOf_57 : decode cX5_timeOf 57 = .ok (.goto 26, 3) := by decide +kernel
theorem dX5_timeOf_60 : decode cX5_timeOf 60 = .ok (.aload_n 0, 1) := by decide +kernel
theorem dX5_timeOf_61 : decode cX5_timeOf 61 = .ok (.getfield 16, 3) := by decide +kernel
theorem dX5_timeOf_64 : decode cX5_timeOf 64 = .ok (.iload_n 2, 1) := by decide +kernel
theorem dX5_timeOf_65 : decode cX5_timeOf 65 = .ok (.iaload, 1) := by decide +kernel
theorem dX5_timeOf_66 : decode cX5_timeOf 66 = .ok (.ifCond .ne 16, 3) := by decide +kernel
theorem dX5_timeOf_69 : decode cX5_timeOf 69 = .ok (.aload_n 0, 1) := by decide +kernel
theorem dX5_timeOf_70 : decode cX5_timeOf 70 = .ok (.getfield 37, 3) := by decide +kernel
theorem dX5_timeOf_73 : decode cX5_timeOf 73 = .ok (.iload_n 2, 1) := by decide +kernel
theorem dX5_timeOf_74 : decode cX5_timeOf 74 = .ok (.baload, 1) := by decide +kernel
theorem dX5_timeOf_75 : decode cX5_timeOf 75 = .ok (.ifCond .ne 7, 3) := by decide +kernel
theorem dX5_timeOf_78 : decode cX5_timeOf 78 = .ok (.iconst 1, 1) := by decide +kernel
theorem dX5_timeOf_79 : decode cX5_timeOf 79 = .ok (.goto 4, 3) := by decide +kernel
theorem dX5_timeOf_82 : decode cX5_timeOf 82 = .ok (.iconst 0, 1) := by decide +kernel
theorem dX5_timeOf_83 : decode cX5_timeOf 83 = .ok (.istore 5, 2) := by decide +kernel
theorem dX5_timeOf_85 : decode cX5_timeOf 85 = .ok (.aload_n 0, 1) := by decide +kernel
theorem dX5_timeOf_86 : decode cX5_timeOf 86 = .ok (.getfield 16, 3) := by decide +kernel
theorem dX5_timeOf_89 : decode cX5_timeOf 89 = .ok (.iload_n 2, 1) := by decide +kernel
theorem dX5_timeOf_90 : decode cX5_timeOf 90 = .ok (.iaload, 1) := by decide +kernel
theorem dX5_timeOf_91 : decode cX5_timeOf 91 = .ok (.iconst 1, 1) := by decide +kernel
theorem dX5_timeOf_92 : decode cX5_timeOf 92 = .ok (.if_icmp .ne 13, 3) := by decide +kernel
theorem dX5_timeOf_95 : decode cX5_timeOf 95 = .ok (.aload_n 0, 1) := by decide +kernel
theorem dX5_timeOf_96 : decode cX5_timeOf 96 = .ok (.iload_n 2, 1) := by decide +kernel
theorem dX5_timeOf_97 : decode cX5_timeOf 97 = .ok (.iload 4, 2) := by decide +kernel
theorem dX5_timeOf_99 : decode cX5_timeOf 99 = .ok (.invokevirtual 109, 3) := by decide +kernel
theorem dX5_timeOf_102 : decode cX5_timeOf 102 = .ok (.goto 10, 3) := by decide +kernel
theorem dX5_timeOf_105 : decode cX5_timeOf 105 = .ok (.aload_n 0, 1) := by decide +kernel
theorem dX5_timeOf_106 : decode cX5_timeOf 106 = .ok (.iload_n 2, 1) := by decide +kernel
theorem dX5_timeOf_107 : decode cX5_timeOf 107 = .ok (.iload 4, 2) := by decide +kernel
theorem dX5_timeOf_109 : decode cX5_timeOf 109 = .ok (.invokevirtual 136, 3) := by decide +kernel
theorem dX5_timeOf_112 : decode cX5_timeOf 112 = .ok (.istore 6, 2) := by decide +kernel
theorem dX5_timeOf_114 : decode cX5_timeOf 114 = .ok (.iload 5, 2) := by decide +kernel
theorem dX5_timeOf_116 : decode cX5_timeOf 116 = .ok (.ifCond .eq 30, 3) := by decide +kernel
theorem dX5_timeOf_119 : decode cX5_timeOf 119 = .ok (.iload 6, 2) := by decide +kernel
theorem dX5_timeOf_121 : decode cX5_timeOf 121 = .ok (.aload_n 0, 1) := by decide +kernel
theorem dX5_timeOf_122 : decode cX5_timeOf 122 = .ok (.getfield 50, 3) := by decide +kernel
theorem dX5_timeOf_125 : decode cX5_timeOf 125 = .ok (.iload_n 1, 1) := by decide +kernel
theorem dX5_timeOf_126 : decode cX5_timeOf 126 = .ok (.iaload, 1) := by decide +kernel
theorem dX5_timeOf_127 : decode cX5_timeOf 127 = .ok (.if_icmp .lt 19, 3) := by decide +kernel
theorem dX5_timeOf_130 : decode cX5_timeOf 130 = .ok (.iload 6, 2) := by decide +kernel
theorem dX5_timeOf_132 : decode cX5_timeOf 132 = .ok (.aload_n 0, 1) := by decide +kernel
theorem dX5_timeOf_133 : decode cX5_timeOf 133 = .ok (.getfield 53, 3) := by decide +kernel
theorem dX5_timeOf_136 : decode cX5_timeOf 136 = .ok (.iload_n 1, 1) := by decide +kernel
theorem dX5_timeOf_137 : decode cX5_timeOf 137 = .ok (.iaload, 1) := by decide +kernel
theorem dX5_timeOf_138 : decode cX5_timeOf 138 = .ok (.if_icmp .ge 8, 3) := by decide +kernel
theorem dX5_timeOf_141 : decode cX5_timeOf 141 = .ok (.iload 6, 2) := by decide +kernel
theorem dX5_timeOf_143 : decode cX5_timeOf 143 = .ok (.goto 4, 3) := by decide +kernel
theorem dX5_timeOf_146 : decode cX5_timeOf 146 = .ok (.iconst (-1), 1) := by decide +kernel
theorem dX5_timeOf_147 : decode cX5_timeOf 147 = .ok (.ireturn, 1) := by decide +kernel
theorem dX5_nextOf_0 : decode cX5_nextOf 0 = .ok (.iconst (-1), 1) := by decide +kernel
theorem dX5_nextOf_1 : decode cX5_nextOf 1 = .ok (.istore 4, 2) := by decide +kernel
theorem dX5_nextOf_3 : decode cX5_nextOf 3 = .ok (.iconst 0, 1) := by decide +kernel
theorem dX5_nextOf_4 : decode cX5_nextOf 4 = .ok (.istore 5, 2) := by decide +kernel
theorem dX5_nextOf_6 : decode cX5_nextOf 6 = .ok (.iload 5, 2) := by decide +kernel
theorem dX5_nextOf_8 : decode cX5_nextOf 8 = .ok (.aload_n 0, 1) := by decide +kernel
theorem dX5_nextOf_9 : decode cX5_nextOf 9 = .ok (.getfield 81, 3) := by decide +kernel
theorem dX5_nextOf_12 : decode cX5_nextOf 12 = .ok (.if_icmp .ge 77, 3) := by decide +kernel
theorem dX5_nextOf_15 : decode cX5_nextOf 15 = .ok (.aload_n 0, 1) := by decide +kernel
theorem dX5_nextOf_16 : decode cX5_nextOf 16 = .ok (.iload_n 1, 1) := by decide +kernel
theorem dX5_nextOf_17 : decode cX5_nextOf 17 = .ok (.iload 5, 2) := by decide +kernel
theorem dX5_nextOf_19 : decode cX5_nextOf 19 = .ok (.iload_n 3, 1) := by decide +kernel
theorem dX5_nextOf_20 : decode cX5_nextOf 20 = .ok (.invokevirtual 139, 3) := by decide +kernel
theorem dX5_nextOf_23 : decode cX5_nextOf 23 = .ok (.istore 6, 2) := by decide +kernel
theorem dX5_nextOf_25 : decode cX5_nextOf 25 = .ok (.iload 6, 2) := by decide +kernel
theorem dX5_nextOf_27 : decode cX5_nextOf 27 = .ok (.iconst (-1), 1) := by decide +kernel
theorem dX5_nextOf_28 : decode cX5_nextOf 28 = .ok (.if_icmp .eq 19, 3) := by decide +kernel
theorem dX5_nextOf_31 : decode cX5_nextOf 31 = .ok (.bipush 24, 2) := by decide +kernel
theorem dX5_nextOf_33 : decode cX5_nextOf 33 = .ok (.iload 6, 2) := by decide +kernel
theorem dX5_nextOf_35 : decode cX5_nextOf 35 = .ok (.imul, 1) := by decide +kernel
theorem dX5_nextOf_36 : decode cX5_nextOf 36 = .ok (.iload 5, 2) := by decide +kernel
theorem dX5_nextOf_38 : decode cX5_nextOf 38 = .ok (.iadd, 1) := by decide +kernel
theorem dX5_nextOf_39 : decode cX5_nextOf 39 = .ok (.iload_n 2, 1) := by decide +kernel
theorem dX5_nextOf_40 : decode cX5_nextOf 40 = .ok (.if_icmp .le 7, 3) := by decide +kernel
theorem dX5_nextOf_43 : decode cX5_nextOf 43 = .ok (.iconst 1, 1) := by decide +kernel
theorem dX5_nextOf_44 : decode cX5_nextOf 44 = .ok (.goto 4, 3) := by decide +kernel
theorem dX5_nextOf_47 : decode cX5_nextOf 47 = .ok (.iconst 0, 1) := by decide +kernel
theorem dX5_nextOf_48 : decode cX5_nextOf 48 = .ok (.istore 7, 2) := by decide +kernel
theorem dX5_nextOf_50 : decode cX5_nextOf 50 = .ok (.iload 7, 2) := by decide +kernel
theorem dX5_nextOf_52 : decode cX5_nextOf 52 = .ok (.ifCond .eq 27, 3) := by decide +kernel
theorem dX5_nextOf_55 : decode cX5_nextOf 55 = .ok (.iload 4, 2) := by decide +kernel
theorem dX5_nextOf_57 : decode cX5_nextOf 57 = .ok (.iconst (-1), 1) := by decide +kernel
theorem dX5_nextOf_58 : decode cX5_nextOf 58 = .ok (.if_icmp .eq 16, 3) := by decide +kernel
theorem dX5_nextOf_61 : decode cX5_nextOf 61 = .ok (.iload 6, 2) := by decide +kernel
theorem dX5_nextOf_63 : decode cX5_nextOf 63 = .ok (.aload_n 0, 1) := by decide +kernel
theorem dX5_nextOf_64 : decode cX5_nextOf 64 = .ok (.iload_n 1, 1) := by decide +kernel
theorem dX5_nextOf_65 : decode cX5_nextOf 65 = .ok (.iload 4, 2) := by decide +kernel
theorem dX5_nextOf_67 : decode cX5_nextOf 67 = .ok (.iload_n 3, 1) := by decide +kernel
theorem dX5_nextOf_68 : decode cX5_nextOf 68 = .ok (.invokevirtual 139, 3) := by decide +kernel
theorem dX5_nextOf_71 : decode cX5_nextOf 71 = .ok (.if_icmp .ge 8, 3) := by decide +kernel
theorem dX5_nextOf_74 : decode cX5_nextOf 74 = .ok (.iload 5, 2) := by decide +kernel
theorem dX5_nextOf_76 : decode cX5_nextOf 76 = .ok (.goto 5, 3) := by decide +kernel
theorem dX5_nextOf_79 : decode cX5_nextOf 79 = .ok (.iload 4, 2) := by decide +kernel
theorem dX5_nextOf_81 : decode cX5_nextOf 81 = .ok (.istore 4, 2) := by decide +kernel
theorem dX5_nextOf_83 : decode cX5_nextOf 83 = .ok (.iinc 5 1, 3) := by decide +kernel
theorem dX5_nextOf_86 : decode cX5_nextOf 86 = .ok (.goto (-80), 3) := by decide +kernel
theorem dX5_nextOf_89 : decode cX5_nextOf 89 = .ok (.iload 4, 2) := by decide +kernel
theorem dX5_nextOf_91 : decode cX5_nextOf 91 = .ok (.ireturn, 1) := by decide +kernel
theorem dX5_takes_0 : decode cX5_takes 0 = .ok (.iconst 0, 1) := by decide +kernel
theorem dX5_takes_1 : decode cX5_takes 1 = .ok (.istore_n 3, 1) := by decide +kernel
theorem dX5_takes_2 : decode cX5_takes 2 = .ok (.iload_n 3, 1) := by decide +kernel
theorem dX5_takes_3 : decode cX5_takes 3 = .ok (.aload_n 0, 1) := by decide +kernel
theorem dX5_takes_4 : decode cX5_takes 4 = .ok (.getfield 130, 3) := by decide +kernel
theorem dX5_takes_7 : decode cX5_takes 7 = .ok (.if_icmp .ge 47, 3) := by decide +kernel
theorem dX5_takes_10 : decode cX5_takes 10 = .ok (.aload_n 0, 1) := by decide +kernel
theorem dX5_takes_11 : decode cX5_takes 11 = .ok (.getfield 71, 3) := by decide +kernel
theorem dX5_takes_14 : decode cX5_takes 14 = .ok (.iload_n 3, 1) := by decide +kernel
theorem dX5_takes_15 : decode cX5_takes 15 = .ok (.baload, 1) := by decide +kernel
theorem dX5_takes_16 : decode cX5_takes 16 = .ok (.ifCond .ne 32, 3) := by decide +kernel
theorem dX5_takes_19 : decode cX5_takes 19 = .ok (.aload_n 0, 1) := by decide +kernel
theorem dX5_takes_20 : decode cX5_takes 20 = .ok (.iload_n 1, 1) := by decide +kernel
theorem dX5_takes_21 : decode cX5_takes 21 = .ok (.iload_n 3, 1) := by decide +kernel
theorem dX5_takes_22 : decode cX5_takes 22 = .ok (.invokevirtual 143, 3) := by decide +kernel
theorem dX5_takes_25 : decode cX5_takes 25 = .ok (.iload_n 2, 1) := by decide +kernel
theorem dX5_takes_26 : decode cX5_takes 26 = .ok (.if_icmp .le 22, 3) := by decide +kernel
theorem dX5_takes_29 : decode cX5_takes 29 = .ok (.aload_n 0, 1) := by decide +kernel
theorem dX5_takes_30 : decode cX5_takes 30 = .ok (.getfield 71, 3) := by decide +kernel
theorem dX5_takes_33 : decode cX5_takes 33 = .ok (.iload_n 3, 1) := by decide +kernel
theorem dX5_takes_34 : decode cX5_takes 34 = .ok (.iconst 1, 1) := by decide +kernel
theorem dX5_takes_35 : decode cX5_takes 35 = .ok (.bastore, 1) := by decide +kernel
theorem dX5_takes_36 : decode cX5_takes 36 = .ok (.aload_n 0, 1) := by decide +kernel
theorem dX5_takes_37 : decode cX5_takes 37 = .ok (.dup, 1) := by decide +kernel
theorem dX5_takes_38 : decode cX5_takes 38 = .ok (.getfield 146, 3) := by decide +kernel
theorem dX5_takes_41 : decode cX5_takes 41 = .ok (.iconst 1, 1) := by decide +kernel
theorem dX5_takes_42 : decode cX5_takes 42 = .ok (.isub, 1) := by decide +kernel
theorem dX5_takes_43 : decode cX5_takes 43 = .ok (.putfield 146, 3) := by decide +kernel
theorem dX5_takes_46 : decode cX5_takes 46 = .ok (.iload_n 3, 1) := by decide +kernel
theorem dX5_takes_47 : decode cX5_takes 47 = .ok (.ireturn, 1) := by decide +kernel
theorem dX5_takes_48 : decode cX5_takes 48 = .ok (.iinc 3 1, 3) := by decide +kernel
theorem dX5_takes_51 : decode cX5_takes 51 = .ok (.goto (-49), 3) := by decide +kernel
theorem dX5_takes_54 : decode cX5_takes 54 = .ok (.iconst (-1), 1) := by decide +kernel
theorem dX5_takes_55 : decode cX5_takes 55 = .ok (.ireturn, 1) := by decide +kernel
theorem dX5_dealt_0 : decode cX5_dealt 0 = .ok (.aload_n 0, 1) := by decide +kernel
theorem dX5_dealt_1 : decode cX5_dealt 1 = .ok (.iconst 0, 1) := by decide +kernel
theorem dX5_dealt_2 : decode cX5_dealt 2 = .ok (.putfield 130, 3) := by decide +kernel
theorem dX5_dealt_5 : decode cX5_dealt 5 = .ok (.aload_n 0, 1) := by decide +kernel
theorem dX5_dealt_6 : decode cX5_dealt 6 = .ok (.getfield 56, 3) := by decide +kernel
theorem dX5_dealt_9 : decode cX5_dealt 9 = .ok (.iload_n 1, 1) := by decide +kernel
theorem dX5_dealt_10 : decode cX5_dealt 10 = .ok (.iaload, 1) := by decide +kernel
theorem dX5_dealt_11 : decode cX5_dealt 11 = .ok (.ifCond .le 44, 3) := by decide +kernel
theorem dX5_dealt_14 : decode cX5_dealt 14 = .ok (.aload_n 0, 1) := by decide +kernel
theorem dX5_dealt_15 : decode cX5_dealt 15 = .ok (.iload_n 1, 1) := by decide +kernel
theorem dX5_dealt_16 : decode cX5_dealt 16 = .ok (.aload_n 0, 1) := by decide +kernel
theorem dX5_dealt_17 : decode cX5_dealt 17 = .ok (.getfield 130, 3) := by decide +kernel
theorem dX5_dealt_20 : decode cX5_dealt 20 = .ok (.invokevirtual 133, 3) := by decide +kernel
theorem dX5_dealt_23 : decode cX5_dealt 23 = .ok (.aload_n 0, 1) := by decide +kernel
theorem dX5_dealt_24 : decode cX5_dealt 24 = .ok (.getfield 53, 3) := by decide +kernel
theorem dX5_dealt_27 : decode cX5_dealt 27 = .ok (.iload_n 1, 1) := by decide +kernel
theorem dX5_dealt_28 : decode cX5_dealt 28 = .ok (.iaload, 1) := by decide +kernel
theorem dX5_dealt_29 : decode cX5_dealt 29 = .ok (.if_icmp .ge 26, 3) := by decide +kernel
theorem dX5_dealt_32 : decode cX5_dealt 32 = .ok (.aload_n 0, 1) := by decide +kernel
theorem dX5_dealt_33 : decode cX5_dealt 33 = .ok (.getfield 71, 3) := by decide +kernel
theorem dX5_dealt_36 : decode cX5_dealt 36 = .ok (.aload_n 0, 1) := by decide +kernel
theorem dX5_dealt_37 : decode cX5_dealt 37 = .ok (.getfield 130, 3) := by decide +kernel
theorem dX5_dealt_40 : decode cX5_dealt 40 = .ok (.iconst 0, 1) := by decide +kernel
theorem dX5_dealt_41 : decode cX5_dealt 41 = .ok (.bastore, 1) := by decide +kernel
theorem dX5_dealt_42 : decode cX5_dealt 42 = .ok (.aload_n 0, 1) := by decide +kernel
theorem dX5_dealt_43 : decode cX5_dealt 43 = .ok (.dup, 1) := by decide +kernel
theorem dX5_dealt_44 : decode cX5_dealt 44 = .ok (.getfield 130, 3) := by decide +kernel
theorem dX5_dealt_47 : decode cX5_dealt 47 = .ok (.iconst 1, 1) := by decide +kernel
theorem dX5_dealt_48 : decode cX5_dealt 48 = .ok (.iadd, 1) := by decide +kernel
theorem dX5_dealt_49 : decode cX5_dealt 49 = .ok (.putfield 130, 3) := by decide +kernel
theorem dX5_dealt_52 : decode cX5_dealt 52 = .ok (.goto (-47), 3) := by decide +kernel
theorem dX5_dealt_55 : decode cX5_dealt 55 = .ok (.aload_n 0, 1) := by decide +kernel
theorem dX5_dealt_56 : decode cX5_dealt 56 = .ok (.aload_n 0, 1) := by decide +kernel
theorem dX5_dealt_57 : decode cX5_dealt 57 = .ok (.getfield 130, 3) := by decide +kernel
theorem dX5_dealt_60 : decode cX5_dealt 60 = .ok (.putfield 146, 3) := by decide +kernel
theorem dX5_dealt_63 : decode cX5_dealt 63 = .ok (.aload_n 0, 1) := by decide +kernel
theorem dX5_dealt_64 : decode cX5_dealt 64 = .ok (.iconst 0, 1) := by decide +kernel
theorem dX5_dealt_65 : decode cX5_dealt 65 = .ok (.putfield 149, 3) := by decide +kernel
theorem dX5_dealt_68 : decode cX5_dealt 68 = .ok (.aload_n 0, 1) := by decide +kernel
theorem dX5_dealt_69 : decode cX5_dealt 69 = .ok (.iconst 0, 1) := by decide +kernel
theorem dX5_dealt_70 : decode cX5_dealt 70 = .ok (.putfield 152, 3) := by decide +kernel
theorem dX5_dealt_73 : decode cX5_dealt 73 = .ok (.aload_n 0, 1) := by decide +kernel
theorem dX5_dealt_74 : decode cX5_dealt 74 = .ok (.iconst 0, 1) := by decide +kernel
theorem dX5_dealt_75 : decode cX5_dealt 75 = .ok (.putfield 155, 3) := by decide +kernel
theorem dX5_dealt_78 : decode cX5_dealt 78 = .ok (.iconst 0, 1) := by decide +kernel
theorem dX5_dealt_79 : decode cX5_dealt 79 = .ok (.istore_n 2, 1) := by decide +kernel
theorem dX5_dealt_80 : decode cX5_dealt 80 = .ok (.iload_n 2, 1) := by decide +kernel
theorem dX5_dealt_81 : decode cX5_dealt 81 = .ok (.bipush 24, 2) := by decide +kernel
theorem dX5_dealt_83 : decode cX5_dealt 83 = .ok (.if_icmp .ge 21, 3) := by decide +kernel
theorem dX5_dealt_86 : decode cX5_dealt 86 = .ok (.aload_n 0, 1) := by decide +kernel
theorem dX5_dealt_87 : decode cX5_dealt 87 = .ok (.getfield 74, 3) := by decide +kernel
theorem dX5_dealt_90 : decode cX5_dealt 90 = .ok (.bipush 24, 2) := by decide +kernel
theorem dX5_dealt_92 : decode cX5_dealt 92 = .ok (.iload_n 1, 1) := by decide +kernel
theorem dX5_dealt_93 : decode cX5_dealt 93 = .ok (.imul, 1) := by decide +kernel
theorem dX5_dealt_94 : decode cX5_dealt 94 = .ok (.iload_n 2, 1) := by decide +kernel
theorem dX5_dealt_95 : decode cX5_dealt 95 = .ok (.iadd, 1) := by decide +kernel
theorem dX5_dealt_96 : decode cX5_dealt 96 = .ok (.iconst (-1), 1) := by decide +kernel
theorem dX5_dealt_97 : decode cX5_dealt 97 = .ok (.iastore, 1) := by decide +kernel
theorem dX5_dealt_98 : decode cX5_dealt 98 = .ok (.iinc 2 1, 3) := by decide +kernel
theorem dX5_dealt_101 : decode cX5_dealt 101 = .ok (.goto (-21), 3) := by decide +kernel
theorem dX5_dealt_104 : decode cX5_dealt 104 = .ok (.aload_n 0, 1) := by decide +kernel
theorem dX5_dealt_105 : decode cX5_dealt 105 = .ok (.iload_n 1, 1) := by decide +kernel
theorem dX5_dealt_106 : decode cX5_dealt 106 = .ok (.iconst (-1), 1) := by decide +kernel
theorem dX5_dealt_107 : decode cX5_dealt 107 = .ok (.iconst 1, 1) := by decide +kernel
theorem dX5_dealt_108 : decode cX5_dealt 108 = .ok (.invokevirtual 158, 3) := by decide +kernel
theorem dX5_dealt_111 : decode cX5_dealt 111 = .ok (.istore_n 2, 1) := by decide +kernel
theorem dX5_dealt_112 : decode cX5_dealt 112 = .ok (.iload_n 2, 1) := by decide +kernel
theorem dX5_dealt_113 : decode cX5_dealt 113 = .ok (.iconst (-1), 1) := by decide +kernel
theorem dX5_dealt_114 : decode cX5_dealt 114 = .ok (.if_icmp .eq 44, 3) := by decide +kernel
theorem dX5_dealt_117 : decode cX5_dealt 117 = .ok (.aload_n 0, 1) := by decide +kernel
theorem dX5_dealt_118 : decode cX5_dealt 118 = .ok (.iload_n 1, 1) := by decide +kernel
theorem dX5_dealt_119 : decode cX5_dealt 119 = .ok (.iload_n 2, 1) := by decide +kernel
theorem dX5_dealt_120 : decode cX5_dealt 120 = .ok (.iconst 1, 1) := by decide +kernel
theorem dX5_dealt_121 : decode cX5_dealt 121 = .ok (.invokevirtual 139, 3) := by decide +kernel
theorem dX5_dealt_124 : decode cX5_dealt 124 = .ok (.istore_n 3, 1) := by decide +kernel
theorem dX5_dealt_125 : decode cX5_dealt 125 = .ok (.aload_n 0, 1) := by decide +kernel
theorem dX5_dealt_126 : decode cX5_dealt 126 = .ok (.dup, 1) := by decide +kernel
theorem dX5_dealt_127 : decode cX5_dealt 127 = .ok (.getfield 149, 3) := by decide +kernel
theorem dX5_dealt_130 : decode cX5_dealt 130 = .ok (.iconst 1, 1) := by decide +kernel
theorem dX5_dealt_131 : decode cX5_dealt 131 = .ok (.iadd, 1) := by decide +kernel
theorem dX5_dealt_132 : decode cX5_dealt 132 = .ok (.putfield 149, 3) := by decide +kernel
theorem dX5_dealt_135 : decode cX5_dealt 135 = .ok (.aload_n 0, 1) := by decide +kernel
theorem dX5_dealt_136 : decode cX5_dealt 136 = .ok (.iload_n 1, 1) := by decide +kernel
theorem dX5_dealt_137 : decode cX5_dealt 137 = .ok (.iload_n 3, 1) := by decide +kernel
theorem dX5_dealt_138 : decode cX5_dealt 138 = .ok (.invokevirtual 161, 3) := by decide +kernel
theorem dX5_dealt_141 : decode cX5_dealt 141 = .ok (.pop, 1) := by decide +kernel
theorem dX5_dealt_142 : decode cX5_dealt 142 = .ok (.aload_n 0, 1) := by decide +kernel
theorem dX5_dealt_143 : decode cX5_dealt 143 = .ok (.iload_n 1, 1) := by decide +kernel
theorem dX5_dealt_144 : decode cX5_dealt 144 = .ok (.bipush 24, 2) := by decide +kernel
theorem dX5_dealt_146 : decode cX5_dealt 146 = .ok (.iload_n 3, 1) := by decide +kernel
theorem dX5_dealt_147 : decode cX5_dealt 147 = .ok (.imul, 1) := by decide +kernel
theorem dX5_dealt_148 : decode cX5_dealt 148 = .ok (.iload_n 2, 1) := by decide +kernel
theorem dX5_dealt_149 : decode cX5_dealt 149 = .ok (.iadd, 1) := by decide +kernel
theorem dX5_dealt_150 : decode cX5_dealt 150 = .ok (.iconst 1, 1) := by decide +kernel
theorem dX5_dealt_151 : decode cX5_dealt 151 = .ok (.invokevirtual 158, 3) := by decide +kernel
theorem dX5_dealt_154 : decode cX5_dealt 154 = .ok (.istore_n 2, 1) := by decide +kernel
theorem dX5_dealt_155 : decode cX5_dealt 155 = .ok (.goto (-43), 3) := by decide +kernel
theorem dX5_dealt_158 : decode cX5_dealt 158 = .ok (.aload_n 0, 1) := by decide +kernel
theorem dX5_dealt_159 : decode cX5_dealt 159 = .ok (.iload_n 1, 1) := by decide +kernel
theorem dX5_dealt_160 : decode cX5_dealt 160 = .ok (.iconst (-1), 1) := by decide +kernel
theorem dX5_dealt_161 : decode cX5_dealt 161 = .ok (.iconst 0, 1) := by decide +kernel
theorem dX5_dealt_162 : decode cX5_dealt 162 = .ok (.invokevirtual 158, 3) := by decide +kernel
theorem dX5_dealt_165 : decode cX5_dealt 165 = .ok (.istore_n 2, 1) := by decide +kernel
theorem dX5_dealt_166 : decode cX5_dealt 166 = .ok (.iload_n 2, 1) := by decide +kernel
theorem dX5_dealt_167 : decode cX5_dealt 167 = .ok (.iconst (-1), 1) := by decide +kernel
theorem dX5_dealt_168 : decode cX5_dealt 168 = .ok (.if_icmp .eq 119, 3) := by decide +kernel
theorem dX5_dealt_171 : decode cX5_dealt 171 = .ok (.aload_n 0, 1) := by decide +kernel
theorem dX5_dealt_172 : decode cX5_dealt 172 = .ok (.iload_n 1, 1) := by decide +kernel
theorem dX5_dealt_173 : decode cX5_dealt 173 = .ok (.iload_n 2, 1) := by decide +kernel
theorem dX5_dealt_174 : decode cX5_dealt 174 = .ok (.iconst 0, 1) := by decide +kernel
theorem dX5_dealt_175 : decode cX5_dealt 175 = .ok (.invokevirtual 139, 3) := by decide +kernel
theorem dX5_dealt_178 : decode cX5_dealt 178 = .ok (.istore_n 3, 1) := by decide +kernel
theorem dX5_dealt_179 : decode cX5_dealt 179 = .ok (.aload_n 0, 1) := by decide +kernel
theorem dX5_dealt_180 : decode cX5_dealt 180 = .ok (.iload_n 1, 1) := by decide +kernel
theorem dX5_dealt_181 : decode cX5_dealt 181 = .ok (.iload_n 3, 1) := by decide +kernel
theorem dX5_dealt_182 : decode cX5_dealt 182 = .ok (.invokevirtual 161, 3) := by decide +kernel
theorem dX5_dealt_185 : decode cX5_dealt 185 = .ok (.istore 4, 2) := by decide +kernel
theorem dX5_dealt_187 : decode cX5_dealt 187 = .ok (.iload 4, 2) := by decide +kernel
theorem dX5_dealt_189 : decode cX5_dealt 189 = .ok (.iconst (-1), 1) := by decide +kernel
theorem dX5_dealt_190 : decode cX5_dealt 190 = .ok (.if_icmp .ne 12, 3) := by decide +kernel
theorem dX5_dealt_193 : decode cX5_dealt 193 = .ok (.aload_n 0, 1) := by decide +kernel
theorem dX5_dealt_194 : decode cX5_dealt 194 = .ok (.getfield 53, 3) := by decide +kernel
theorem dX5_dealt_197 : decode cX5_dealt 197 = .ok (.iload_n 1, 1) := by decide +kernel
theorem dX5_dealt_198 : decode cX5_dealt 198 = .ok (.iaload, 1) := by decide +kernel
theorem dX5_dealt_199 : decode cX5_dealt 199 = .ok (.goto 25, 3) := by decide +kernel
theorem dX5_dealt_202 : decode cX5_dealt 202 = .ok (.aload_n 0, 1) := by decide +kernel
theorem dX5_dealt_203 : decode cX5_dealt 203 = .ok (.iload_n 1, 1) := by decide +kernel
theorem dX5_dealt_204 : decode cX5_dealt 204 = .ok (.iload 4, 2) := by decide +kernel
theorem dX5_dealt_206 : decode cX5_dealt 206 = .ok (.invokevirtual 133, 3) := by decide +kernel
theorem dX5_dealt_209 : decode cX5_dealt 209 = .ok (.iload_n 3, 1) := by decide +kernel
theorem dX5_dealt_210 : decode cX5_dealt 210 = .ok (.if_icmp .le 13, 3) := by decide +kernel
theorem dX5_dealt_213 : decode cX5_dealt 213 = .ok (.aload_n 0, 1) := by decide +kernel
theorem dX5_dealt_214 : decode cX5_dealt 214 = .ok (.iload_n 1, 1) := by decide +kernel
theorem dX5_dealt_215 : decode cX5_dealt 215 = .ok (.iload 4, 2) := by decide +kernel
theorem dX5_dealt_217 : decode cX5_dealt 217 = .ok (.invokevirtual 133, 3) := by decide +kernel
theorem dX5_dealt_220 : decode cX5_dealt 220 = .ok (.goto 4, 3) := by decide +kernel
theorem dX5_dealt_223 : decode cX5_dealt 223 = .ok (.iload_n 3, 1) := by decide +kernel
theorem dX5_dealt_224 : decode cX5_dealt 224 = .ok (.istore 5, 2) := by decide +kernel
theorem dX5_dealt_226 : decode cX5_dealt 226 = .ok (.aload_n 0, 1) := by decide +kernel
theorem dX5_dealt_227 : decode cX5_dealt 227 = .ok (.dup, 1) := by decide +kernel
theorem dX5_dealt_228 : decode cX5_dealt 228 = .ok (.getfield 152, 3) := by decide +kernel
theorem dX5_dealt_231 : decode cX5_dealt 231 = .ok (.iconst 1, 1) := by decide +kernel
theorem dX5_dealt_232 : decode cX5_dealt 232 = .ok (.iadd, 1) := by decide +kernel
theorem dX5_dealt_233 : decode cX5_dealt 233 = .ok (.putfield 152, 3) := by decide +kernel
theorem dX5_dealt_236 : decode cX5_dealt 236 = .ok (.aload_n 0, 1) := by decide +kernel
theorem dX5_dealt_237 : decode cX5_dealt 237 = .ok (.dup, 1) := by decide +kernel
theorem dX5_dealt_238 : decode cX5_dealt 238 = .ok (.getfield 155, 3) := by decide +kernel
theorem dX5_dealt_241 : decode cX5_dealt 241 = .ok (.iload 4, 2) := by decide +kernel
theorem dX5_dealt_243 : decode cX5_dealt 243 = .ok (.iconst (-1), 1) := by decide +kernel
theorem dX5_dealt_244 : decode cX5_dealt 244 = .ok (.if_icmp .ne 7, 3) := by decide +kernel
theorem dX5_dealt_247 : decode cX5_dealt 247 = .ok (.iconst 1, 1) := by decide +kernel
theorem dX5_dealt_248 : decode cX5_dealt 248 = .ok (.goto 4, 3) := by decide +kernel
theorem dX5_dealt_251 : decode cX5_dealt 251 = .ok (.iconst 0, 1) := by decide +kernel
theorem dX5_dealt_252 : decode cX5_dealt 252 = .ok (.iadd, 1) := by decide +kernel
theorem dX5_dealt_253 : decode cX5_dealt 253 = .ok (.putfield 155, 3) := by decide +kernel
theorem dX5_dealt_256 : decode cX5_dealt 256 = .ok (.aload_n 0, 1) := by decide +kernel
theorem dX5_dealt_257 : decode cX5_dealt 257 = .ok (.getfield 74, 3) := by decide +kernel
theorem dX5_dealt_260 : decode cX5_dealt 260 = .ok (.bipush 24, 2) := by decide +kernel
theorem dX5_dealt_262 : decode cX5_dealt 262 = .ok (.iload_n 1, 1) := by decide +kernel
theorem dX5_dealt_263 : decode cX5_dealt 263 = .ok (.imul, 1) := by decide +kernel
theorem dX5_dealt_264 : decode cX5_dealt 264 = .ok (.iload_n 2, 1) := by decide +kernel
theorem dX5_dealt_265 : decode cX5_dealt 265 = .ok (.iadd, 1) := by decide +kernel
theorem dX5_dealt_266 : decode cX5_dealt 266 = .ok (.iload 5, 2) := by decide +kernel
theorem dX5_dealt_268 : decode cX5_dealt 268 = .ok (.iload_n 3, 1) := by decide +kernel
theorem dX5_dealt_269 : decode cX5_dealt 269 = .ok (.isub, 1) := by decide +kernel
theorem dX5_dealt_270 : decode cX5_dealt 270 = .ok (.iastore, 1) := by decide +kernel
theorem dX5_dealt_271 : decode cX5_dealt 271 = .ok (.aload_n 0, 1) := by decide +kernel
theorem dX5_dealt_272 : decode cX5_dealt 272 = .ok (.iload_n 1, 1) := by decide +kernel
theorem dX5_dealt_273 : decode cX5_dealt 273 = .ok (.bipush 24, 2) := by decide +kernel
theorem dX5_dealt_275 : decode cX5_dealt 275 = .ok (.iload_n 3, 1) := by decide +kernel
theorem dX5_dealt_276 : decode cX5_dealt 276 = .ok (.imul, 1) := by decide +kernel
theorem dX5_dealt_277 : decode cX5_dealt 277 = .ok (.iload_n 2, 1) := by decide +kernel
theorem dX5_dealt_278 : decode cX5_dealt 278 = .ok (.iadd, 1) := by decide +kernel
theorem dX5_dealt_279 : decode cX5_dealt 279 = .ok (.iconst 0, 1) := by decide +kernel
theorem dX5_dealt_280 : decode cX5_dealt 280 = .ok (.invokevirtual 158, 3) := by decide +kernel
theorem dX5_dealt_283 : decode cX5_dealt 283 = .ok (.istore_n 2, 1) := by decide +kernel
theorem dX5_dealt_284 : decode cX5_dealt 284 = .ok (.goto (-118), 3) := by decide +kernel
theorem dX5_dealt_287 : decode cX5_dealt 287 = .ok (.return_, 1) := by decide +kernel
theorem dX5_regulationIs_0 : decode cX5_regulationIs 0 = .ok (.aload_n 0, 1) := by decide +kernel
theorem dX5_regulationIs_1 : decode cX5_regulationIs 1 = .ok (.aload_n 0, 1) := by decide +kernel
theorem dX5_regulationIs_2 : decode cX5_regulationIs 2 = .ok (.iload_n 1, 1) := by decide +kernel
theorem dX5_regulationIs_3 : decode cX5_regulationIs 3 = .ok (.invokevirtual 127, 3) := by decide +kernel
theorem dX5_regulationIs_6 : decode cX5_regulationIs 6 = .ok (.ifCond .ne 7, 3) := by decide +kernel
theorem dX5_regulationIs_9 : decode cX5_regulationIs 9 = .ok (.iconst 1, 1) := by decide +kernel
theorem dX5_regulationIs_10 : decode cX5_regulationIs 10 = .ok (.goto 18, 3) := by decide +kernel
theorem dX5_regulationIs_13 : decode cX5_regulationIs 13 = .ok (.iload_n 2, 1) := by decide +kernel
theorem dX5_regulationIs_14 : decode cX5_regulationIs 14 = .ok (.iconst 0, 1) := by decide +kernel
theorem dX5_regulationIs_15 : decode cX5_regulationIs 15 = .ok (.bipush 6, 2) := by decide +kernel
theorem dX5_regulationIs_17 : decode cX5_regulationIs 17 = .ok (.invokestatic 84, 3) := by decide +kernel
theorem dX5_regulationIs_20 : decode cX5_regulationIs 20 = .ok (.ifCond .eq 7, 3) := by decide +kernel
theorem dX5_regulationIs_23 : decode cX5_regulationIs 23 = .ok (.iconst 0, 1) := by decide +kernel
theorem dX5_regulationIs_24 : decode cX5_regulationIs 24 = .ok (.goto 4, 3) := by decide +kernel
theorem dX5_regulationIs_27 : decode cX5_regulationIs 27 = .ok (.iconst 2, 1) := by decide +kernel
theorem dX5_regulationIs_28 : decode cX5_regulationIs 28 = .ok (.invokevirtual 91, 3) := by decide +kernel
theorem dX5_regulationIs_31 : decode cX5_regulationIs 31 = .ok (.ifCond .ne 5, 3) := by decide +kernel
theorem dX5_regulationIs_34 : decode cX5_regulationIs 34 = .ok (.iconst 0, 1) := by decide +kernel
theorem dX5_regulationIs_35 : decode cX5_regulationIs 35 = .ok (.ireturn, 1) := by decide +kernel
theorem dX5_regulationIs_36 : decode cX5_regulationIs 36 = .ok (.iload_n 2, 1) := by decide +kernel
theorem dX5_regulationIs_37 : decode cX5_regulationIs 37 = .ok (.iconst 4, 1) := by decide +kernel
theorem dX5_regulationIs_38 : decode cX5_regulationIs 38 = .ok (.if_icmp .le 24, 3) := by decide +kernel
theorem dX5_regulationIs_41 : decode cX5_regulationIs 41 = .ok (.iload_n 2, 1) := by decide +kernel
theorem dX5_regulationIs_42 : decode cX5_regulationIs 42 = .ok (.iconst 5, 1) := by decide +kernel
theorem dX5_regulationIs_43 : decode cX5_regulationIs 43 = .ok (.if_icmp .ne 12, 3) := by decide +kernel
theorem dX5_regulationIs_46 : decode cX5_regulationIs 46 = .ok (.aload_n 0, 1) := by decide +kernel
theorem dX5_regulationIs_47 : decode cX5_regulationIs 47 = .ok (.getfield 56, 3) := by decide +kernel
theorem dX5_regulationIs_50 : decode cX5_regulationIs 50 = .ok (.iload_n 1, 1) := by decide +kernel
theorem dX5_regulationIs_51 : decode cX5_regulationIs 51 = .ok (.iaload, 1) := by decide +kernel
theorem dX5_regulationIs_52 : decode cX5_regulationIs 52 = .ok (.goto 9, 3) := by decide +kernel
theorem dX5_regulationIs_55 : decode cX5_regulationIs 55 = .ok (.aload_n 0, 1) := by decide +kernel
theorem dX5_regulationIs_56 : decode cX5_regulationIs 56 = .ok (.getfield 59, 3) := by decide +kernel
theorem dX5_regulationIs_59 : decode cX5_regulationIs 59 = .ok (.iload_n 1, 1) := by decide +kernel
theorem dX5_regulationIs_60 : decode cX5_regulationIs 60 = .ok (.iaload, 1) := by decide +kernel
theorem dX5_regulationIs_61 : decode cX5_regulationIs 61 = .ok (.ireturn, 1) := by decide +kernel
theorem dX5_regulationIs_62 : decode cX5_regulationIs 62 = .ok (.aload_n 0, 1) := by decide +kernel
theorem dX5_regulationIs_63 : decode cX5_regulationIs 63 = .ok (.getfield 62, 3) := by decide +kernel
theorem dX5_regulationIs_66 : decode cX5_regulationIs 66 = .ok (.iload_n 1, 1) := by decide +kernel
theorem dX5_regulationIs_67 : decode cX5_regulationIs 67 = .ok (.baload, 1) := by decide +kernel
theorem dX5_regulationIs_68 : decode cX5_regulationIs 68 = .ok (.ifCond .eq 5, 3) := by decide +kernel
theorem dX5_regulationIs_71 : decode cX5_regulationIs 71 = .ok (.iconst 0, 1) := by decide +kernel
theorem dX5_regulationIs_72 : decode cX5_regulationIs 72 = .ok (.ireturn, 1) := by decide +kernel
theorem dX5_regulationIs_73 : decode cX5_regulationIs 73 = .ok (.aload_n 0, 1) := by decide +kernel
theorem dX5_regulationIs_74 : decode cX5_regulationIs 74 = .ok (.iload_n 1, 1) := by decide +kernel
theorem dX5_regulationIs_75 : decode cX5_regulationIs 75 = .ok (.invokevirtual 164, 3) := by decide +kernel
theorem dX5_regulationIs_78 : decode cX5_regulationIs 78 = .ok (.iload_n 2, 1) := by decide +kernel
theorem dX5_regulationIs_79 : decode cX5_regulationIs 79 = .ok (.ifCond .ne 10, 3) := by decide +kernel
theorem dX5_regulationIs_82 : decode cX5_regulationIs 82 = .ok (.aload_n 0, 1) := by decide +kernel
theorem dX5_regulationIs_83 : decode cX5_regulationIs 83 = .ok (.getfield 130, 3) := by decide +kernel
theorem dX5_regulationIs_86 : decode cX5_regulationIs 86 = .ok (.goto 43, 3) := by decide +kernel
theorem dX5_regulationIs_89 : decode cX5_regulationIs 89 = .ok (.iload_n 2, 1) := by decide +kernel
theorem dX5_regulationIs_90 : decode cX5_regulationIs 90 = .ok (.iconst 1, 1) := by decide +kernel
theorem dX5_regulationIs_91 : decode cX5_regulationIs 91 = .ok (.if_icmp .ne 10, 3) := by decide +kernel
theorem dX5_regulationIs_94 : decode cX5_regulationIs 94 = .ok (.aload_n 0, 1) := by decide +kernel
theorem dX5_regulationIs_95 : decode cX5_regulationIs 95 = .ok (.getfield 146, 3) := by decide +kernel
theorem dX5_regulationIs_98 : decode cX5_regulationIs 98 = .ok (.goto 31, 3) := by decide +kernel
theorem dX5_regulationIs_101 : decode cX5_regulationIs 101 = .ok (.iload_n 2, 1) := by decide +kernel
theorem dX5_regulationIs_102 : decode cX5_regulationIs 102 = .ok (.iconst 2, 1) := by decide +kernel
theorem dX5_regulationIs_103 : decode cX5_regulationIs 103 = .ok (.if_icmp .ne 10, 3) := by decide +kernel
theorem dX5_regulationIs_106 : decode cX5_regulationIs 106 = .ok (.aload_n 0, 1) := by decide +kernel
theorem dX5_regulationIs_107 : decode cX5_regulationIs 107 = .ok (.getfield 149, 3) := by decide +kernel
theorem dX5_regulationIs_110 : decode cX5_regulationIs 110 = .ok (.goto 19, 3) := by decide +kernel
theorem dX5_regulationIs_113 : decode cX5_regulationIs 113 = .ok (.iload_n 2, 1) := by decide +kernel
theorem dX5_regulationIs_114 : decode cX5_regulationIs 114 = .ok (.iconst 3, 1) := by decide +kernel
theorem dX5_regulationIs_115 : decode cX5_regulationIs 115 = .ok (.if_icmp .ne 10, 3) := by decide +kernel
theorem dX5_regulationIs_118 : decode cX5_regulationIs 118 = .ok (.aload_n 0, 1) := by decide +kernel
theorem dX5_regulationIs_119 : decode cX5_regulationIs 119 = .ok (.getfield 152, 3) := by decide +kernel
theorem dX5_regulationIs_122 : decode cX5_regulationIs 122 = .ok (.goto 7, 3) := by decide +kernel
theorem dX5_regulationIs_125 : decode cX5_regulationIs 125 = .ok (.aload_n 0, 1) := by decide +kernel
theorem dX5_regulationIs_126 : decode cX5_regulationIs 126 = .ok (.getfield 155, 3) := by decide +kernel
theorem dX5_regulationIs_129 : decode cX5_regulationIs 129 = .ok (.ireturn, 1) := by decide +kernel
theorem dX5_slot_0 : decode cX5_slot 0 = .ok (.aload_n 0, 1) := by decide +kernel
theorem dX5_slot_1 : decode cX5_slot 1 = .ok (.aload_n 0, 1) := by decide +kernel
theorem dX5_slot_2 : decode cX5_slot 2 = .ok (.iload_n 1, 1) := by decide +kernel
theorem dX5_slot_3 : decode cX5_slot 3 = .ok (.invokevirtual 127, 3) := by decide +kernel
theorem dX5_slot_6 : decode cX5_slot 6 = .ok (.ifCond .eq 11, 3) := by decide +kernel
theorem dX5_slot_9 : decode cX5_slot 9 = .ok (.iload_n 2, 1) := by decide +kernel
theorem dX5_slot_10 : decode cX5_slot 10 = .ok (.ifCond .lt 7, 3) := by decide +kernel
theorem dX5_slot_13 : decode cX5_slot 13 = .ok (.iconst 0, 1) := by decide +kernel
theorem dX5_slot_14 : decode cX5_slot 14 = .ok (.goto 4, 3) := by decide +kernel
theorem dX5_slot_17 : decode cX5_slot 17 = .ok (.iconst 1, 1) := by decide +kernel
theorem dX5_slot_18 : decode cX5_slot 18 = .ok (.invokevirtual 91, 3) := by decide +kernel
theorem dX5_slot_21 : decode cX5_slot 21 = .ok (.ifCond .ne 5, 3) := by decide +kernel
theorem dX5_slot_24 : decode cX5_slot 24 = .ok (.iconst 0, 1) := by decide +kernel
theorem dX5_slot_25 : decode cX5_slot 25 = .ok (.ireturn, 1) := by decide +kernel
theorem dX5_slot_26 : decode cX5_slot 26 = .ok (.aload_n 0, 1) := by decide +kernel
theorem dX5_slot_27 : decode cX5_slot 27 = .ok (.getfield 62, 3) := by decide +kernel
theorem dX5_slot_30 : decode cX5_slot 30 = .ok (.iload_n 1, 1) := by decide +kernel
theorem dX5_slot_31 : decode cX5_slot 31 = .ok (.baload, 1) := by decide +kernel
theorem dX5_slot_32 : decode cX5_slot 32 = .ok (.ifCond .eq 5, 3) := by decide +kernel
theorem dX5_slot_35 : decode cX5_slot 35 = .ok (.iconst (-1), 1) := by decide +kernel
theorem dX5_slot_36 : decode cX5_slot 36 = .ok (.ireturn, 1) := by decide +kernel
theorem dX5_slot_37 : decode cX5_slot 37 = .ok (.aload_n 0, 1) := by decide +kernel
theorem dX5_slot_38 : decode cX5_slot 38 = .ok (.iload_n 1, 1) := by decide +kernel
theorem dX5_slot_39 : decode cX5_slot 39 = .ok (.invokevirtual 164, 3) := by decide +kernel
theorem dX5_slot_42 : decode cX5_slot 42 = .ok (.iload_n 2, 1) := by decide +kernel
theorem dX5_slot_43 : decode cX5_slot 43 = .ok (.aload_n 0, 1) := by decide +kernel
theorem dX5_slot_44 : decode cX5_slot 44 = .ok (.getfield 130, 3) := by decide +kernel
theorem dX5_slot_47 : decode cX5_slot 47 = .ok (.if_icmp .ge 12, 3) := by decide +kernel
theorem dX5_slot_50 : decode cX5_slot 50 = .ok (.aload_n 0, 1) := by decide +kernel
theorem dX5_slot_51 : decode cX5_slot 51 = .ok (.iload_n 1, 1) := by decide +kernel
theorem dX5_slot_52 : decode cX5_slot 52 = .ok (.iload_n 2, 1) := by decide +kernel
theorem dX5_slot_53 : decode cX5_slot 53 = .ok (.invokevirtual 133, 3) := by decide +kernel
theorem dX5_slot_56 : decode cX5_slot 56 = .ok (.goto 4, 3) := by decide +kernel
theorem dX5_slot_59 : decode cX5_slot 59 = .ok (.iconst (-1), 1) := by decide +kernel
theorem dX5_slot_60 : decode cX5_slot 60 = .ok (.ireturn, 1) := by decide +kernel
theorem dX5_penalty_0 : decode cX5_penalty 0 = .ok (.aload_n 0, 1) := by decide +kernel
theorem dX5_penalty_1 : decode cX5_penalty 1 = .ok (.aload_n 0, 1) := by decide +kernel
theorem dX5_penalty_2 : decode cX5_penalty 2 = .ok (.iload_n 1, 1) := by decide +kernel
theorem dX5_penalty_3 : decode cX5_penalty 3 = .ok (.invokevirtual 95, 3) := by decide +kernel
theorem dX5_penalty_6 : decode cX5_penalty 6 = .ok (.ifCond .eq 15, 3) := by decide +kernel
theorem dX5_penalty_9 : decode cX5_penalty 9 = .ok (.aload_n 0, 1) := by decide +kernel
theorem dX5_penalty_10 : decode cX5_penalty 10 = .ok (.iload_n 2, 1) := by decide +kernel
theorem dX5_penalty_11 : decode cX5_penalty 11 = .ok (.invokevirtual 127, 3) := by decide +kernel
theorem dX5_penalty_14 : decode cX5_penalty 14 = .ok (.ifCond .eq 7, 3) := by decide +kernel
theorem dX5_penalty_17 : decode cX5_penalty 17 = .ok (.iconst 0, 1) := by decide +kernel
theorem dX5_penalty_18 : decode cX5_penalty 18 = .ok (.goto 4, 3) := by decide +kernel
theorem dX5_penalty_21 : decode cX5_penalty 21 = .ok (.iconst 1, 1) := by decide +kernel
theorem dX5_penalty_22 : decode cX5_penalty 22 = .ok (.invokevirtual 91, 3) := by decide +kernel
theorem dX5_penalty_25 : decode cX5_penalty 25 = .ok (.ifCond .ne 5, 3) := by decide +kernel
theorem dX5_penalty_28 : decode cX5_penalty 28 = .ok (.iconst 0, 1) := by decide +kernel
theorem dX5_penalty_29 : decode cX5_penalty 29 = .ok (.ireturn, 1) := by decide +kernel
theorem dX5_penalty_30 : decode cX5_penalty 30 = .ok (.aload_n 0, 1) := by decide +kernel
theorem dX5_penalty_31 : decode cX5_penalty 31 = .ok (.getfield 62, 3) := by decide +kernel
theorem dX5_penalty_34 : decode cX5_penalty 34 = .ok (.iload_n 2, 1) := by decide +kernel
theorem dX5_penalty_35 : decode cX5_penalty 35 = .ok (.baload, 1) := by decide +kernel
theorem dX5_penalty_36 : decode cX5_penalty 36 = .ok (.ifCond .eq 5, 3) := by decide +kernel
theorem dX5_penalty_39 : decode cX5_penalty 39 = .ok (.iconst (-1), 1) := by decide +kernel
theorem dX5_penalty_40 : decode cX5_penalty 40 = .ok (.ireturn, 1) := by decide +kernel
theorem dX5_penalty_41 : decode cX5_penalty 41 = .ok (.aload_n 0, 1) := by decide +kernel
theorem dX5_penalty_42 : decode cX5_penalty 42 = .ok (.iload_n 2, 1) := by decide +kernel
theorem dX5_penalty_43 : decode cX5_penalty 43 = .ok (.invokevirtual 164, 3) := by decide +kernel
theorem dX5_penalty_46 : decode cX5_penalty 46 = .ok (.aload_n 0, 1) := by decide +kernel
theorem dX5_penalty_47 : decode cX5_penalty 47 = .ok (.getfield 74, 3) := by decide +kernel
theorem dX5_penalty_50 : decode cX5_penalty 50 = .ok (.bipush 24, 2) := by decide +kernel
theorem dX5_penalty_52 : decode cX5_penalty 52 = .ok (.iload_n 2, 1) := by decide +kernel
theorem dX5_penalty_53 : decode cX5_penalty 53 = .ok (.imul, 1) := by decide +kernel
theorem dX5_penalty_54 : decode cX5_penalty 54 = .ok (.iload_n 1, 1) := by decide +kernel
theorem dX5_penalty_55 : decode cX5_penalty 55 = .ok (.iadd, 1) := by decide +kernel
theorem dX5_penalty_56 : decode cX5_penalty 56 = .ok (.iaload, 1) := by decide +kernel
theorem dX5_penalty_57 : decode cX5_penalty 57 = .ok (.ireturn, 1) := by decide +kernel
theorem dX5_dealAll_0 : decode cX5_dealAll 0 = .ok (.iconst 0, 1) := by decide +kernel
theorem dX5_dealAll_1 : decode cX5_dealAll 1 = .ok (.istore_n 2, 1) := by decide +kernel
theorem dX5_dealAll_2 : decode cX5_dealAll 2 = .ok (.iload_n 2, 1) := by decide +kernel
theorem dX5_dealAll_3 : decode cX5_dealAll 3 = .ok (.iload_n 1, 1) := by decide +kernel
theorem dX5_dealAll_4 : decode cX5_dealAll 4 = .ok (.if_icmp .ge 23, 3) := by decide +kernel
theorem dX5_dealAll_7 : decode cX5_dealAll 7 = .ok (.aload_n 0, 1) := by decide +kernel
theorem dX5_dealAll_8 : decode cX5_dealAll 8 = .ok (.getfield 62, 3) := by decide +kernel
theorem dX5_dealAll_11 : decode cX5_dealAll 11 = .ok (.iload_n 2, 1) := by decide +kernel
theorem dX5_dealAll_12 : decode cX5_dealAll 12 = .ok (.baload, 1) := by decide +kernel
theorem dX5_dealAll_13 : decode cX5_dealAll 13 = .ok (.ifCond .ne 8, 3) := by decide +kernel
theorem dX5_dealAll_16 : decode cX5_dealAll 16 = .ok (.aload_n 0, 1) := by decide +kernel
theorem dX5_dealAll_17 : decode cX5_dealAll 17 = .ok (.iload_n 2, 1) := by decide +kernel
theorem dX5_dealAll_18 : decode cX5_dealAll 18 = .ok (.invokevirtual 164, 3) := by decide +kernel
theorem dX5_dealAll_21 : decode cX5_dealAll 21 = .ok (.iinc 2 1, 3) := by decide +kernel
theorem dX5_dealAll_24 : decode cX5_dealAll 24 = .ok (.goto (-22), 3) := by decide +kernel
theorem dX5_dealAll_27 : decode cX5_dealAll 27 = .ok (.return_, 1) := by decide +kernel
theorem dX5_dueBy_0 : decode cX5_dueBy 0 = .ok (.iconst (-1), 1) := by decide +kernel
theorem dX5_dueBy_1 : decode cX5_dueBy 1 = .ok (.istore_n 3, 1) := by decide +kernel
theorem dX5_dueBy_2 : decode cX5_dueBy 2 = .ok (.iconst 0, 1) := by decide +kernel
theorem dX5_dueBy_3 : decode cX5_dueBy 3 = .ok (.istore 4, 2) := by decide +kernel
theorem dX5_dueBy_5 : decode cX5_dueBy 5 = .ok (.iconst 0, 1) := by decide +kernel
theorem dX5_dueBy_6 : decode cX5_dueBy 6 = .ok (.istore 5, 2) := by decide +kernel
theorem dX5_dueBy_8 : decode cX5_dueBy 8 = .ok (.iload 5, 2) := by decide +kernel
theorem dX5_dueBy_10 : decode cX5_dueBy 10 = .ok (.iload_n 2, 1) := by decide +kernel
theorem dX5_dueBy_11 : decode cX5_dueBy 11 = .ok (.if_icmp .ge 79, 3) := by decide +kernel
theorem dX5_dueBy_14 : decode cX5_dueBy 14 = .ok (.aload_n 0, 1) := by decide +kernel
theorem dX5_dueBy_15 : decode cX5_dueBy 15 = .ok (.getfield 62, 3) := by decide +kernel
theorem dX5_dueBy_18 : decode cX5_dueBy 18 = .ok (.iload 5, 2) := by decide +kernel
theorem dX5_dueBy_20 : decode cX5_dueBy 20 = .ok (.baload, 1) := by decide +kernel
theorem dX5_dueBy_21 : decode cX5_dueBy 21 = .ok (.ifCond .ne 24, 3) := by decide +kernel
theorem dX5_dueBy_24 : decode cX5_dueBy 24 = .ok (.aload_n 0, 1) := by decide +kernel
theorem dX5_dueBy_25 : decode cX5_dueBy 25 = .ok (.getfield 74, 3) := by decide +kernel
theorem dX5_dueBy_28 : decode cX5_dueBy 28 = .ok (.bipush 24, 2) := by decide +kernel
theorem dX5_dueBy_30 : decode cX5_dueBy 30 = .ok (.iload 5, 2) := by decide +kernel
theorem dX5_dueBy_32 : decode cX5_dueBy 32 = .ok (.imul, 1) := by decide +kernel
theorem dX5_dueBy_33 : decode cX5_dueBy 33 = .ok (.iload_n 1, 1) := by decide +kernel
theorem dX5_dueBy_34 : decode cX5_dueBy 34 = .ok (.iadd, 1) := by decide +kernel
theorem dX5_dueBy_35 : decode cX5_dueBy 35 = .ok (.iaload, 1) := by decide +kernel
theorem dX5_dueBy_36 : decode cX5_dueBy 36 = .ok (.iload 4, 2) := by decide +kernel
theorem dX5_dueBy_38 : decode cX5_dueBy 38 = .ok (.if_icmp .le 7, 3) := by decide +kernel
theorem dX5_dueBy_41 : decode cX5_dueBy 41 = .ok (.iconst 1, 1) := by decide +kernel
theorem dX5_dueBy_42 : decode cX5_dueBy 42 = .ok (.goto 4, 3) := by decide +kernel
theorem dX5_dueBy_45 : decode cX5_dueBy 45 = .ok (.iconst 0, 1) := by decide +kernel
theorem dX5_dueBy_46 : decode cX5_dueBy 46 = .ok (.istore 6, 2) := by decide +kernel
theorem dX5_dueBy_48 : decode cX5_dueBy 48 = .ok (.iload 6, 2) := by decide +kernel
theorem dX5_dueBy_50 : decode cX5_dueBy 50 = .ok (.ifCond .eq 8, 3) := by decide +kernel
theorem dX5_dueBy_53 : decode cX5_dueBy 53 = .ok (.iload 5, 2) := by decide +kernel
theorem dX5_dueBy_55 : decode cX5_dueBy 55 = .ok (.goto 4, 3) := by decide +kernel
theorem dX5_dueBy_58 : decode cX5_dueBy 58 = .ok (.iload_n 3, 1) := by decide +kernel
theorem dX5_dueBy_59 : decode cX5_dueBy 59 = .ok (.istore_n 3, 1) := by decide +kernel
theorem dX5_dueBy_60 : decode cX5_dueBy 60 = .ok (.iload 6, 2) := by decide +kernel
theorem dX5_dueBy_62 : decode cX5_dueBy 62 = .ok (.ifCond .eq 18, 3) := by decide +kernel
theorem dX5_dueBy_65 : decode cX5_dueBy 65 = .ok (.aload_n 0, 1) := by decide +kernel
theorem dX5_dueBy_66 : decode cX5_dueBy 66 = .ok (.getfield 74, 3) := by decide +kernel
theorem dX5_dueBy_69 : decode cX5_dueBy 69 = .ok (.bipush 24, 2) := by decide +kernel
theorem dX5_dueBy_71 : decode cX5_dueBy 71 = .ok (.iload 5, 2) := by decide +kernel
theorem dX5_dueBy_73 : decode cX5_dueBy 73 = .ok (.imul, 1) := by decide +kernel
theorem dX5_dueBy_74 : decode cX5_dueBy 74 = .ok (.iload_n 1, 1) := by decide +kernel
theorem dX5_dueBy_75 : decode cX5_dueBy 75 = .ok (.iadd, 1) := by decide +kernel
theorem dX5_dueBy_76 : decode cX5_dueBy 76 = .ok (.iaload, 1) := by decide +kernel
theorem dX5_dueBy_77 : decode cX5_dueBy 77 = .ok (.goto 5, 3) := by decide +kernel
theorem dX5_dueBy_80 : decode cX5_dueBy 80 = .ok (.iload 4, 2) := by decide +kernel
theorem dX5_dueBy_82 : decode cX5_dueBy 82 = .ok (.istore 4, 2) := by decide +kernel
theorem dX5_dueBy_84 : decode cX5_dueBy 84 = .ok (.iinc 5 1, 3) := by decide +kernel
theorem dX5_dueBy_87 : decode cX5_dueBy 87 = .ok (.goto (-79), 3) := by decide +kernel
theorem dX5_dueBy_90 : decode cX5_dueBy 90 = .ok (.iload_n 3, 1) := by decide +kernel
theorem dX5_dueBy_91 : decode cX5_dueBy 91 = .ok (.ireturn, 1) := by decide +kernel
theorem dX5_dueOf_0 : decode cX5_dueOf 0 = .ok (.aload_n 0, 1) := by decide +kernel
theorem dX5_dueOf_1 : decode cX5_dueOf 1 = .ok (.iload_n 1, 1) := by decide +kernel
theorem dX5_dueOf_2 : decode cX5_dueOf 2 = .ok (.iload_n 2, 1) := by decide +kernel
theorem dX5_dueOf_3 : decode cX5_dueOf 3 = .ok (.invokevirtual 168, 3) := by decide +kernel
theorem dX5_dueOf_6 : decode cX5_dueOf 6 = .ok (.istore_n 3, 1) := by decide +kernel
theorem dX5_dueOf_7 : decode cX5_dueOf 7 = .ok (.iload_n 3, 1) := by decide +kernel
theorem dX5_dueOf_8 : decode cX5_dueOf 8 = .ok (.iconst (-1), 1) := by decide +kernel
theorem dX5_dueOf_9 : decode cX5_dueOf 9 = .ok (.if_icmp .ne 7, 3) := by decide +kernel
theorem dX5_dueOf_12 : decode cX5_dueOf 12 = .ok (.iconst 0, 1) := by decide +kernel
theorem dX5_dueOf_13 : decode cX5_dueOf 13 = .ok (.goto 14, 3) := by decide +kernel
theorem dX5_dueOf_16 : decode cX5_dueOf 16 = .ok (.aload_n 0, 1) := by decide +kernel
theorem dX5_dueOf_17 : decode cX5_dueOf 17 = .ok (.getfield 74, 3) := by decide +kernel
theorem dX5_dueOf_20 : decode cX5_dueOf 20 = .ok (.bipush 24, 2) := by decide +kernel
theorem dX5_dueOf_22 : decode cX5_dueOf 22 = .ok (.iload_n 3, 1) := by decide +kernel
theorem dX5_dueOf_23 : decode cX5_dueOf 23 = .ok (.imul, 1) := by decide +kernel
theorem dX5_dueOf_24 : decode cX5_dueOf 24 = .ok (.iload_n 1, 1) := by decide +kernel
theorem dX5_dueOf_25 : decode cX5_dueOf 25 = .ok (.iadd, 1) := by decide +kernel
theorem dX5_dueOf_26 : decode cX5_dueOf 26 = .ok (.iaload, 1) := by decide +kernel
theorem dX5_dueOf_27 : decode cX5_dueOf 27 = .ok (.ireturn, 1) := by decide +kernel
theorem dX5_due_0 : decode cX5_due 0 = .ok (.aload_n 0, 1) := by decide +kernel
theorem dX5_due_1 : decode cX5_due 1 = .ok (.aload_n 0, 1) := by decide +kernel
theorem dX5_due_2 : decode cX5_due 2 = .ok (.iload_n 1, 1) := by decide +kernel
theorem dX5_due_3 : decode cX5_due 3 = .ok (.invokevirtual 95, 3) := by decide +kernel
theorem dX5_due_6 : decode cX5_due 6 = .ok (.ifCond .eq 7, 3) := by decide +kernel
theorem dX5_due_9 : decode cX5_due 9 = .ok (.iconst 0, 1) := by decide +kernel
theorem dX5_due_10 : decode cX5_due 10 = .ok (.goto 4, 3) := by decide +kernel
theorem dX5_due_13 : decode cX5_due 13 = .ok (.iconst 1, 1) := by decide +kernel
theorem dX5_due_14 : decode cX5_due 14 = .ok (.invokevirtual 91, 3) := by decide +kernel
theorem dX5_due_17 : decode cX5_due 17 = .ok (.ifCond .ne 5, 3) := by decide +kernel
theorem dX5_due_20 : decode cX5_due 20 = .ok (.iconst 0, 1) := by decide +kernel
theorem dX5_due_21 : decode cX5_due 21 = .ok (.ireturn, 1) := by decide +kernel
theorem dX5_due_22 : decode cX5_due 22 = .ok (.aload_n 0, 1) := by decide +kernel
theorem dX5_due_23 : decode cX5_due 23 = .ok (.aload_n 0, 1) := by decide +kernel
theorem dX5_due_24 : decode cX5_due 24 = .ok (.getfield 88, 3) := by decide +kernel
theorem dX5_due_27 : decode cX5_due 27 = .ok (.invokevirtual 171, 3) := by decide +kernel
theorem dX5_due_30 : decode cX5_due 30 = .ok (.aload_n 0, 1) := by decide +kernel
theorem dX5_due_31 : decode cX5_due 31 = .ok (.iload_n 1, 1) := by decide +kernel
theorem dX5_due_32 : decode cX5_due 32 = .ok (.aload_n 0, 1) := by decide +kernel
theorem dX5_due_33 : decode cX5_due 33 = .ok (.getfield 88, 3) := by decide +kernel
theorem dX5_due_36 : decode cX5_due 36 = .ok (.invokevirtual 174, 3) := by decide +kernel
theorem dX5_due_39 : decode cX5_due 39 = .ok (.ireturn, 1) := by decide +kernel
theorem dX5_dueAnew_0 : decode cX5_dueAnew 0 = .ok (.aload_n 0, 1) := by decide +kernel
theorem dX5_dueAnew_1 : decode cX5_dueAnew 1 = .ok (.iload_n 1, 1) := by decide +kernel
theorem dX5_dueAnew_2 : decode cX5_dueAnew 2 = .ok (.invokevirtual 177, 3) := by decide +kernel
theorem dX5_dueAnew_5 : decode cX5_dueAnew 5 = .ok (.ireturn, 1) := by decide +kernel
theorem dX5_sumBy_0 : decode cX5_sumBy 0 = .ok (.aload_n 0, 1) := by decide +kernel
theorem dX5_sumBy_1 : decode cX5_sumBy 1 = .ok (.iload_n 1, 1) := by decide +kernel
theorem dX5_sumBy_2 : decode cX5_sumBy 2 = .ok (.invokevirtual 171, 3) := by decide +kernel
theorem dX5_sumBy_5 : decode cX5_sumBy 5 = .ok (.iconst 0, 1) := by decide +kernel
theorem dX5_sumBy_6 : decode cX5_sumBy 6 = .ok (.istore_n 2, 1) := by decide +kernel
theorem dX5_sumBy_7 : decode cX5_sumBy 7 = .ok (.iconst 0, 1) := by decide +kernel
theorem dX5_sumBy_8 : decode cX5_sumBy 8 = .ok (.istore_n 3, 1) := by decide +kernel
theorem dX5_sumBy_9 : decode cX5_sumBy 9 = .ok (.iload_n 3, 1) := by decide +kernel
theorem dX5_sumBy_10 : decode cX5_sumBy 10 = .ok (.aload_n 0, 1) := by decide +kernel
theorem dX5_sumBy_11 : decode cX5_sumBy 11 = .ok (.getfield 81, 3) := by decide +kernel
theorem dX5_sumBy_14 : decode cX5_sumBy 14 = .ok (.if_icmp .ge 18, 3) := by decide +kernel
theorem dX5_sumBy_17 : decode cX5_sumBy 17 = .ok (.iload_n 2, 1) := by decide +kernel
theorem dX5_sumBy_18 : decode cX5_sumBy 18 = .ok (.aload_n 0, 1) := by decide +kernel
theorem dX5_sumBy_19 : decode cX5_sumBy 19 = .ok (.iload_n 3, 1) := by decide +kernel
theorem dX5_sumBy_20 : decode cX5_sumBy 20 = .ok (.iload_n 1, 1) := by decide +kernel
theorem dX5_sumBy_21 : decode cX5_sumBy 21 = .ok (.invokevirtual 174, 3) := by decide +kernel
theorem dX5_sumBy_24 : decode cX5_sumBy 24 = .ok (.iadd, 1) := by decide +kernel
theorem dX5_sumBy_25 : decode cX5_sumBy 25 = .ok (.istore_n 2, 1) := by decide +kernel
theorem dX5_sumBy_26 : decode cX5_sumBy 26 = .ok (.iinc 3 1, 3) := by decide +kernel
theorem dX5_sumBy_29 : decode cX5_sumBy 29 = .ok (.goto (-20), 3) := by decide +kernel
theorem dX5_sumBy_32 : decode cX5_sumBy 32 = .ok (.iload_n 2, 1) := by decide +kernel
theorem dX5_sumBy_33 : decode cX5_sumBy 33 = .ok (.ireturn, 1) := by decide +kernel
theorem dX5_allDue_0 : decode cX5_allDue 0 = .ok (.aload_n 0, 1) := by decide +kernel
theorem dX5_allDue_1 : decode cX5_allDue 1 = .ok (.iconst 0, 1) := by decide +kernel
theorem dX5_allDue_2 : decode cX5_allDue 2 = .ok (.putfield 77, 3) := by decide +kernel
theorem dX5_allDue_5 : decode cX5_allDue 5 = .ok (.aload_n 0, 1) := by decide +kernel
theorem dX5_allDue_6 : decode cX5_allDue 6 = .ok (.aload_n 0, 1) := by decide +kernel
theorem dX5_allDue_7 : decode cX5_allDue 7 = .ok (.getfield 88, 3) := by decide +kernel
theorem dX5_allDue_10 : decode cX5_allDue 10 = .ok (.invokevirtual 180, 3) := by decide +kernel
theorem dX5_allDue_13 : decode cX5_allDue 13 = .ok (.ireturn, 1) := by decide +kernel
theorem dX5_would_0 : decode cX5_would 0 = .ok (.aload_n 0, 1) := by decide +kernel
theorem dX5_would_1 : decode cX5_would 1 = .ok (.iload_n 1, 1) := by decide +kernel
theorem dX5_would_2 : decode cX5_would 2 = .ok (.invokestatic 98, 3) := by decide +kernel
theorem dX5_would_5 : decode cX5_would 5 = .ok (.ifCond .ne 7, 3) := by decide +kernel
theorem dX5_would_8 : decode cX5_would 8 = .ok (.iconst 1, 1) := by decide +kernel
theorem dX5_would_9 : decode cX5_would 9 = .ok (.goto 18, 3) := by decide +kernel
theorem dX5_would_12 : decode cX5_would 12 = .ok (.iload_n 2, 1) := by decide +kernel
theorem dX5_would_13 : decode cX5_would 13 = .ok (.iload_n 3, 1) := by decide +kernel
theorem dX5_would_14 : decode cX5_would 14 = .ok (.iload 4, 2) := by decide +kernel
theorem dX5_would_16 : decode cX5_would 16 = .ok (.invokestatic 120, 3) := by decide +kernel
theorem dX5_would_19 : decode cX5_would 19 = .ok (.ifCond .eq 7, 3) := by decide +kernel
theorem dX5_would_22 : decode cX5_would 22 = .ok (.iconst 0, 1) := by decide +kernel
theorem dX5_would_23 : decode cX5_would 23 = .ok (.goto 4, 3) := by decide +kernel
theorem dX5_would_26 : decode cX5_would 26 = .ok (.iconst 2, 1) := by decide +kernel
theorem dX5_would_27 : decode cX5_would 27 = .ok (.invokevirtual 91, 3) := by decide +kernel
theorem dX5_would_30 : decode cX5_would 30 = .ok (.ifCond .ne 5, 3) := by decide +kernel
theorem dX5_would_33 : decode cX5_would 33 = .ok (.iconst 0, 1) := by decide +kernel
theorem dX5_would_34 : decode cX5_would 34 = .ok (.ireturn, 1) := by decide +kernel
theorem dX5_would_35 : decode cX5_would 35 = .ok (.aload_n 0, 1) := by decide +kernel
theorem dX5_would_36 : decode cX5_would 36 = .ok (.aload_n 0, 1) := by decide +kernel
theorem dX5_would_37 : decode cX5_would 37 = .ok (.getfield 88, 3) := by decide +kernel
theorem dX5_would_40 : decode cX5_would 40 = .ok (.iload_n 1, 1) := by decide +kernel
theorem dX5_would_41 : decode cX5_would 41 = .ok (.iload_n 2, 1) := by decide +kernel
theorem dX5_would_42 : decode cX5_would 42 = .ok (.iload_n 3, 1) := by decide +kernel
theorem dX5_would_43 : decode cX5_would 43 = .ok (.iload 4, 2) := by decide +kernel
theorem dX5_would_45 : decode cX5_would 45 = .ok (.invokevirtual 123, 3) := by decide +kernel
theorem dX5_would_48 : decode cX5_would 48 = .ok (.aload_n 0, 1) := by decide +kernel
theorem dX5_would_49 : decode cX5_would 49 = .ok (.aload_n 0, 1) := by decide +kernel
theorem dX5_would_50 : decode cX5_would 50 = .ok (.getfield 88, 3) := by decide +kernel
theorem dX5_would_53 : decode cX5_would 53 = .ok (.iconst 1, 1) := by decide +kernel
theorem dX5_would_54 : decode cX5_would 54 = .ok (.iadd, 1) := by decide +kernel
theorem dX5_would_55 : decode cX5_would 55 = .ok (.invokevirtual 180, 3) := by decide +kernel
theorem dX5_would_58 : decode cX5_would 58 = .ok (.ireturn, 1) := by decide +kernel
theorem dX5_deals_0 : decode cX5_deals 0 = .ok (.aload_n 0, 1) := by decide +kernel
theorem dX5_deals_1 : decode cX5_deals 1 = .ok (.iload_n 1, 1) := by decide +kernel
theorem dX5_deals_2 : decode cX5_deals 2 = .ok (.aload_n 0, 1) := by decide +kernel
theorem dX5_deals_3 : decode cX5_deals 3 = .ok (.getfield 88, 3) := by decide +kernel
theorem dX5_deals_6 : decode cX5_deals 6 = .ok (.invokevirtual 168, 3) := by decide +kernel
theorem dX5_deals_9 : decode cX5_deals 9 = .ok (.istore_n 3, 1) := by decide +kernel
theorem dX5_deals_10 : decode cX5_deals 10 = .ok (.iload_n 3, 1) := by decide +kernel
theorem dX5_deals_11 : decode cX5_deals 11 = .ok (.iconst (-1), 1) := by decide +kernel
theorem dX5_deals_12 : decode cX5_deals 12 = .ok (.if_icmp .ne 7, 3) := by decide +kernel
theorem dX5_deals_15 : decode cX5_deals 15 = .ok (.iconst (-1), 1) := by decide +kernel
theorem dX5_deals_16 : decode cX5_deals 16 = .ok (.goto 19, 3) := by decide +kernel
theorem dX5_deals_19 : decode cX5_deals 19 = .ok (.aload_n 0, 1) := by decide +kernel
theorem dX5_deals_20 : decode cX5_deals 20 = .ok (.getfield 13, 3) := by decide +kernel
theorem dX5_deals_23 : decode cX5_deals 23 = .ok (.iload_n 1, 1) := by decide +kernel
theorem dX5_deals_24 : decode cX5_deals 24 = .ok (.iaload, 1) := by decide +kernel
theorem dX5_deals_25 : decode cX5_deals 25 = .ok (.aload_n 0, 1) := by decide +kernel
theorem dX5_deals_26 : decode cX5_deals 26 = .ok (.iload_n 1, 1) := by decide +kernel
theorem dX5_deals_27 : decode cX5_deals 27 = .ok (.aload_n 0, 1) := by decide +kernel
theorem dX5_deals_28 : decode cX5_deals 28 = .ok (.getfield 88, 3) := by decide +kernel
theorem dX5_deals_31 : decode cX5_deals 31 = .ok (.invokevirtual 174, 3) := by decide +kernel
theorem dX5_deals_34 : decode cX5_deals 34 = .ok (.iadd, 1) := by decide +kernel
theorem dX5_deals_35 : decode cX5_deals 35 = .ok (.istore 4, 2) := by decide +kernel
theorem dX5_deals_37 : decode cX5_deals 37 = .ok (.iload_n 3, 1) := by decide +kernel
theorem dX5_deals_38 : decode cX5_deals 38 = .ok (.iconst (-1), 1) := by decide +kernel
theorem dX5_deals_39 : decode cX5_deals 39 = .ok (.if_icmp .eq 32, 3) := by decide +kernel
theorem dX5_deals_42 : decode cX5_deals 42 = .ok (.iload_n 2, 1) := by decide +kernel
theorem dX5_deals_43 : decode cX5_deals 43 = .ok (.ifCond .ne 28, 3) := by decide +kernel
theorem dX5_deals_46 : decode cX5_deals 46 = .ok (.aload_n 0, 1) := by decide +kernel
theorem dX5_deals_47 : decode cX5_deals 47 = .ok (.getfield 22, 3) := by decide +kernel
theorem dX5_deals_50 : decode cX5_deals 50 = .ok (.iload_n 1, 1) := by decide +kernel
theorem dX5_deals_51 : decode cX5_deals 51 = .ok (.iaload, 1) := by decide +kernel
theorem dX5_deals_52 : decode cX5_deals 52 = .ok (.iconst (-1), 1) := by decide +kernel
theorem dX5_deals_53 : decode cX5_deals 53 = .ok (.if_icmp .eq 18, 3) := by decide +kernel
theorem dX5_deals_56 : decode cX5_deals 56 = .ok (.iload 4, 2) := by decide +kernel
theorem dX5_deals_58 : decode cX5_deals 58 = .ok (.aload_n 0, 1) := by decide +kernel
theorem dX5_deals_59 : decode cX5_deals 59 = .ok (.getfield 22, 3) := by decide +kernel
theorem dX5_deals_62 : decode cX5_deals 62 = .ok (.iload_n 1, 1) := by decide +kernel
theorem dX5_deals_63 : decode cX5_deals 63 = .ok (.iaload, 1) := by decide +kernel
theorem dX5_deals_64 : decode cX5_deals 64 = .ok (.if_icmp .le 7, 3) := by decide +kernel
theorem dX5_deals_67 : decode cX5_deals 67 = .ok (.iconst 1, 1) := by decide +kernel
theorem dX5_deals_68 : decode cX5_deals 68 = .ok (.goto 4, 3) := by decide +kernel
theorem dX5_deals_71 : decode cX5_deals 71 = .ok (.iconst 0, 1) := by decide +kernel
theorem dX5_deals_72 : decode cX5_deals 72 = .ok (.istore 5, 2) := by decide +kernel
theorem dX5_deals_74 : decode cX5_deals 74 = .ok (.aload_n 0, 1) := by decide +kernel
theorem dX5_deals_75 : decode cX5_deals 75 = .ok (.getfield 22, 3) := by decide +kernel
theorem dX5_deals_78 : decode cX5_deals 78 = .ok (.iload_n 1, 1) := by decide +kernel
theorem dX5_deals_79 : decode cX5_deals 79 = .ok (.iload 5, 2) := by decide +kernel
theorem dX5_deals_81 : decode cX5_deals 81 = .ok (.ifCond .eq 12, 3) := by decide +kernel
theorem dX5_deals_84 : decode cX5_deals 84 = .ok (.aload_n 0, 1) := by decide +kernel
theorem dX5_deals_85 : decode cX5_deals 85 = .ok (.getfield 22, 3) := by decide +kernel
theorem dX5_deals_88 : decode cX5_deals 88 = .ok (.iload_n 1, 1) := by decide +kernel
theorem dX5_deals_89 : decode cX5_deals 89 = .ok (.iaload, 1) := by decide +kernel
theorem dX5_deals_90 : decode cX5_deals 90 = .ok (.goto 5, 3) := by decide +kernel
theorem dX5_deals_93 : decode cX5_deals 93 = .ok (.iload 4, 2) := by decide +kernel
theorem dX5_deals_95 : decode cX5_deals 95 = .ok (.iastore, 1) := by decide +kernel
theorem dX5_deals_96 : decode cX5_deals 96 = .ok (.aload_n 0, 1) := by decide +kernel
theorem dX5_deals_97 : decode cX5_deals 97 = .ok (.getfield 25, 3) := by decide +kernel
theorem dX5_deals_100 : decode cX5_deals 100 = .ok (.iload_n 1, 1) := by decide +kernel
theorem dX5_deals_101 : decode cX5_deals 101 = .ok (.iload 5, 2) := by decide +kernel
theorem dX5_deals_103 : decode cX5_deals 103 = .ok (.ifCond .eq 12, 3) := by decide +kernel
theorem dX5_deals_106 : decode cX5_deals 106 = .ok (.aload_n 0, 1) := by decide +kernel
theorem dX5_deals_107 : decode cX5_deals 107 = .ok (.getfield 25, 3) := by decide +kernel
theorem dX5_deals_110 : decode cX5_deals 110 = .ok (.iload_n 1, 1) := by decide +kernel
theorem dX5_deals_111 : decode cX5_deals 111 = .ok (.iaload, 1) := by decide +kernel
theorem dX5_deals_112 : decode cX5_deals 112 = .ok (.goto 4, 3) := by decide +kernel
theorem dX5_deals_115 : decode cX5_deals 115 = .ok (.iload_n 3, 1) := by decide +kernel
theorem dX5_deals_116 : decode cX5_deals 116 = .ok (.iastore, 1) := by decide +kernel
theorem dX5_deals_117 : decode cX5_deals 117 = .ok (.return_, 1) := by decide +kernel
theorem dX5_deal_0 : decode cX5_deal 0 = .ok (.aload_n 0, 1) := by decide +kernel
theorem dX5_deal_1 : decode cX5_deal 1 = .ok (.iconst 0, 1) := by decide +kernel
theorem dX5_deal_2 : decode cX5_deal 2 = .ok (.putfield 77, 3) := by decide +kernel
theorem dX5_deal_5 : decode cX5_deal 5 = .ok (.aload_n 0, 1) := by decide +kernel
theorem dX5_deal_6 : decode cX5_deal 6 = .ok (.aload_n 0, 1) := by decide +kernel
theorem dX5_deal_7 : decode cX5_deal 7 = .ok (.getfield 88, 3) := by decide +kernel
theorem dX5_deal_10 : decode cX5_deal 10 = .ok (.invokevirtual 171, 3) := by decide +kernel
theorem dX5_deal_13 : decode cX5_deal 13 = .ok (.iconst 0, 1) := by decide +kernel
theorem dX5_deal_14 : decode cX5_deal 14 = .ok (.istore_n 2, 1) := by decide +kernel
theorem dX5_deal_15 : decode cX5_deal 15 = .ok (.iconst 0, 1) := by decide +kernel
theorem dX5_deal_16 : decode cX5_deal 16 = .ok (.istore_n 3, 1) := by decide +kernel
theorem dX5_deal_17 : decode cX5_deal 17 = .ok (.iload_n 3, 1) := by decide +kernel
theorem dX5_deal_18 : decode cX5_deal 18 = .ok (.aload_n 0, 1) := by decide +kernel
theorem dX5_deal_19 : decode cX5_deal 19 = .ok (.getfield 81, 3) := by decide +kernel
theorem dX5_deal_22 : decode cX5_deal 22 = .ok (.if_icmp .ge 63, 3) := by decide +kernel
theorem dX5_deal_25 : decode cX5_deal 25 = .ok (.aload_n 0, 1) := by decide +kernel
theorem dX5_deal_26 : decode cX5_deal 26 = .ok (.getfield 16, 3) := by decide +kernel
theorem dX5_deal_29 : decode cX5_deal 29 = .ok (.iload_n 3, 1) := by decide +kernel
theorem dX5_deal_30 : decode cX5_deal 30 = .ok (.iaload, 1) := by decide +kernel
theorem dX5_deal_31 : decode cX5_deal 31 = .ok (.ifCond .ne 48, 3) := by decide +kernel
theorem dX5_deal_34 : decode cX5_deal 34 = .ok (.aload_n 0, 1) := by decide +kernel
theorem dX5_deal_35 : decode cX5_deal 35 = .ok (.getfield 37, 3) := by decide +kernel
theorem dX5_deal_38 : decode cX5_deal 38 = .ok (.iload_n 3, 1) := by decide +kernel
theorem dX5_deal_39 : decode cX5_deal 39 = .ok (.baload, 1) := by decide +kernel
theorem dX5_deal_40 : decode cX5_deal 40 = .ok (.ifCond .ne 39, 3) := by decide +kernel
theorem dX5_deal_43 : decode cX5_deal 43 = .ok (.aload_n 0, 1) := by decide +kernel
theorem dX5_deal_44 : decode cX5_deal 44 = .ok (.iload_n 3, 1) := by decide +kernel
theorem dX5_deal_45 : decode cX5_deal 45 = .ok (.iload_n 1, 1) := by decide +kernel
theorem dX5_deal_46 : decode cX5_deal 46 = .ok (.invokevirtual 183, 3) := by decide +kernel
theorem dX5_deal_49 : decode cX5_deal 49 = .ok (.iload_n 2, 1) := by decide +kernel
theorem dX5_deal_50 : decode cX5_deal 50 = .ok (.aload_n 0, 1) := by decide +kernel
theorem dX5_deal_51 : decode cX5_deal 51 = .ok (.getfield 22, 3) := by decide +kernel
theorem dX5_deal_54 : decode cX5_deal 54 = .ok (.iload_n 3, 1) := by decide +kernel
theorem dX5_deal_55 : decode cX5_deal 55 = .ok (.iaload, 1) := by decide +kernel
theorem dX5_deal_56 : decode cX5_deal 56 = .ok (.iconst (-1), 1) := by decide +kernel
theorem dX5_deal_57 : decode cX5_deal 57 = .ok (.if_icmp .ne 7, 3) := by decide +kernel
theorem dX5_deal_60 : decode cX5_deal 60 = .ok (.iconst 0, 1) := by decide +kernel
theorem dX5_deal_61 : decode cX5_deal 61 = .ok (.goto 16, 3) := by decide +kernel
theorem dX5_deal_64 : decode cX5_deal 64 = .ok (.aload_n 0, 1) := by decide +kernel
theorem dX5_deal_65 : decode cX5_deal 65 = .ok (.getfield 22, 3) := by decide +kernel
theorem dX5_deal_68 : decode cX5_deal 68 = .ok (.iload_n 3, 1) := by decide +kernel
theorem dX5_deal_69 : decode cX5_deal 69 = .ok (.iaload, 1) := by decide +kernel
theorem dX5_deal_70 : decode cX5_deal 70 = .ok (.aload_n 0, 1) := by decide +kernel
theorem dX5_deal_71 : decode cX5_deal 71 = .ok (.getfield 13, 3) := by decide +kernel
theorem dX5_deal_74 : decode cX5_deal 74 = .ok (.iload_n 3, 1) := by decide +kernel
theorem dX5_deal_75 : decode cX5_deal 75 = .ok (.iaload, 1) := by decide +kernel
theorem dX5_deal_76 : decode cX5_deal 76 = .ok (.isub, 1) := by decide +kernel
theorem dX5_deal_77 : decode cX5_deal 77 = .ok (.iadd, 1) := by decide +kernel
theorem dX5_deal_78 : decode cX5_deal 78 = .ok (.istore_n 2, 1) := by decide +kernel
theorem dX5_deal_79 : decode cX5_deal 79 = .ok (.iinc 3 1, 3) := by decide +kernel
theorem dX5_deal_82 : decode cX5_deal 82 = .ok (.goto (-65), 3) := by decide +kernel
theorem dX5_deal_85 : decode cX5_deal 85 = .ok (.iload_n 2, 1) := by decide +kernel
theorem dX5_deal_86 : decode cX5_deal 86 = .ok (.ireturn, 1) := by decide +kernel
theorem dX5_swap_0 : decode cX5_swap 0 = .ok (.aload_n 0, 1) := by decide +kernel
theorem dX5_swap_1 : decode cX5_swap 1 = .ok (.iload_n 1, 1) := by decide +kernel
theorem dX5_swap_2 : decode cX5_swap 2 = .ok (.invokevirtual 95, 3) := by decide +kernel
theorem dX5_swap_5 : decode cX5_swap 5 = .ok (.ifCond .eq 15, 3) := by decide +kernel
theorem dX5_swap_8 : decode cX5_swap 8 = .ok (.aload_n 0, 1) := by decide +kernel
theorem dX5_swap_9 : decode cX5_swap 9 = .ok (.iload_n 2, 1) := by decide +kernel
theorem dX5_swap_10 : decode cX5_swap 10 = .ok (.invokevirtual 95, 3) := by decide +kernel
theorem dX5_swap_13 : decode cX5_swap 13 = .ok (.ifCond .eq 7, 3) := by decide +kernel
theorem dX5_swap_16 : decode cX5_swap 16 = .ok (.iconst 1, 1) := by decide +kernel
theorem dX5_swap_17 : decode cX5_swap 17 = .ok (.goto 4, 3) := by decide +kernel
theorem dX5_swap_20 : decode cX5_swap 20 = .ok (.iconst 0, 1) := by decide +kernel
theorem dX5_swap_21 : decode cX5_swap 21 = .ok (.istore_n 3, 1) := by decide +kernel
theorem dX5_swap_22 : decode cX5_swap 22 = .ok (.iload_n 3, 1) := by decide +kernel
theorem dX5_swap_23 : decode cX5_swap 23 = .ok (.ifCond .eq 70, 3) := by decide +kernel
theorem dX5_swap_26 : decode cX5_swap 26 = .ok (.iload_n 1, 1) := by decide +kernel
theorem dX5_swap_27 : decode cX5_swap 27 = .ok (.iload_n 2, 1) := by decide +kernel
theorem dX5_swap_28 : decode cX5_swap 28 = .ok (.if_icmp .eq 65, 3) := by decide +kernel
theorem dX5_swap_31 : decode cX5_swap 31 = .ok (.aload_n 0, 1) := by decide +kernel
theorem dX5_swap_32 : decode cX5_swap 32 = .ok (.getfield 16, 3) := by decide +kernel
theorem dX5_swap_35 : decode cX5_swap 35 = .ok (.iload_n 1, 1) := by decide +kernel
theorem dX5_swap_36 : decode cX5_swap 36 = .ok (.iaload, 1) := by decide +kernel
theorem dX5_swap_37 : decode cX5_swap 37 = .ok (.ifCond .ne 56, 3) := by decide +kernel
theorem dX5_swap_40 : decode cX5_swap 40 = .ok (.aload_n 0, 1) := by decide +kernel
theorem dX5_swap_41 : decode cX5_swap 41 = .ok (.getfield 16, 3) := by decide +kernel
theorem dX5_swap_44 : decode cX5_swap 44 = .ok (.iload_n 2, 1) := by decide +kernel
theorem dX5_swap_45 : decode cX5_swap 45 = .ok (.iaload, 1) := by decide +kernel
theorem dX5_swap_46 : decode cX5_swap 46 = .ok (.ifCond .ne 47, 3) := by decide +kernel
theorem dX5_swap_49 : decode cX5_swap 49 = .ok (.aload_n 0, 1) := by decide +kernel
theorem dX5_swap_50 : decode cX5_swap 50 = .ok (.getfield 7, 3) := by decide +kernel
theorem dX5_swap_53 : decode cX5_swap 53 = .ok (.iload_n 1, 1) := by decide +kernel
theorem dX5_swap_54 : decode cX5_swap 54 = .ok (.iaload, 1) := by decide +kernel
theorem dX5_swap_55 : decode cX5_swap 55 = .ok (.aload_n 0, 1) := by decide +kernel
theorem dX5_swap_56 : decode cX5_swap 56 = .ok (.getfield 7, 3) := by decide +kernel
theorem dX5_swap_59 : decode cX5_swap 59 = .ok (.iload_n 2, 1) := by decide +kernel
theorem dX5_swap_60 : decode cX5_swap 60 = .ok (.iaload, 1) := by decide +kernel
theorem dX5_swap_61 : decode cX5_swap 61 = .ok (.if_icmp .ne 32, 3) := by decide +kernel
theorem dX5_swap_64 : decode cX5_swap 64 = .ok (.aload_n 0, 1) := by decide +kernel
theorem dX5_swap_65 : decode cX5_swap 65 = .ok (.getfield 25, 3) := by decide +kernel
theorem dX5_swap_68 : decode cX5_swap 68 = .ok (.iload_n 1, 1) := by decide +kernel
theorem dX5_swap_69 : decode cX5_swap 69 = .ok (.iaload, 1) := by decide +kernel
theorem dX5_swap_70 : decode cX5_swap 70 = .ok (.iconst (-1), 1) := by decide +kernel
theorem dX5_swap_71 : decode cX5_swap 71 = .ok (.if_icmp .eq 22, 3) := by decide +kernel
theorem dX5_swap_74 : decode cX5_swap 74 = .ok (.aload_n 0, 1) := by decide +kernel
theorem dX5_swap_75 : decode cX5_swap 75 = .ok (.getfield 25, 3) := by decide +kernel
theorem dX5_swap_78 : decode cX5_swap 78 = .ok (.iload_n 1, 1) := by decide +kernel
theorem dX5_swap_79 : decode cX5_swap 79 = .ok (.iaload, 1) := by decide +kernel
theorem dX5_swap_80 : decode cX5_swap 80 = .ok (.aload_n 0, 1) := by decide +kernel
theorem dX5_swap_81 : decode cX5_swap 81 = .ok (.getfield 25, 3) := by decide +kernel
theorem dX5_swap_84 : decode cX5_swap 84 = .ok (.iload_n 2, 1) := by decide +kernel
theorem dX5_swap_85 : decode cX5_swap 85 = .ok (.iaload, 1) := by decide +kernel
theorem dX5_swap_86 : decode cX5_swap 86 = .ok (.if_icmp .ne 7, 3) := by decide +kernel
theorem dX5_swap_89 : decode cX5_swap 89 = .ok (.iconst 1, 1) := by decide +kernel
theorem dX5_swap_90 : decode cX5_swap 90 = .ok (.goto 4, 3) := by decide +kernel
theorem dX5_swap_93 : decode cX5_swap 93 = .ok (.iconst 0, 1) := by decide +kernel
theorem dX5_swap_94 : decode cX5_swap 94 = .ok (.istore 4, 2) := by decide +kernel
theorem dX5_swap_96 : decode cX5_swap 96 = .ok (.iload 4, 2) := by decide +kernel
theorem dX5_swap_98 : decode cX5_swap 98 = .ok (.ifCond .eq 17, 3) := by decide +kernel
theorem dX5_swap_101 : decode cX5_swap 101 = .ok (.aload_n 0, 1) := by decide +kernel
theorem dX5_swap_102 : decode cX5_swap 102 = .ok (.getfield 47, 3) := by decide +kernel
theorem dX5_swap_105 : decode cX5_swap 105 = .ok (.aload_n 0, 1) := by decide +kernel
theorem dX5_swap_106 : decode cX5_swap 106 = .ok (.getfield 25, 3) := by decide +kernel
theorem dX5_swap_109 : decode cX5_swap 109 = .ok (.iload_n 1, 1) := by decide +kernel
theorem dX5_swap_110 : decode cX5_swap 110 = .ok (.iaload, 1) := by decide +kernel
theorem dX5_swap_111 : decode cX5_swap 111 = .ok (.iaload, 1) := by decide +kernel
theorem dX5_swap_112 : decode cX5_swap 112 = .ok (.goto 4, 3) := by decide +kernel
theorem dX5_swap_115 : decode cX5_swap 115 = .ok (.iconst 0, 1) := by decide +kernel
theorem dX5_swap_116 : decode cX5_swap 116 = .ok (.istore 5, 2) := by decide +kernel
theorem dX5_swap_118 : decode cX5_swap 118 = .ok (.iload 4, 2) := by decide +kernel
theorem dX5_swap_120 : decode cX5_swap 120 = .ok (.ifCond .eq 26, 3) := by decide +kernel
theorem dX5_swap_123 : decode cX5_swap 123 = .ok (.aload_n 0, 1) := by decide +kernel
theorem dX5_swap_124 : decode cX5_swap 124 = .ok (.iload_n 2, 1) := by decide +kernel
theorem dX5_swap_125 : decode cX5_swap 125 = .ok (.iload 5, 2) := by decide +kernel
theorem dX5_swap_127 : decode cX5_swap 127 = .ok (.invokevirtual 109, 3) := by decide +kernel
theorem dX5_swap_130 : decode cX5_swap 130 = .ok (.aload_n 0, 1) := by decide +kernel
theorem dX5_swap_131 : decode cX5_swap 131 = .ok (.getfield 41, 3) := by decide +kernel
theorem dX5_swap_134 : decode cX5_swap 134 = .ok (.bipush 6, 2) := by decide +kernel
theorem dX5_swap_136 : decode cX5_swap 136 = .ok (.iload_n 1, 1) := by decide +kernel
theorem dX5_swap_137 : decode cX5_swap 137 = .ok (.imul, 1) := by decide +kernel
theorem dX5_swap_138 : decode cX5_swap 138 = .ok (.iload 5, 2) := by decide +kernel
theorem dX5_swap_140 : decode cX5_swap 140 = .ok (.iadd, 1) := by decide +kernel
theorem dX5_swap_141 : decode cX5_swap 141 = .ok (.iaload, 1) := by decide +kernel
theorem dX5_swap_142 : decode cX5_swap 142 = .ok (.isub, 1) := by decide +kernel
theorem dX5_swap_143 : decode cX5_swap 143 = .ok (.goto 4, 3) := by decide +kernel
theorem dX5_swap_146 : decode cX5_swap 146 = .ok (.iconst 0, 1) := by decide +kernel
theorem dX5_swap_147 : decode cX5_swap 147 = .ok (.istore 6, 2) := by decide +kernel
theorem dX5_swap_149 : decode cX5_swap 149 = .ok (.iload 4, 2) := by decide +kernel
theorem dX5_swap_151 : decode cX5_swap 151 = .ok (.ifCond .eq 26, 3) := by decide +kernel
theorem dX5_swap_154 : decode cX5_swap 154 = .ok (.aload_n 0, 1) := by decide +kernel
theorem dX5_swap_155 : decode cX5_swap 155 = .ok (.iload_n 1, 1) := by decide +kernel
theorem dX5_swap_156 : decode cX5_swap 156 = .ok (.iload 5, 2) := by decide +kernel
theorem dX5_swap_158 : decode cX5_swap 158 = .ok (.invokevirtual 109, 3) := by decide +kernel
theorem dX5_swap_161 : decode cX5_swap 161 = .ok (.aload_n 0, 1) := by decide +kernel
theorem dX5_swap_162 : decode cX5_swap 162 = .ok (.getfield 41, 3) := by decide +kernel
theorem dX5_swap_165 : decode cX5_swap 165 = .ok (.bipush 6, 2) := by decide +kernel
theorem dX5_swap_167 : decode cX5_swap 167 = .ok (.iload_n 2, 1) := by decide +kernel
theorem dX5_swap_168 : decode cX5_swap 168 = .ok (.imul, 1) := by decide +kernel
theorem dX5_swap_169 : decode cX5_swap 169 = .ok (.iload 5, 2) := by decide +kernel
theorem dX5_swap_171 : decode cX5_swap 171 = .ok (.iadd, 1) := by decide +kernel
theorem dX5_swap_172 : decode cX5_swap 172 = .ok (.iaload, 1) := by decide +kernel
theorem dX5_swap_173 : decode cX5_swap 173 = .ok (.isub, 1) := by decide +kernel
theorem dX5_swap_174 : decode cX5_swap 174 = .ok (.goto 4, 3) := by decide +kernel
theorem dX5_swap_177 : decode cX5_swap 177 = .ok (.iconst 0, 1) := by decide +kernel
theorem dX5_swap_178 : decode cX5_swap 178 = .ok (.istore 7, 2) := by decide +kernel
theorem dX5_swap_180 : decode cX5_swap 180 = .ok (.iload 4, 2) := by decide +kernel
theorem dX5_swap_182 : decode cX5_swap 182 = .ok (.ifCond .eq 29, 3) := by decide +kernel
theorem dX5_swap_185 : decode cX5_swap 185 = .ok (.iload 6, 2) := by decide +kernel
theorem dX5_swap_187 : decode cX5_swap 187 = .ok (.aload_n 0, 1) := by decide +kernel
theorem dX5_swap_188 : decode cX5_swap 188 = .ok (.getfield 13, 3) := by decide +kernel
theorem dX5_swap_191 : decode cX5_swap 191 = .ok (.iload_n 1, 1) := by decide +kernel
theorem dX5_swap_192 : decode cX5_swap 192 = .ok (.iaload, 1) := by decide +kernel
theorem dX5_swap_193 : decode cX5_swap 193 = .ok (.if_icmp .lt 18, 3) := by decide +kernel
theorem dX5_swap_196 : decode cX5_swap 196 = .ok (.iload 7, 2) := by decide +kernel
theorem dX5_swap_198 : decode cX5_swap 198 = .ok (.aload_n 0, 1) := by decide +kernel
theorem dX5_swap_199 : decode cX5_swap 199 = .ok (.getfield 13, 3) := by decide +kernel
theorem dX5_swap_202 : decode cX5_swap 202 = .ok (.iload_n 2, 1) := by decide +kernel
theorem dX5_swap_203 : decode cX5_swap 203 = .ok (.iaload, 1) := by decide +kernel
theorem dX5_swap_204 : decode cX5_swap 204 = .ok (.if_icmp .lt 7, 3) := by decide +kernel
theorem dX5_swap_207 : decode cX5_swap 207 = .ok (.iconst 1, 1) := by decide +kernel
theorem dX5_swap_208 : decode cX5_swap 208 = .ok (.goto 4, 3) := by decide +kernel
theorem dX5_swap_211 : decode cX5_swap 211 = .ok (.iconst 0, 1) := by decide +kernel
theorem dX5_swap_212 : decode cX5_swap 212 = .ok (.istore 4, 2) := by decide +kernel
theorem dX5_swap_214 : decode cX5_swap 214 = .ok (.aload_n 0, 1) := by decide +kernel
theorem dX5_swap_215 : decode cX5_swap 215 = .ok (.iload_n 3, 1) := by decide +kernel
theorem dX5_swap_216 : decode cX5_swap 216 = .ok (.ifCond .ne 7, 3) := by decide +kernel
theorem dX5_swap_219 : decode cX5_swap 219 = .ok (.iconst 1, 1) := by decide +kernel
theorem dX5_swap_220 : decode cX5_swap 220 = .ok (.goto 22, 3) := by decide +kernel
theorem dX5_swap_223 : decode cX5_swap 223 = .ok (.iload_n 1, 1) := by decide +kernel
theorem dX5_swap_224 : decode cX5_swap 224 = .ok (.iload_n 2, 1) := by decide +kernel
theorem dX5_swap_225 : decode cX5_swap 225 = .ok (.if_icmp .ne 7, 3) := by decide +kernel
theorem dX5_swap_228 : decode cX5_swap 228 = .ok (.iconst 2, 1) := by decide +kernel
theorem dX5_swap_229 : decode cX5_swap 229 = .ok (.goto 13, 3) := by decide +kernel
theorem dX5_swap_232 : decode cX5_swap 232 = .ok (.iload 4, 2) := by decide +kernel
theorem dX5_swap_234 : decode cX5_swap 234 = .ok (.ifCond .eq 7, 3) := by decide +kernel
theorem dX5_swap_237 : decode cX5_swap 237 = .ok (.iconst 0, 1) := by decide +kernel
theorem dX5_swap_238 : decode cX5_swap 238 = .ok (.goto 4, 3) := by decide +kernel
theorem dX5_swap_241 : decode cX5_swap 241 = .ok (.iconst 3, 1) := by decide +kernel
theorem dX5_swap_242 : decode cX5_swap 242 = .ok (.invokevirtual 91, 3) := by decide +kernel
theorem dX5_swap_245 : decode cX5_swap 245 = .ok (.ifCond .eq 19, 3) := by decide +kernel
theorem dX5_swap_248 : decode cX5_swap 248 = .ok (.aload_n 0, 1) := by decide +kernel
theorem dX5_swap_249 : decode cX5_swap 249 = .ok (.getfield 22, 3) := by decide +kernel
theorem dX5_swap_252 : decode cX5_swap 252 = .ok (.iload_n 1, 1) := by decide +kernel
theorem dX5_swap_253 : decode cX5_swap 253 = .ok (.iload 6, 2) := by decide +kernel
theorem dX5_swap_255 : decode cX5_swap 255 = .ok (.iastore, 1) := by decide +kernel
theorem dX5_swap_256 : decode cX5_swap 256 = .ok (.aload_n 0, 1) := by decide +kernel
theorem dX5_swap_257 : decode cX5_swap 257 = .ok (.getfield 22, 3) := by decide +kernel
theorem dX5_swap_260 : decode cX5_swap 260 = .ok (.iload_n 2, 1) := by decide +kernel
theorem dX5_swap_261 : decode cX5_swap 261 = .ok (.iload 7, 2) := by decide +kernel
theorem dX5_swap_263 : decode cX5_swap 263 = .ok (.iastore, 1) := by decide +kernel
theorem dX5_swap_264 : decode cX5_swap 264 = .ok (.return_, 1) := by decide +kernel
theorem dX5_goes_0 : decode cX5_goes 0 = .ok (.aload_n 0, 1) := by decide +kernel
theorem dX5_goes_1 : decode cX5_goes 1 = .ok (.getfield 16, 3) := by decide +kernel
theorem dX5_goes_4 : decode cX5_goes 4 = .ok (.iload_n 1, 1) := by decide +kernel
theorem dX5_goes_5 : decode cX5_goes 5 = .ok (.iconst 1, 1) := by decide +kernel
theorem dX5_goes_6 : decode cX5_goes 6 = .ok (.iastore, 1) := by decide +kernel
theorem dX5_goes_7 : decode cX5_goes 7 = .ok (.aload_n 0, 1) := by decide +kernel
theorem dX5_goes_8 : decode cX5_goes 8 = .ok (.getfield 19, 3) := by decide +kernel
theorem dX5_goes_11 : decode cX5_goes 11 = .ok (.iload_n 1, 1) := by decide +kernel
theorem dX5_goes_12 : decode cX5_goes 12 = .ok (.iload_n 2, 1) := by decide +kernel
theorem dX5_goes_13 : decode cX5_goes 13 = .ok (.iastore, 1) := by decide +kernel
theorem dX5_goes_14 : decode cX5_goes 14 = .ok (.aload_n 0, 1) := by decide +kernel
theorem dX5_goes_15 : decode cX5_goes 15 = .ok (.getfield 22, 3) := by decide +kernel
theorem dX5_goes_18 : decode cX5_goes 18 = .ok (.iload_n 1, 1) := by decide +kernel
theorem dX5_goes_19 : decode cX5_goes 19 = .ok (.iaload, 1) := by decide +kernel
theorem dX5_goes_20 : decode cX5_goes 20 = .ok (.iconst (-1), 1) := by decide +kernel
theorem dX5_goes_21 : decode cX5_goes 21 = .ok (.if_icmp .eq 90, 3) := by decide +kernel
theorem dX5_goes_24 : decode cX5_goes 24 = .ok (.aload_n 0, 1) := by decide +kernel
theorem dX5_goes_25 : decode cX5_goes 25 = .ok (.getfield 22, 3) := by decide +kernel
theorem dX5_goes_28 : decode cX5_goes 28 = .ok (.iload_n 1, 1) := by decide +kernel
theorem dX5_goes_29 : decode cX5_goes 29 = .ok (.iaload, 1) := by decide +kernel
theorem dX5_goes_30 : decode cX5_goes 30 = .ok (.aload_n 0, 1) := by decide +kernel
theorem dX5_goes_31 : decode cX5_goes 31 = .ok (.getfield 13, 3) := by decide +kernel
theorem dX5_goes_34 : decode cX5_goes 34 = .ok (.iload_n 1, 1) := by decide +kernel
theorem dX5_goes_35 : decode cX5_goes 35 = .ok (.iaload, 1) := by decide +kernel
theorem dX5_goes_36 : decode cX5_goes 36 = .ok (.isub, 1) := by decide +kernel
theorem dX5_goes_37 : decode cX5_goes 37 = .ok (.istore_n 3, 1) := by decide +kernel
theorem dX5_goes_38 : decode cX5_goes 38 = .ok (.aload_n 0, 1) := by decide +kernel
theorem dX5_goes_39 : decode cX5_goes 39 = .ok (.getfield 59, 3) := by decide +kernel
theorem dX5_goes_42 : decode cX5_goes 42 = .ok (.aload_n 0, 1) := by decide +kernel
theorem dX5_goes_43 : decode cX5_goes 43 = .ok (.getfield 25, 3) := by decide +kernel
theorem dX5_goes_46 : decode cX5_goes 46 = .ok (.iload_n 1, 1) := by decide +kernel
theorem dX5_goes_47 : decode cX5_goes 47 = .ok (.iaload, 1) := by decide +kernel
theorem dX5_goes_48 : decode cX5_goes 48 = .ok (.dup2, 1) := by decide +kernel
theorem dX5_goes_49 : decode cX5_goes 49 = .ok (.iaload, 1) := by decide +kernel
theorem dX5_goes_50 : decode cX5_goes 50 = .ok (.iload_n 3, 1) := by decide +kernel
theorem dX5_goes_51 : decode cX5_goes 51 = .ok (.iadd, 1) := by decide +kernel
theorem dX5_goes_52 : decode cX5_goes 52 = .ok (.iastore, 1) := by decide +kernel
theorem dX5_goes_53 : decode cX5_goes 53 = .ok (.aload_n 0, 1) := by decide +kernel
theorem dX5_goes_54 : decode cX5_goes 54 = .ok (.getfield 65, 3) := by decide +kernel
theorem dX5_goes_57 : decode cX5_goes 57 = .ok (.aload_n 0, 1) := by decide +kernel
theorem dX5_goes_58 : decode cX5_goes 58 = .ok (.getfield 7, 3) := by decide +kernel
theorem dX5_goes_61 : decode cX5_goes 61 = .ok (.iload_n 1, 1) := by decide +kernel
theorem dX5_goes_62 : decode cX5_goes 62 = .ok (.iaload, 1) := by decide +kernel
theorem dX5_goes_63 : decode cX5_goes 63 = .ok (.dup2, 1) := by decide +kernel
theorem dX5_goes_64 : decode cX5_goes 64 = .ok (.iaload, 1) := by decide +kernel
theorem dX5_goes_65 : decode cX5_goes 65 = .ok (.iload_n 3, 1) := by decide +kernel
theorem dX5_goes_66 : decode cX5_goes 66 = .ok (.iadd, 1) := by decide +kernel
theorem dX5_goes_67 : decode cX5_goes 67 = .ok (.iastore, 1) := by decide +kernel
theorem dX5_goes_68 : decode cX5_goes 68 = .ok (.aload_n 0, 1) := by decide +kernel
theorem dX5_goes_69 : decode cX5_goes 69 = .ok (.getfield 68, 3) := by decide +kernel
theorem dX5_goes_72 : decode cX5_goes 72 = .ok (.aload_n 0, 1) := by decide +kernel
theorem dX5_goes_73 : decode cX5_goes 73 = .ok (.getfield 7, 3) := by decide +kernel
theorem dX5_goes_76 : decode cX5_goes 76 = .ok (.iload_n 1, 1) := by decide +kernel
theorem dX5_goes_77 : decode cX5_goes 77 = .ok (.iaload, 1) := by decide +kernel
theorem dX5_goes_78 : decode cX5_goes 78 = .ok (.dup2, 1) := by decide +kernel
theorem dX5_goes_79 : decode cX5_goes 79 = .ok (.iaload, 1) := by decide +kernel
theorem dX5_goes_80 : decode cX5_goes 80 = .ok (.iload_n 2, 1) := by decide +kernel
theorem dX5_goes_81 : decode cX5_goes 81 = .ok (.aload_n 0, 1) := by decide +kernel
theorem dX5_goes_82 : decode cX5_goes 82 = .ok (.getfield 22, 3) := by decide +kernel
theorem dX5_goes_85 : decode cX5_goes 85 = .ok (.iload_n 1, 1) := by decide +kernel
theorem dX5_goes_86 : decode cX5_goes 86 = .ok (.iaload, 1) := by decide +kernel
theorem dX5_goes_87 : decode cX5_goes 87 = .ok (.iconst 5, 1) := by decide +kernel
theorem dX5_goes_88 : decode cX5_goes 88 = .ok (.isub, 1) := by decide +kernel
theorem dX5_goes_89 : decode cX5_goes 89 = .ok (.aload_n 0, 1) := by decide +kernel
theorem dX5_goes_90 : decode cX5_goes 90 = .ok (.getfield 22, 3) := by decide +kernel
theorem dX5_goes_93 : decode cX5_goes 93 = .ok (.iload_n 1, 1) := by decide +kernel
theorem dX5_goes_94 : decode cX5_goes 94 = .ok (.iaload, 1) := by decide +kernel
theorem dX5_goes_95 : decode cX5_goes 95 = .ok (.bipush 10, 2) := by decide +kernel
theorem dX5_goes_97 : decode cX5_goes 97 = .ok (.iadd, 1) := by decide +kernel
theorem dX5_goes_98 : decode cX5_goes 98 = .ok (.invokestatic 84, 3) := by decide +kernel
theorem dX5_goes_101 : decode cX5_goes 101 = .ok (.ifCond .eq 7, 3) := by decide +kernel
theorem dX5_goes_104 : decode cX5_goes 104 = .ok (.iconst 0, 1) := by decide +kernel
theorem dX5_goes_105 : decode cX5_goes 105 = .ok (.goto 4, 3) := by decide +kernel
theorem dX5_goes_108 : decode cX5_goes 108 = .ok (.iconst 1, 1) := by decide +kernel
theorem dX5_goes_109 : decode cX5_goes 109 = .ok (.iadd, 1) := by decide +kernel
theorem dX5_goes_110 : decode cX5_goes 110 = .ok (.iastore, 1) := by decide +kernel
theorem dX5_goes_111 : decode cX5_goes 111 = .ok (.return_, 1) := by decide +kernel
theorem dX5_message_0 : decode cX5_message 0 = .ok (.iload_n 2, 1) := by decide +kernel
theorem dX5_message_1 : decode cX5_message 1 = .ok (.iconst 1, 1) := by decide +kernel
theorem dX5_message_2 : decode cX5_message 2 = .ok (.bipush 99, 2) := by decide +kernel
theorem dX5_message_4 : decode cX5_message 4 = .ok (.invokestatic 84, 3) := by decide +kernel
theorem dX5_message_7 : decode cX5_message 7 = .ok (.ifCond .eq 37, 3) := by decide +kernel
theorem dX5_message_10 : decode cX5_message 10 = .ok (.iload_n 3, 1) := by decide +kernel
theorem dX5_message_11 : decode cX5_message 11 = .ok (.iconst 0, 1) := by decide +kernel
theorem dX5_message_12 : decode cX5_message 12 = .ok (.iconst 2, 1) := by decide +kernel
theorem dX5_message_13 : decode cX5_message 13 = .ok (.invokestatic 84, 3) := by decide +kernel
theorem dX5_message_16 : decode cX5_message 16 = .ok (.ifCond .eq 28, 3) := by decide +kernel
theorem dX5_message_19 : decode cX5_message 19 = .ok (.iload 4, 2) := by decide +kernel
theorem dX5_message_21 : decode cX5_message 21 = .ok (.iconst 0, 1) := by decide +kernel
theorem dX5_message_22 : decode cX5_message 22 = .ok (.iload_n 3, 1) := by decide +kernel
theorem dX5_message_23 : decode cX5_message 23 = .ok (.iconst 1, 1) := by decide +kernel
theorem dX5_message_24 : decode cX5_message 24 = .ok (.if_icmp .ne 7, 3) := by decide +kernel
theorem dX5_message_27 : decode cX5_message 27 = .ok (.iconst 0, 1) := by decide +kernel
theorem dX5_message_28 : decode cX5_message 28 = .ok (.goto 6, 3) := by decide +kernel
theorem dX5_message_31 : decode cX5_message 31 = .ok (.sipush 1439, 3) := by decide +kernel
theorem dX5_message_34 : decode cX5_message 34 = .ok (.invokestatic 84, 3) := by decide +kernel
theorem dX5_message_37 : decode cX5_message 37 = .ok (.ifCond .eq 7, 3) := by decide +kernel
theorem dX5_message_40 : decode cX5_message 40 = .ok (.iconst 1, 1) := by decide +kernel
theorem dX5_message_41 : decode cX5_message 41 = .ok (.goto 4, 3) := by decide +kernel
theorem dX5_message_44 : decode cX5_message 44 = .ok (.iconst 0, 1) := by decide +kernel
theorem dX5_message_45 : decode cX5_message 45 = .ok (.istore 5, 2) := by decide +kernel
theorem dX5_message_47 : decode cX5_message 47 = .ok (.aload_n 0, 1) := by decide +kernel
theorem dX5_message_48 : decode cX5_message 48 = .ok (.iload_n 1, 1) := by decide +kernel
theorem dX5_message_49 : decode cX5_message 49 = .ok (.invokevirtual 95, 3) := by decide +kernel
theorem dX5_message_52 : decode cX5_message 52 = .ok (.istore 6, 2) := by decide +kernel
theorem dX5_message_54 : decode cX5_message 54 = .ok (.aload_n 0, 1) := by decide +kernel
theorem dX5_message_55 : decode cX5_message 55 = .ok (.iload 6, 2) := by decide +kernel
theorem dX5_message_57 : decode cX5_message 57 = .ok (.ifCond .ne 7, 3) := by decide +kernel
theorem dX5_message_60 : decode cX5_message 60 = .ok (.iconst 1, 1) := by decide +kernel
theorem dX5_message_61 : decode cX5_message 61 = .ok (.goto 13, 3) := by decide +kernel
theorem dX5_message_64 : decode cX5_message 64 = .ok (.iload 5, 2) := by decide +kernel
theorem dX5_message_66 : decode cX5_message 66 = .ok (.ifCond .eq 7, 3) := by decide +kernel
theorem dX5_message_69 : decode cX5_message 69 = .ok (.iconst 0, 1) := by decide +kernel
theorem dX5_message_70 : decode cX5_message 70 = .ok (.goto 4, 3) := by decide +kernel
theorem dX5_message_73 : decode cX5_message 73 = .ok (.iconst 2, 1) := by decide +kernel
theorem dX5_message_74 : decode cX5_message 74 = .ok (.invokevirtual 91, 3) := by decide +kernel
theorem dX5_message_77 : decode cX5_message 77 = .ok (.ifCond .ne 5, 3) := by decide +kernel
theorem dX5_message_80 : decode cX5_message 80 = .ok (.iconst 0, 1) := by decide +kernel
theorem dX5_message_81 : decode cX5_message 81 = .ok (.ireturn, 1) := by decide +kernel
theorem dX5_message_82 : decode cX5_message 82 = .ok (.aload_n 0, 1) := by decide +kernel
theorem dX5_message_83 : decode cX5_message 83 = .ok (.getfield 16, 3) := by decide +kernel
theorem dX5_message_86 : decode cX5_message 86 = .ok (.iload_n 1, 1) := by decide +kernel
theorem dX5_message_87 : decode cX5_message 87 = .ok (.iaload, 1) := by decide +kernel
theorem dX5_message_88 : decode cX5_message 88 = .ok (.ifCond .ne 13, 3) := by decide +kernel
theorem dX5_message_91 : decode cX5_message 91 = .ok (.iload_n 2, 1) := by decide +kernel
theorem dX5_message_92 : decode cX5_message 92 = .ok (.aload_n 0, 1) := by decide +kernel
theorem dX5_message_93 : decode cX5_message 93 = .ok (.getfield 34, 3) := by decide +kernel
theorem dX5_message_96 : decode cX5_message 96 = .ok (.iload_n 1, 1) := by decide +kernel
theorem dX5_message_97 : decode cX5_message 97 = .ok (.iaload, 1) := by decide +kernel
theorem dX5_message_98 : decode cX5_message 98 = .ok (.if_icmp .gt 5, 3) := by decide +kernel
theorem dX5_message_101 : decode cX5_message 101 = .ok (.iconst 0, 1) := by decide +kernel
theorem dX5_message_102 : decode cX5_message 102 = .ok (.ireturn, 1) := by decide +kernel
theorem dX5_message_103 : decode cX5_message 103 = .ok (.aload_n 0, 1) := by decide +kernel
theorem dX5_message_104 : decode cX5_message 104 = .ok (.getfield 34, 3) := by decide +kernel
theorem dX5_message_107 : decode cX5_message 107 = .ok (.iload_n 1, 1) := by decide +kernel
theorem dX5_message_108 : decode cX5_message 108 = .ok (.iload_n 2, 1) := by decide +kernel
theorem dX5_message_109 : decode cX5_message 109 = .ok (.iastore, 1) := by decide +kernel
theorem dX5_message_110 : decode cX5_message 110 = .ok (.iload_n 3, 1) := by decide +kernel
theorem dX5_message_111 : decode cX5_message 111 = .ok (.ifCond .ne 74, 3) := by decide +kernel
theorem dX5_message_114 : decode cX5_message 114 = .ok (.aload_n 0, 1) := by decide +kernel
theorem dX5_message_115 : decode cX5_message 115 = .ok (.getfield 22, 3) := by decide +kernel
theorem dX5_message_118 : decode cX5_message 118 = .ok (.iload_n 1, 1) := by decide +kernel
theorem dX5_message_119 : decode cX5_message 119 = .ok (.iaload, 1) := by decide +kernel
theorem dX5_message_120 : decode cX5_message 120 = .ok (.iload 4, 2) := by decide +kernel
theorem dX5_message_122 : decode cX5_message 122 = .ok (.if_icmp .ge 7, 3) := by decide +kernel
theorem dX5_message_125 : decode cX5_message 125 = .ok (.iconst 1, 1) := by decide +kernel
theorem dX5_message_126 : decode cX5_message 126 = .ok (.goto 4, 3) := by decide +kernel
theorem dX5_message_129 : decode cX5_message 129 = .ok (.iconst 0, 1) := by decide +kernel
theorem dX5_message_130 : decode cX5_message 130 = .ok (.istore 7, 2) := by decide +kernel
theorem dX5_message_132 : decode cX5_message 132 = .ok (.aload_n 0, 1) := by decide +kernel
theorem dX5_message_133 : decode cX5_message 133 = .ok (.getfield 13, 3) := by decide +kernel
theorem dX5_message_136 : decode cX5_message 136 = .ok (.iload_n 1, 1) := by decide +kernel
theorem dX5_message_137 : decode cX5_message 137 = .ok (.iload 4, 2) := by decide +kernel
theorem dX5_message_139 : decode cX5_message 139 = .ok (.iastore, 1) := by decide +kernel
theorem dX5_message_140 : decode cX5_message 140 = .ok (.aload_n 0, 1) := by decide +kernel
theorem dX5_message_141 : decode cX5_message 141 = .ok (.getfield 22, 3) := by decide +kernel
theorem dX5_message_144 : decode cX5_message 144 = .ok (.iload_n 1, 1) := by decide +kernel
theorem dX5_message_145 : decode cX5_message 145 = .ok (.iload 7, 2) := by decide +kernel
theorem dX5_message_147 : decode cX5_message 147 = .ok (.ifCond .eq 7, 3) := by decide +kernel
theorem dX5_message_150 : decode cX5_message 150 = .ok (.iconst (-1), 1) := by decide +kernel
theorem dX5_message_151 : decode cX5_message 151 = .ok (.goto 9, 3) := by decide +kernel
theorem dX5_message_154 : decode cX5_message 154 = .ok (.aload_n 0, 1) := by decide +kernel
theorem dX5_message_155 : decode cX5_message 155 = .ok (.getfield 22, 3) := by decide +kernel
theorem dX5_message_158 : decode cX5_message 158 = .ok (.iload_n 1, 1) := by decide +kernel
theorem dX5_message_159 : decode cX5_message 159 = .ok (.iaload, 1) := by decide +kernel
theorem dX5_message_160 : decode cX5_message 160 = .ok (.iastore, 1) := by decide +kernel
theorem dX5_message_161 : decode cX5_message 161 = .ok (.aload_n 0, 1) := by decide +kernel
theorem dX5_message_162 : decode cX5_message 162 = .ok (.getfield 25, 3) := by decide +kernel
theorem dX5_message_165 : decode cX5_message 165 = .ok (.iload_n 1, 1) := by decide +kernel
theorem dX5_message_166 : decode cX5_message 166 = .ok (.iload 7, 2) := by decide +kernel
theorem dX5_message_168 : decode cX5_message 168 = .ok (.ifCond .eq 7, 3) := by decide +kernel
theorem dX5_message_171 : decode cX5_message 171 = .ok (.iconst (-1), 1) := by decide +kernel
theorem dX5_message_172 : decode cX5_message 172 = .ok (.goto 9, 3) := by decide +kernel
theorem dX5_message_175 : decode cX5_message 175 = .ok (.aload_n 0, 1) := by decide +kernel
theorem dX5_message_176 : decode cX5_message 176 = .ok (.getfield 25, 3) := by decide +kernel
theorem dX5_message_179 : decode cX5_message 179 = .ok (.iload_n 1, 1) := by decide +kernel
theorem dX5_message_180 : decode cX5_message 180 = .ok (.iaload, 1) := by decide +kernel
theorem dX5_message_181 : decode cX5_message 181 = .ok (.iastore, 1) := by decide +kernel
theorem dX5_message_182 : decode cX5_message 182 = .ok (.goto 25, 3) := by decide +kernel
theorem dX5_message_185 : decode cX5_message 185 = .ok (.iload_n 3, 1) := by decide +kernel
theorem dX5_message_186 : decode cX5_message 186 = .ok (.iconst 1, 1) := by decide +kernel
theorem dX5_message_187 : decode cX5_message 187 = .ok (.if_icmp .ne 13, 3) := by decide +kernel
theorem dX5_message_190 : decode cX5_message 190 = .ok (.aload_n 0, 1) := by decide +kernel
end
section
/-! decode rows -/
theorem dX5_message_191 : decode cX5_message 191 = .ok (.getfield 16, 3) := by decide +kernel
theorem dX5_message_194 : decode cX5_message 194 = .ok (.iload_n 1, 1) := by decide +kernel
theorem dX5_message_195 : decode cX5_message 195 = .ok (.iconst 2, 1) := by decide +kernel
theorem dX5_message_196 : decode cX5_message 196 = .ok (.iastore, 1) := by decide +kernel
theorem dX5_message_197 : decode cX5_message 197 = .ok (.goto 10, 3) := by decide +kernel
theorem dX5_message_200 : decode cX5_message 200 = .ok (.aload_n 0, 1) := by decide +kernel
theorem dX5_message_201 : decode cX5_message 201 = .ok (.iload_n 1, 1) := by decide +kernel
theorem dX5_message_202 : decode cX5_message 202 = .ok (.iload 4, 2) := by decide +kernel
theorem dX5_message_204 : decode cX5_message 204 = .ok (.invokevirtual 187, 3) := by decide +kernel
theorem dX5_message_207 : decode cX5_message 207 = .ok (.iconst 1, 1) := by decide +kernel
theorem dX5_message_208 : decode cX5_message 208 = .ok (.ireturn, 1) := by decide +kernel
theorem dX5_companyIs_0 : decode cX5_companyIs 0 = .ok (.aload_n 0, 1) := by decide +kernel
theorem dX5_companyIs_1 : decode cX5_companyIs 1 = .ok (.iload_n 1, 1) := by decide +kernel
theorem dX5_companyIs_2 : decode cX5_companyIs 2 = .ok (.iconst 0, 1) := by decide +kernel
theorem dX5_companyIs_3 : decode cX5_companyIs 3 = .ok (.iconst 3, 1) := by decide +kernel
theorem dX5_companyIs_4 : decode cX5_companyIs 4 = .ok (.invokestatic 84, 3) := by decide +kernel
theorem dX5_companyIs_7 : decode cX5_companyIs 7 = .ok (.ifCond .ne 7, 3) := by decide +kernel
theorem dX5_companyIs_10 : decode cX5_companyIs 10 = .ok (.iconst 1, 1) := by decide +kernel
theorem dX5_companyIs_11 : decode cX5_companyIs 11 = .ok (.goto 17, 3) := by decide +kernel
theorem dX5_companyIs_14 : decode cX5_companyIs 14 = .ok (.iload_n 2, 1) := by decide +kernel
theorem dX5_companyIs_15 : decode cX5_companyIs 15 = .ok (.iconst 0, 1) := by decide +kernel
theorem dX5_companyIs_16 : decode cX5_companyIs 16 = .ok (.iconst 2, 1) := by decide +kernel
theorem dX5_companyIs_17 : decode cX5_companyIs 17 = .ok (.invokestatic 84, 3) := by decide +kernel
theorem dX5_companyIs_20 : decode cX5_companyIs 20 = .ok (.ifCond .eq 7, 3) := by decide +kernel
theorem dX5_companyIs_23 : decode cX5_companyIs 23 = .ok (.iconst 0, 1) := by decide +kernel
theorem dX5_companyIs_24 : decode cX5_companyIs 24 = .ok (.goto 4, 3) := by decide +kernel
theorem dX5_companyIs_27 : decode cX5_companyIs 27 = .ok (.iconst 2, 1) := by decide +kernel
theorem dX5_companyIs_28 : decode cX5_companyIs 28 = .ok (.invokevirtual 91, 3) := by decide +kernel
theorem dX5_companyIs_31 : decode cX5_companyIs 31 = .ok (.ifCond .ne 5, 3) := by decide +kernel
theorem dX5_companyIs_34 : decode cX5_companyIs 34 = .ok (.iconst 0, 1) := by decide +kernel
theorem dX5_companyIs_35 : decode cX5_companyIs 35 = .ok (.ireturn, 1) := by decide +kernel
theorem dX5_companyIs_36 : decode cX5_companyIs 36 = .ok (.iconst 0, 1) := by decide +kernel
theorem dX5_companyIs_37 : decode cX5_companyIs 37 = .ok (.istore_n 3, 1) := by decide +kernel
theorem dX5_companyIs_38 : decode cX5_companyIs 38 = .ok (.iconst 0, 1) := by decide +kernel
theorem dX5_companyIs_39 : decode cX5_companyIs 39 = .ok (.istore 4, 2) := by decide +kernel
theorem dX5_companyIs_41 : decode cX5_companyIs 41 = .ok (.iload 4, 2) := by decide +kernel
theorem dX5_companyIs_43 : decode cX5_companyIs 43 = .ok (.aload_n 0, 1) := by decide +kernel
theorem dX5_companyIs_44 : decode cX5_companyIs 44 = .ok (.getfield 81, 3) := by decide +kernel
theorem dX5_companyIs_47 : decode cX5_companyIs 47 = .ok (.if_icmp .ge 39, 3) := by decide +kernel
theorem dX5_companyIs_50 : decode cX5_companyIs 50 = .ok (.iload_n 3, 1) := by decide +kernel
theorem dX5_companyIs_51 : decode cX5_companyIs 51 = .ok (.aload_n 0, 1) := by decide +kernel
theorem dX5_companyIs_52 : decode cX5_companyIs 52 = .ok (.getfield 7, 3) := by decide +kernel
theorem dX5_companyIs_55 : decode cX5_companyIs 55 = .ok (.iload 4, 2) := by decide +kernel
theorem dX5_companyIs_57 : decode cX5_companyIs 57 = .ok (.iaload, 1) := by decide +kernel
theorem dX5_companyIs_58 : decode cX5_companyIs 58 = .ok (.iload_n 1, 1) := by decide +kernel
theorem dX5_companyIs_59 : decode cX5_companyIs 59 = .ok (.if_icmp .ne 18, 3) := by decide +kernel
theorem dX5_companyIs_62 : decode cX5_companyIs 62 = .ok (.aload_n 0, 1) := by decide +kernel
theorem dX5_companyIs_63 : decode cX5_companyIs 63 = .ok (.getfield 16, 3) := by decide +kernel
theorem dX5_companyIs_66 : decode cX5_companyIs 66 = .ok (.iload 4, 2) := by decide +kernel
theorem dX5_companyIs_68 : decode cX5_companyIs 68 = .ok (.iaload, 1) := by decide +kernel
theorem dX5_companyIs_69 : decode cX5_companyIs 69 = .ok (.iconst 1, 1) := by decide +kernel
theorem dX5_companyIs_70 : decode cX5_companyIs 70 = .ok (.if_icmp .ne 7, 3) := by decide +kernel
theorem dX5_companyIs_73 : decode cX5_companyIs 73 = .ok (.iconst 1, 1) := by decide +kernel
theorem dX5_companyIs_74 : decode cX5_companyIs 74 = .ok (.goto 4, 3) := by decide +kernel
theorem dX5_companyIs_77 : decode cX5_companyIs 77 = .ok (.iconst 0, 1) := by decide +kernel
theorem dX5_companyIs_78 : decode cX5_companyIs 78 = .ok (.iadd, 1) := by decide +kernel
theorem dX5_companyIs_79 : decode cX5_companyIs 79 = .ok (.istore_n 3, 1) := by decide +kernel
theorem dX5_companyIs_80 : decode cX5_companyIs 80 = .ok (.iinc 4 1, 3) := by decide +kernel
theorem dX5_companyIs_83 : decode cX5_companyIs 83 = .ok (.goto (-42), 3) := by decide +kernel
theorem dX5_companyIs_86 : decode cX5_companyIs 86 = .ok (.iload_n 2, 1) := by decide +kernel
theorem dX5_companyIs_87 : decode cX5_companyIs 87 = .ok (.ifCond .ne 12, 3) := by decide +kernel
theorem dX5_companyIs_90 : decode cX5_companyIs 90 = .ok (.aload_n 0, 1) := by decide +kernel
theorem dX5_companyIs_91 : decode cX5_companyIs 91 = .ok (.getfield 65, 3) := by decide +kernel
theorem dX5_companyIs_94 : decode cX5_companyIs 94 = .ok (.iload_n 1, 1) := by decide +kernel
theorem dX5_companyIs_95 : decode cX5_companyIs 95 = .ok (.iaload, 1) := by decide +kernel
theorem dX5_companyIs_96 : decode cX5_companyIs 96 = .ok (.goto 18, 3) := by decide +kernel
theorem dX5_companyIs_99 : decode cX5_companyIs 99 = .ok (.iload_n 2, 1) := by decide +kernel
theorem dX5_companyIs_100 : decode cX5_companyIs 100 = .ok (.iconst 1, 1) := by decide +kernel
theorem dX5_companyIs_101 : decode cX5_companyIs 101 = .ok (.if_icmp .ne 12, 3) := by decide +kernel
theorem dX5_companyIs_104 : decode cX5_companyIs 104 = .ok (.aload_n 0, 1) := by decide +kernel
theorem dX5_companyIs_105 : decode cX5_companyIs 105 = .ok (.getfield 68, 3) := by decide +kernel
theorem dX5_companyIs_108 : decode cX5_companyIs 108 = .ok (.iload_n 1, 1) := by decide +kernel
theorem dX5_companyIs_109 : decode cX5_companyIs 109 = .ok (.iaload, 1) := by decide +kernel
theorem dX5_companyIs_110 : decode cX5_companyIs 110 = .ok (.goto 4, 3) := by decide +kernel
theorem dX5_companyIs_113 : decode cX5_companyIs 113 = .ok (.iload_n 3, 1) := by decide +kernel
theorem dX5_companyIs_114 : decode cX5_companyIs 114 = .ok (.ireturn, 1) := by decide +kernel
theorem dJ9_max_7cf53_0 : decode cJ9_max_7cf53 0 = .ok (.iload_n 0, 1) := by decide +kernel
theorem dJ9_max_7cf53_1 : decode cJ9_max_7cf53 1 = .ok (.iload_n 1, 1) := by decide +kernel
theorem dJ9_max_7cf53_2 : decode cJ9_max_7cf53 2 = .ok (.if_icmp .lt 7, 3) := by decide +kernel
theorem dJ9_max_7cf53_5 : decode cJ9_max_7cf53 5 = .ok (.iload_n 0, 1) := by decide +kernel
theorem dJ9_max_7cf53_6 : decode cJ9_max_7cf53 6 = .ok (.goto 4, 3) := by decide +kernel
theorem dJ9_max_7cf53_9 : decode cJ9_max_7cf53 9 = .ok (.iload_n 1, 1) := by decide +kernel
theorem dJ9_max_7cf53_10 : decode cJ9_max_7cf53 10 = .ok (.ireturn, 1) := by decide +kernel
theorem dJ9_min_7cf53_0 : decode cJ9_min_7cf53 0 = .ok (.iload_n 0, 1) := by decide +kernel
theorem dJ9_min_7cf53_1 : decode cJ9_min_7cf53 1 = .ok (.iload_n 1, 1) := by decide +kernel
theorem dJ9_min_7cf53_2 : decode cJ9_min_7cf53 2 = .ok (.if_icmp .gt 7, 3) := by decide +kernel
theorem dJ9_min_7cf53_5 : decode cJ9_min_7cf53 5 = .ok (.iload_n 0, 1) := by decide +kernel
theorem dJ9_min_7cf53_6 : decode cJ9_min_7cf53 6 = .ok (.goto 4, 3) := by decide +kernel
theorem dJ9_min_7cf53_9 : decode cJ9_min_7cf53 9 = .ok (.iload_n 1, 1) := by decide +kernel
theorem dJ9_min_7cf53_10 : decode cJ9_min_7cf53 10 = .ok (.ireturn, 1) := by decide +kernel
theorem dJxa1e45_init_da8c8_0 : decode cJxa1e45_init_da8c8 0 = .ok (.aload_n 0, 1) := by decide +kernel
theorem dJxa1e45_init_da8c8_1 : decode cJxa1e45_init_da8c8 1 = .ok (.invokespecial 1, 3) := by decide +kernel
theorem dJxa1e45_init_da8c8_4 : decode cJxa1e45_init_da8c8 4 = .ok (.return_, 1) := by decide +kernel
theorem dJxc12de_init_da8c8_0 : decode cJxc12de_init_da8c8 0 = .ok (.aload_n 0, 1) := by decide +kernel
theorem dJxc12de_init_da8c8_1 : decode cJxc12de_init_da8c8 1 = .ok (.invokespecial 1, 3) := by decide +kernel
theorem dJxc12de_init_da8c8_4 : decode cJxc12de_init_da8c8 4 = .ok (.aload_n 0, 1) := by decide +kernel
theorem dJxc12de_init_da8c8_5 : decode cJxc12de_init_da8c8 5 = .ok (.iconst 0, 1) := by decide +kernel
theorem dJxc12de_init_da8c8_6 : decode cJxc12de_init_da8c8 6 = .ok (.putfield 7, 3) := by decide +kernel
theorem dJxc12de_init_da8c8_9 : decode cJxc12de_init_da8c8 9 = .ok (.return_, 1) := by decide +kernel
theorem dJx4a65c_init_da8c8_0 : decode cJx4a65c_init_da8c8 0 = .ok (.aload_n 0, 1) := by decide +kernel
theorem dJx4a65c_init_da8c8_1 : decode cJx4a65c_init_da8c8 1 = .ok (.invokespecial 1, 3) := by decide +kernel
theorem dJx4a65c_init_da8c8_4 : decode cJx4a65c_init_da8c8 4 = .ok (.aload_n 0, 1) := by decide +kernel
theorem dJx4a65c_init_da8c8_5 : decode cJx4a65c_init_da8c8 5 = .ok (.getstatic 39, 3) := by decide +kernel
theorem dJx4a65c_init_da8c8_8 : decode cJx4a65c_init_da8c8 8 = .ok (.putfield 9, 3) := by decide +kernel
theorem dJx4a65c_init_da8c8_11 : decode cJx4a65c_init_da8c8 11 = .ok (.return_, 1) := by decide +kernel
theorem dJx4a65c_grow_92f84_0 : decode cJx4a65c_grow_92f84 0 = .ok (.aload_n 0, 1) := by decide +kernel
theorem dJx4a65c_grow_92f84_1 : decode cJx4a65c_grow_92f84 1 = .ok (.getfield 9, 3) := by decide +kernel
theorem dJx4a65c_grow_92f84_4 : decode cJx4a65c_grow_92f84 4 = .ok (.arraylength, 1) := by decide +kernel
theorem dJx4a65c_grow_92f84_5 : decode cJx4a65c_grow_92f84 5 = .ok (.istore_n 2, 1) := by decide +kernel
theorem dJx4a65c_grow_92f84_6 : decode cJx4a65c_grow_92f84 6 = .ok (.iload_n 2, 1) := by decide +kernel
theorem dJx4a65c_grow_92f84_7 : decode cJx4a65c_grow_92f84 7 = .ok (.ifCond .gt 13, 3) := by decide +kernel
theorem dJx4a65c_grow_92f84_10 : decode cJx4a65c_grow_92f84 10 = .ok (.aload_n 0, 1) := by decide +kernel
theorem dJx4a65c_grow_92f84_11 : decode cJx4a65c_grow_92f84 11 = .ok (.getfield 9, 3) := by decide +kernel
theorem dJx4a65c_grow_92f84_14 : decode cJx4a65c_grow_92f84 14 = .ok (.getstatic 39, 3) := by decide +kernel
theorem dJx4a65c_grow_92f84_17 : decode cJx4a65c_grow_92f84 17 = .ok (.if_acmp .eq 28, 3) := by decide +kernel
theorem dJx4a65c_grow_92f84_20 : decode cJx4a65c_grow_92f84 20 = .ok (.iload_n 2, 1) := by decide +kernel
theorem dJx4a65c_grow_92f84_21 : decode cJx4a65c_grow_92f84 21 = .ok (.iload_n 1, 1) := by decide +kernel
theorem dJx4a65c_grow_92f84_22 : decode cJx4a65c_grow_92f84 22 = .ok (.iload_n 2, 1) := by decide +kernel
theorem dJx4a65c_grow_92f84_23 : decode cJx4a65c_grow_92f84 23 = .ok (.isub, 1) := by decide +kernel
theorem dJx4a65c_grow_92f84_24 : decode cJx4a65c_grow_92f84 24 = .ok (.iload_n 2, 1) := by decide +kernel
theorem dJx4a65c_grow_92f84_25 : decode cJx4a65c_grow_92f84 25 = .ok (.iconst 1, 1) := by decide +kernel
theorem dJx4a65c_grow_92f84_26 : decode cJx4a65c_grow_92f84 26 = .ok (.ishr, 1) := by decide +kernel
theorem dJx4a65c_grow_92f84_27 : decode cJx4a65c_grow_92f84 27 = .ok (.invokestatic 73, 3) := by decide +kernel
theorem dJx4a65c_grow_92f84_30 : decode cJx4a65c_grow_92f84 30 = .ok (.istore_n 3, 1) := by decide +kernel
theorem dJx4a65c_grow_92f84_31 : decode cJx4a65c_grow_92f84 31 = .ok (.aload_n 0, 1) := by decide +kernel
theorem dJx4a65c_grow_92f84_32 : decode cJx4a65c_grow_92f84 32 = .ok (.aload_n 0, 1) := by decide +kernel
theorem dJx4a65c_grow_92f84_33 : decode cJx4a65c_grow_92f84 33 = .ok (.getfield 9, 3) := by decide +kernel
theorem dJx4a65c_grow_92f84_36 : decode cJx4a65c_grow_92f84 36 = .ok (.iload_n 3, 1) := by decide +kernel
theorem dJx4a65c_grow_92f84_37 : decode cJx4a65c_grow_92f84 37 = .ok (.invokestatic 66, 3) := by decide +kernel
theorem dJx4a65c_grow_92f84_40 : decode cJx4a65c_grow_92f84 40 = .ok (.dup_x1, 1) := by decide +kernel
theorem dJx4a65c_grow_92f84_41 : decode cJx4a65c_grow_92f84 41 = .ok (.putfield 9, 3) := by decide +kernel
theorem dJx4a65c_grow_92f84_44 : decode cJx4a65c_grow_92f84 44 = .ok (.areturn, 1) := by decide +kernel
theorem dJx4a65c_grow_92f84_45 : decode cJx4a65c_grow_92f84 45 = .ok (.aload_n 0, 1) := by decide +kernel
theorem dJx4a65c_grow_92f84_46 : decode cJx4a65c_grow_92f84 46 = .ok (.bipush 10, 2) := by decide +kernel
theorem dJx4a65c_grow_92f84_48 : decode cJx4a65c_grow_92f84 48 = .ok (.iload_n 1, 1) := by decide +kernel
theorem dJx4a65c_grow_92f84_49 : decode cJx4a65c_grow_92f84 49 = .ok (.invokestatic 79, 3) := by decide +kernel
theorem dJx4a65c_grow_92f84_52 : decode cJx4a65c_grow_92f84 52 = .ok (.anewarray 7, 3) := by decide +kernel
theorem dJx4a65c_grow_92f84_55 : decode cJx4a65c_grow_92f84 55 = .ok (.dup_x1, 1) := by decide +kernel
theorem dJx4a65c_grow_92f84_56 : decode cJx4a65c_grow_92f84 56 = .ok (.putfield 9, 3) := by decide +kernel
theorem dJx4a65c_grow_92f84_59 : decode cJx4a65c_grow_92f84 59 = .ok (.areturn, 1) := by decide +kernel
theorem dJx4a65c_grow_d5877_0 : decode cJx4a65c_grow_d5877 0 = .ok (.aload_n 0, 1) := by decide +kernel
theorem dJx4a65c_grow_d5877_1 : decode cJx4a65c_grow_d5877 1 = .ok (.aload_n 0, 1) := by decide +kernel
theorem dJx4a65c_grow_d5877_2 : decode cJx4a65c_grow_d5877 2 = .ok (.getfield 48, 3) := by decide +kernel
theorem dJx4a65c_grow_d5877_5 : decode cJx4a65c_grow_d5877 5 = .ok (.iconst 1, 1) := by decide +kernel
theorem dJx4a65c_grow_d5877_6 : decode cJx4a65c_grow_d5877 6 = .ok (.iadd, 1) := by decide +kernel
theorem dJx4a65c_grow_d5877_7 : decode cJx4a65c_grow_d5877 7 = .ok (.invokevirtual 69, 3) := by decide +kernel
theorem dJx4a65c_grow_d5877_10 : decode cJx4a65c_grow_d5877 10 = .ok (.areturn, 1) := by decide +kernel
theorem dJx4a65c_size_8abf5_0 : decode cJx4a65c_size_8abf5 0 = .ok (.aload_n 0, 1) := by decide +kernel
theorem dJx4a65c_size_8abf5_1 : decode cJx4a65c_size_8abf5 1 = .ok (.getfield 48, 3) := by decide +kernel
theorem dJx4a65c_size_8abf5_4 : decode cJx4a65c_size_8abf5 4 = .ok (.ireturn, 1) := by decide +kernel
theorem dJx4a65c_elementData_915e3_0 : decode cJx4a65c_elementData_915e3 0 = .ok (.aload_n 0, 1) := by decide +kernel
theorem dJx4a65c_elementData_915e3_1 : decode cJx4a65c_elementData_915e3 1 = .ok (.getfield 9, 3) := by decide +kernel
theorem dJx4a65c_elementData_915e3_4 : decode cJx4a65c_elementData_915e3 4 = .ok (.iload_n 1, 1) := by decide +kernel
theorem dJx4a65c_elementData_915e3_5 : decode cJx4a65c_elementData_915e3 5 = .ok (.aaload, 1) := by decide +kernel
theorem dJx4a65c_elementData_915e3_6 : decode cJx4a65c_elementData_915e3 6 = .ok (.areturn, 1) := by decide +kernel
theorem dJx4a65c_get_915e3_0 : decode cJx4a65c_get_915e3 0 = .ok (.iload_n 1, 1) := by decide +kernel
theorem dJx4a65c_get_915e3_1 : decode cJx4a65c_get_915e3 1 = .ok (.aload_n 0, 1) := by decide +kernel
theorem dJx4a65c_get_915e3_2 : decode cJx4a65c_get_915e3 2 = .ok (.getfield 48, 3) := by decide +kernel
theorem dJx4a65c_get_915e3_5 : decode cJx4a65c_get_915e3 5 = .ok (.invokestatic 118, 3) := by decide +kernel
theorem dJx4a65c_get_915e3_8 : decode cJx4a65c_get_915e3 8 = .ok (.pop, 1) := by decide +kernel
theorem dJx4a65c_get_915e3_9 : decode cJx4a65c_get_915e3 9 = .ok (.aload_n 0, 1) := by decide +kernel
theorem dJx4a65c_get_915e3_10 : decode cJx4a65c_get_915e3 10 = .ok (.iload_n 1, 1) := by decide +kernel
theorem dJx4a65c_get_915e3_11 : decode cJx4a65c_get_915e3 11 = .ok (.invokevirtual 123, 3) := by decide +kernel
theorem dJx4a65c_get_915e3_14 : decode cJx4a65c_get_915e3 14 = .ok (.areturn, 1) := by decide +kernel
theorem dJx4a65c_add_72be8_0 : decode cJx4a65c_add_72be8 0 = .ok (.iload_n 3, 1) := by decide +kernel
theorem dJx4a65c_add_72be8_1 : decode cJx4a65c_add_72be8 1 = .ok (.aload_n 2, 1) := by decide +kernel
theorem dJx4a65c_add_72be8_2 : decode cJx4a65c_add_72be8 2 = .ok (.arraylength, 1) := by decide +kernel
theorem dJx4a65c_add_72be8_3 : decode cJx4a65c_add_72be8 3 = .ok (.if_icmp .ne 8, 3) := by decide +kernel
theorem dJx4a65c_add_72be8_6 : decode cJx4a65c_add_72be8 6 = .ok (.aload_n 0, 1) := by decide +kernel
theorem dJx4a65c_add_72be8_7 : decode cJx4a65c_add_72be8 7 = .ok (.invokevirtual 129, 3) := by decide +kernel
theorem dJx4a65c_add_72be8_10 : decode cJx4a65c_add_72be8 10 = .ok (.astore_n 2, 1) := by decide +kernel
theorem dJx4a65c_add_72be8_11 : decode cJx4a65c_add_72be8 11 = .ok (.aload_n 2, 1) := by decide +kernel
theorem dJx4a65c_add_72be8_12 : decode cJx4a65c_add_72be8 12 = .ok (.iload_n 3, 1) := by decide +kernel
theorem dJx4a65c_add_72be8_13 : decode cJx4a65c_add_72be8 13 = .ok (.aload_n 1, 1) := by decide +kernel
theorem dJx4a65c_add_72be8_14 : decode cJx4a65c_add_72be8 14 = .ok (.aastore, 1) := by decide +kernel
theorem dJx4a65c_add_72be8_15 : decode cJx4a65c_add_72be8 15 = .ok (.aload_n 0, 1) := by decide +kernel
theorem dJx4a65c_add_72be8_16 : decode cJx4a65c_add_72be8 16 = .ok (.iload_n 3, 1) := by decide +kernel
theorem dJx4a65c_add_72be8_17 : decode cJx4a65c_add_72be8 17 = .ok (.iconst 1, 1) := by decide +kernel
theorem dJx4a65c_add_72be8_18 : decode cJx4a65c_add_72be8 18 = .ok (.iadd, 1) := by decide +kernel
theorem dJx4a65c_add_72be8_19 : decode cJx4a65c_add_72be8 19 = .ok (.putfield 48, 3) := by decide +kernel
theorem dJx4a65c_add_72be8_22 : decode cJx4a65c_add_72be8 22 = .ok (.return_, 1) := by decide +kernel
theorem dJx4a65c_add_9ea2d_0 : decode cJx4a65c_add_9ea2d 0 = .ok (.aload_n 0, 1) := by decide +kernel
theorem dJx4a65c_add_9ea2d_1 : decode cJx4a65c_add_9ea2d 1 = .ok (.dup, 1) := by decide +kernel
theorem dJx4a65c_add_9ea2d_2 : decode cJx4a65c_add_9ea2d 2 = .ok (.getfield 63, 3) := by decide +kernel
theorem dJx4a65c_add_9ea2d_5 : decode cJx4a65c_add_9ea2d 5 = .ok (.iconst 1, 1) := by decide +kernel
theorem dJx4a65c_add_9ea2d_6 : decode cJx4a65c_add_9ea2d 6 = .ok (.iadd, 1) := by decide +kernel
theorem dJx4a65c_add_9ea2d_7 : decode cJx4a65c_add_9ea2d 7 = .ok (.putfield 63, 3) := by decide +kernel
theorem dJx4a65c_add_9ea2d_10 : decode cJx4a65c_add_9ea2d 10 = .ok (.aload_n 0, 1) := by decide +kernel
theorem dJx4a65c_add_9ea2d_11 : decode cJx4a65c_add_9ea2d 11 = .ok (.aload_n 1, 1) := by decide +kernel
theorem dJx4a65c_add_9ea2d_12 : decode cJx4a65c_add_9ea2d 12 = .ok (.aload_n 0, 1) := by decide +kernel
theorem dJx4a65c_add_9ea2d_13 : decode cJx4a65c_add_9ea2d 13 = .ok (.getfield 9, 3) := by decide +kernel
theorem dJx4a65c_add_9ea2d_16 : decode cJx4a65c_add_9ea2d 16 = .ok (.aload_n 0, 1) := by decide +kernel
theorem dJx4a65c_add_9ea2d_17 : decode cJx4a65c_add_9ea2d 17 = .ok (.getfield 48, 3) := by decide +kernel
theorem dJx4a65c_add_9ea2d_20 : decode cJx4a65c_add_9ea2d 20 = .ok (.invokevirtual 131, 3) := by decide +kernel
theorem dJx4a65c_add_9ea2d_23 : decode cJx4a65c_add_9ea2d 23 = .ok (.iconst 1, 1) := by decide +kernel
theorem dJx4a65c_add_9ea2d_24 : decode cJx4a65c_add_9ea2d 24 = .ok (.ireturn, 1) := by decide +kernel
theorem dJ7_copyOf_1904c_0 : decode cJ7_copyOf_1904c 0 = .ok (.aload_n 0, 1) := by decide +kernel
theorem dJ7_copyOf_1904c_1 : decode cJ7_copyOf_1904c 1 = .ok (.iload_n 1, 1) := by decide +kernel
theorem dJ7_copyOf_1904c_2 : decode cJ7_copyOf_1904c 2 = .ok (.aload_n 0, 1) := by decide +kernel
theorem dJ7_copyOf_1904c_3 : decode cJ7_copyOf_1904c 3 = .ok (.invokevirtual 86, 3) := by decide +kernel
theorem dJ7_copyOf_1904c_6 : decode cJ7_copyOf_1904c 6 = .ok (.invokestatic 300, 3) := by decide +kernel
theorem dJ7_copyOf_1904c_9 : decode cJ7_copyOf_1904c 9 = .ok (.areturn, 1) := by decide +kernel
theorem dJ7_copyOf_6403c_0 : decode cJ7_copyOf_6403c 0 = .ok (.aload_n 2, 1) := by decide +kernel
theorem dJ7_copyOf_6403c_1 : decode cJ7_copyOf_6403c 1 = .ok (.ldc 110, 2) := by decide +kernel
theorem dJ7_copyOf_6403c_3 : decode cJ7_copyOf_6403c 3 = .ok (.if_acmp .ne 10, 3) := by decide +kernel
theorem dJ7_copyOf_6403c_6 : decode cJ7_copyOf_6403c 6 = .ok (.iload_n 1, 1) := by decide +kernel
theorem dJ7_copyOf_6403c_7 : decode cJ7_copyOf_6403c 7 = .ok (.anewarray 2, 3) := by decide +kernel
theorem dJ7_copyOf_6403c_10 : decode cJ7_copyOf_6403c 10 = .ok (.goto 14, 3) := by decide +kernel
theorem dJ7_copyOf_6403c_13 : decode cJ7_copyOf_6403c 13 = .ok (.aload_n 2, 1) := by decide +kernel
theorem dJ7_copyOf_6403c_14 : decode cJ7_copyOf_6403c 14 = .ok (.invokevirtual 90, 3) := by decide +kernel
theorem dJ7_copyOf_6403c_17 : decode cJ7_copyOf_6403c 17 = .ok (.iload_n 1, 1) := by decide +kernel
theorem dJ7_copyOf_6403c_18 : decode cJ7_copyOf_6403c 18 = .ok (.invokestatic 95, 3) := by decide +kernel
theorem dJ7_copyOf_6403c_21 : decode cJ7_copyOf_6403c 21 = .ok (.checkcast 110, 3) := by decide +kernel
theorem dJ7_copyOf_6403c_24 : decode cJ7_copyOf_6403c 24 = .ok (.astore_n 3, 1) := by decide +kernel
theorem dJ7_copyOf_6403c_25 : decode cJ7_copyOf_6403c 25 = .ok (.aload_n 0, 1) := by decide +kernel
theorem dJ7_copyOf_6403c_26 : decode cJ7_copyOf_6403c 26 = .ok (.iconst 0, 1) := by decide +kernel
theorem dJ7_copyOf_6403c_27 : decode cJ7_copyOf_6403c 27 = .ok (.aload_n 3, 1) := by decide +kernel
theorem dJ7_copyOf_6403c_28 : decode cJ7_copyOf_6403c 28 = .ok (.iconst 0, 1) := by decide +kernel
theorem dJ7_copyOf_6403c_29 : decode cJ7_copyOf_6403c 29 = .ok (.aload_n 0, 1) := by decide +kernel
theorem dJ7_copyOf_6403c_30 : decode cJ7_copyOf_6403c 30 = .ok (.arraylength, 1) := by decide +kernel
theorem dJ7_copyOf_6403c_31 : decode cJ7_copyOf_6403c 31 = .ok (.iload_n 1, 1) := by decide +kernel
theorem dJ7_copyOf_6403c_32 : decode cJ7_copyOf_6403c 32 = .ok (.invokestatic 304, 3) := by decide +kernel
theorem dJ7_copyOf_6403c_35 : decode cJ7_copyOf_6403c 35 = .ok (.invokestatic 150, 3) := by decide +kernel
theorem dJ7_copyOf_6403c_38 : decode cJ7_copyOf_6403c 38 = .ok (.aload_n 3, 1) := by decide +kernel
theorem dJ7_copyOf_6403c_39 : decode cJ7_copyOf_6403c 39 = .ok (.areturn, 1) := by decide +kernel
theorem dJ15_checkIndex_7cf53_0 : decode cJ15_checkIndex_7cf53 0 = .ok (.iload_n 0, 1) := by decide +kernel
theorem dJ15_checkIndex_7cf53_1 : decode cJ15_checkIndex_7cf53 1 = .ok (.iload_n 1, 1) := by decide +kernel
theorem dJ15_checkIndex_7cf53_2 : decode cJ15_checkIndex_7cf53 2 = .ok (.aconst_null, 1) := by decide +kernel
theorem dJ15_checkIndex_7cf53_3 : decode cJ15_checkIndex_7cf53 3 = .ok (.invokestatic 105, 3) := by decide +kernel
theorem dJ15_checkIndex_7cf53_6 : decode cJ15_checkIndex_7cf53 6 = .ok (.ireturn, 1) := by decide +kernel
theorem dJ8_newLength_cabcc_0 : decode cJ8_newLength_cabcc 0 = .ok (.iload_n 0, 1) := by decide +kernel
theorem dJ8_newLength_cabcc_1 : decode cJ8_newLength_cabcc 1 = .ok (.iload_n 1, 1) := by decide +kernel
theorem dJ8_newLength_cabcc_2 : decode cJ8_newLength_cabcc 2 = .ok (.iload_n 2, 1) := by decide +kernel
theorem dJ8_newLength_cabcc_3 : decode cJ8_newLength_cabcc 3 = .ok (.invokestatic 194, 3) := by decide +kernel
theorem dJ8_newLength_cabcc_6 : decode cJ8_newLength_cabcc 6 = .ok (.iadd, 1) := by decide +kernel
theorem dJ8_newLength_cabcc_7 : decode cJ8_newLength_cabcc 7 = .ok (.istore_n 3, 1) := by decide +kernel
theorem dJ8_newLength_cabcc_8 : decode cJ8_newLength_cabcc 8 = .ok (.iconst 0, 1) := by decide +kernel
theorem dJ8_newLength_cabcc_9 : decode cJ8_newLength_cabcc 9 = .ok (.iload_n 3, 1) := by decide +kernel
theorem dJ8_newLength_cabcc_10 : decode cJ8_newLength_cabcc 10 = .ok (.if_icmp .ge 11, 3) := by decide +kernel
theorem dJ8_newLength_cabcc_13 : decode cJ8_newLength_cabcc 13 = .ok (.iload_n 3, 1) := by decide +kernel
theorem dJ8_newLength_cabcc_14 : decode cJ8_newLength_cabcc 14 = .ok (.ldc 200, 2) := by decide +kernel
theorem dJ8_newLength_cabcc_16 : decode cJ8_newLength_cabcc 16 = .ok (.if_icmp .gt 5, 3) := by decide +kernel
theorem dJ8_newLength_cabcc_19 : decode cJ8_newLength_cabcc 19 = .ok (.iload_n 3, 1) := by decide +kernel
theorem dJ8_newLength_cabcc_20 : decode cJ8_newLength_cabcc 20 = .ok (.ireturn, 1) := by decide +kernel
theorem dJ8_newLength_cabcc_21 : decode cJ8_newLength_cabcc 21 = .ok (.iload_n 0, 1) := by decide +kernel
theorem dJ8_newLength_cabcc_22 : decode cJ8_newLength_cabcc 22 = .ok (.iload_n 1, 1) := by decide +kernel
theorem dJ8_newLength_cabcc_23 : decode cJ8_newLength_cabcc 23 = .ok (.invokestatic 201, 3) := by decide +kernel
theorem dJ8_newLength_cabcc_26 : decode cJ8_newLength_cabcc 26 = .ok (.ireturn, 1) := by decide +kernel
theorem dJ8_hugeLength_7cf53_0 : decode cJ8_hugeLength_7cf53 0 = .ok (.iload_n 0, 1) := by decide +kernel
theorem dJ8_hugeLength_7cf53_1 : decode cJ8_hugeLength_7cf53 1 = .ok (.iload_n 1, 1) := by decide +kernel
theorem dJ8_hugeLength_7cf53_2 : decode cJ8_hugeLength_7cf53 2 = .ok (.iadd, 1) := by decide +kernel
theorem dJ8_hugeLength_7cf53_3 : decode cJ8_hugeLength_7cf53 3 = .ok (.istore_n 2, 1) := by decide +kernel
theorem dJ8_hugeLength_7cf53_4 : decode cJ8_hugeLength_7cf53 4 = .ok (.iload_n 2, 1) := by decide +kernel
theorem dJ8_hugeLength_7cf53_5 : decode cJ8_hugeLength_7cf53 5 = .ok (.ifCond .ge 44, 3) := by decide +kernel
theorem dJ8_hugeLength_7cf53_8 : decode cJ8_hugeLength_7cf53 8 = .ok (.new 204, 3) := by decide +kernel
theorem dJ8_hugeLength_7cf53_11 : decode cJ8_hugeLength_7cf53 11 = .ok (.dup, 1) := by decide +kernel
theorem dJ8_hugeLength_7cf53_12 : decode cJ8_hugeLength_7cf53 12 = .ok (.new 89, 3) := by decide +kernel
theorem dJ8_hugeLength_7cf53_15 : decode cJ8_hugeLength_7cf53 15 = .ok (.dup, 1) := by decide +kernel
theorem dJ8_hugeLength_7cf53_16 : decode cJ8_hugeLength_7cf53 16 = .ok (.invokespecial 91, 3) := by decide +kernel
theorem dJ8_hugeLength_7cf53_19 : decode cJ8_hugeLength_7cf53 19 = .ok (.ldc 206, 2) := by decide +kernel
theorem dJ8_hugeLength_7cf53_21 : decode cJ8_hugeLength_7cf53 21 = .ok (.invokevirtual 94, 3) := by decide +kernel
theorem dJ8_hugeLength_7cf53_24 : decode cJ8_hugeLength_7cf53 24 = .ok (.iload_n 0, 1) := by decide +kernel
theorem dJ8_hugeLength_7cf53_25 : decode cJ8_hugeLength_7cf53 25 = .ok (.invokevirtual 98, 3) := by decide +kernel
theorem dJ8_hugeLength_7cf53_28 : decode cJ8_hugeLength_7cf53 28 = .ok (.ldc 208, 2) := by decide +kernel
theorem dJ8_hugeLength_7cf53_30 : decode cJ8_hugeLength_7cf53 30 = .ok (.invokevirtual 94, 3) := by decide +kernel
theorem dJ8_hugeLength_7cf53_33 : decode cJ8_hugeLength_7cf53 33 = .ok (.iload_n 1, 1) := by decide +kernel
theorem dJ8_hugeLength_7cf53_34 : decode cJ8_hugeLength_7cf53 34 = .ok (.invokevirtual 98, 3) := by decide +kernel
theorem dJ8_hugeLength_7cf53_37 : decode cJ8_hugeLength_7cf53 37 = .ok (.ldc 210, 2) := by decide +kernel
theorem dJ8_hugeLength_7cf53_39 : decode cJ8_hugeLength_7cf53 39 = .ok (.invokevirtual 94, 3) := by decide +kernel
theorem dJ8_hugeLength_7cf53_42 : decode cJ8_hugeLength_7cf53 42 = .ok (.invokevirtual 101, 3) := by decide +kernel
theorem dJ8_hugeLength_7cf53_45 : decode cJ8_hugeLength_7cf53 45 = .ok (.invokespecial 212, 3) := by decide +kernel
theorem dJ8_hugeLength_7cf53_48 : decode cJ8_hugeLength_7cf53 48 = .ok (.athrow, 1) := by decide +kernel
theorem dJ8_hugeLength_7cf53_49 : decode cJ8_hugeLength_7cf53 49 = .ok (.iload_n 2, 1) := by decide +kernel
theorem dJ8_hugeLength_7cf53_50 : decode cJ8_hugeLength_7cf53 50 = .ok (.ldc 200, 2) := by decide +kernel
theorem dJ8_hugeLength_7cf53_52 : decode cJ8_hugeLength_7cf53 52 = .ok (.if_icmp .gt 6, 3) := by decide +kernel
theorem dJ8_hugeLength_7cf53_55 : decode cJ8_hugeLength_7cf53 55 = .ok (.ldc 200, 2) := by decide +kernel
theorem dJ8_hugeLength_7cf53_57 : decode cJ8_hugeLength_7cf53 57 = .ok (.ireturn, 1) := by decide +kernel
theorem dJ8_hugeLength_7cf53_58 : decode cJ8_hugeLength_7cf53 58 = .ok (.iload_n 2, 1) := by decide +kernel
theorem dJ8_hugeLength_7cf53_59 : decode cJ8_hugeLength_7cf53 59 = .ok (.ireturn, 1) := by decide +kernel
theorem dJ3_checkIndex_8e157_0 : decode cJ3_checkIndex_8e157 0 = .ok (.iload_n 0, 1) := by decide +kernel
theorem dJ3_checkIndex_8e157_1 : decode cJ3_checkIndex_8e157 1 = .ok (.ifCond .lt 8, 3) := by decide +kernel
theorem dJ3_checkIndex_8e157_4 : decode cJ3_checkIndex_8e157 4 = .ok (.iload_n 0, 1) := by decide +kernel
theorem dJ3_checkIndex_8e157_5 : decode cJ3_checkIndex_8e157 5 = .ok (.iload_n 1, 1) := by decide +kernel
theorem dJ3_checkIndex_8e157_6 : decode cJ3_checkIndex_8e157 6 = .ok (.if_icmp .lt 10, 3) := by decide +kernel
theorem dJ3_checkIndex_8e157_9 : decode cJ3_checkIndex_8e157 9 = .ok (.aload_n 2, 1) := by decide +kernel
theorem dJ3_checkIndex_8e157_10 : decode cJ3_checkIndex_8e157 10 = .ok (.iload_n 0, 1) := by decide +kernel
theorem dJ3_checkIndex_8e157_11 : decode cJ3_checkIndex_8e157 11 = .ok (.iload_n 1, 1) := by decide +kernel
theorem dJ3_checkIndex_8e157_12 : decode cJ3_checkIndex_8e157 12 = .ok (.invokestatic 95, 3) := by decide +kernel
theorem dJ3_checkIndex_8e157_15 : decode cJ3_checkIndex_8e157 15 = .ok (.athrow, 1) := by decide +kernel
theorem dJ3_checkIndex_8e157_16 : decode cJ3_checkIndex_8e157 16 = .ok (.iload_n 0, 1) := by decide +kernel
theorem dJ3_checkIndex_8e157_17 : decode cJ3_checkIndex_8e157 17 = .ok (.ireturn, 1) := by decide +kernel
end
section
/-! THE WORLD: all objects of the class, of the reference and the law's row, by role (kind, index); what they hold by kind, index, place, as whole numbers -/
abbrev zG : Type := Nat → Nat → Nat → Int
abbrev zC : Type := va_G × (Nat → ClassId) × Nat × Nat
abbrev zN : Type := (Nat → Nat → Nat) × (Nat → Nat)
abbrev zIn (x : Int) : Prop := -2147483648 ≤ x ∧ x ≤ 2147483647
abbrev z_v (x : Int) : Value := .int (Int32.ofInt x)
abbrev z_r (N : zN) (k i : Nat) : Value := .ref (N.1 k i)
def zup (g : zG) (k i p : Nat) (v : Int) : zG := fun a b c => if a = k ∧ b = i ∧ c = p then v else g a b c
def z_len (k : Nat) : Nat := if k < 14 then 24 else if k < 16 then 6 else if k < 30 then 24 else if k < 32 then 144 else if k < 38 then 7 else if k < 40 then 4 else if k = 40 then 1441 else 168
def z_isz (k : Nat) : Bool := k == 29 || k == 37 || k == 40
def z_ci (k : Nat) : Nat := match k with
  | 0 => 5
  | 1 => 0
  | 2 => 1
  | 3 => 3
  | 4 => 2
  | 5 => 4
  | _ => 6
def z_obj (X : zC) (N : zN) (g : zG) (k i : Nat) : List Value := match k with
  | 0 => [z_r N 1 0, z_r N 1 1, z_r N 2 0, z_r N 3 2]
  | 1 => [z_v (g k i 0), (if N.2 (2 + i) = 0 then .ref X.2.2.2 else z_r N 16 i), z_v (g k i 2)]
  | 2 => [z_r N 3 0, z_r N 3 1, z_v (g k i 2), z_v (g k i 3), z_v (g k i 4)]
  | 3 => [z_r N 10 i, z_r N 11 i, z_r N 12 i, z_r N 13 i, z_v (g k i 4)]
  | 4 => [z_v (g k i 0), z_v (g k i 1), z_v (g k i 2), z_v (g k i 3), z_v (g k i 4), z_v (g k i 5), z_v (g k i 6), z_v (g k i 7), z_v (g k i 8), z_v (g k i 9), z_r N 14 i, z_r N 15 i, z_v (g k i 12), z_v (g k i 13)]
  | 5 => [z_v (g k i 0), z_v (g k i 1), z_v (g k i 2), z_v (g k i 3), z_v (g k i 4)]
  | _ => [z_v (g k i 0), z_v (g k i 1), z_r N 20 i, z_r N 21 i, z_r N 22 i, z_r N 23 i, z_r N 24 i, z_r N 25 i, z_r N 26 i, z_r N 27 i, z_r N 28 i, z_r N 29 i, z_r N 30 i, z_r N 31 i, z_v (g k i 14), z_r N 32 i, z_r N 33 i, z_r N 34 i, z_r N 35 i, z_r N 36 i, z_r N 37 i, z_r N 38 i, z_r N 39 i, z_r N 40 i, z_v (g k i 24), z_v (g k i 25), z_v (g k i 26), z_v (g k i 27), z_v (g k i 28), z_r N 41 i]
def z_cell (X : zC) (N : zN) (g : zG) (k i : Nat) : va_E :=
  if k < 10 then .inr (z_ci k, z_obj X N g k i)
  else if k = 16 then .inl (X.2.1 3, N.2 (2 + i), .inr (.inr (.inr (.inr (fun j => if j < N.2 i then some (N.1 (4 + i) j) else none)))))
  else if k = 17 then .inl (X.2.1 2, 1, .inr (.inl (fun j => Int64.ofInt (g k i j))))
  else if z_isz k = true then .inl (X.2.1 1, z_len k, .inl (fun j => Int32.ofInt (g k i j)))
  else .inl (X.2.1 0, z_len k, .inl (fun j => Int32.ofInt (g k i j)))
def z_ex (n : Nat → Nat) (k i : Nat) : Bool :=
  if k = 1 then decide (i < 2)
  else if k = 3 ∨ (10 ≤ k ∧ k ≤ 13) then decide (i < 3)
  else if k = 4 ∨ k = 14 ∨ k = 15 then decide (i < n 0)
  else if k = 5 then decide (i < n 1 ∨ (i = 6 ∧ n 6 = 1))
  else if k = 16 then decide (i < 2 ∧ n (2 + i) ≠ 0)
  else decide ((k = 0 ∨ k = 2 ∨ k = 6 ∨ k = 17 ∨ (20 ≤ k ∧ k ≤ 41)) ∧ i = 0)
def z_roles (n : Nat → Nat) : List (Nat × Nat) := ((List.range 42).flatMap fun k => (List.range 32).map fun i => (k, i)).filter fun r => z_ex n r.1 r.2
abbrev zE (N : zN) (k i : Nat) : Prop := (k, i) ∈ z_roles N.2
def z_pool (X : zC) (N : zN) (g : zG) : va_W := (z_roles N.2).map fun r => (N.1 r.1 r.2, z_cell X N g r.1 r.2)
abbrev zA (X : zC) : Nat → Prop := fun q => X.2.2.1 ≤ q
abbrev z_tys (X : zC) : List (ClassId × FieldType) := [(X.2.1 0, .int), (X.2.1 1, .boolean), (X.2.1 2, .long), (X.2.1 3, .object "java/lang/Object")]
/-- the numbers that the lists keep are those of the objects -/
def zSz (N : zN) (g : zG) : Prop := g 1 0 2 = (N.2 0 : Int) ∧ g 1 1 2 = (N.2 1 : Int) ∧ N.2 0 ≤ 24 ∧ N.2 1 ≤ 6 ∧ N.2 0 ≤ N.2 2 ∧ N.2 1 ≤ N.2 3 ∧ N.2 2 ≤ 40 ∧ N.2 3 ≤ 40
def zW (X : zC) (N : zN) (g : zG) (H : Heap) : Prop :=
  va_P X.1 vwCl (z_pool X N g) H ∧ va_D (zA X) (z_pool X N g) ∧ zSz N g ∧ X.2.2.2 < X.2.2.1 ∧ X.2.2.1 ≤ H.size ∧ va_at X.1 vwCl (X.2.2.2, .inl (X.2.1 3, 0, .inr (.inr (.inr (.inr (fun _ => none)))))) H
theorem zE_iff {N : zN} {k i : Nat} : zE N k i ↔ k < 42 ∧ i < 32 ∧ z_ex N.2 k i = true := by
  unfold zE z_roles
  rw [List.mem_filter, List.mem_flatMap]
  constructor
  · rintro ⟨⟨a, ha, h⟩, hx⟩
    obtain ⟨b, hb, he⟩ := List.mem_map.mp h
    cases he
    exact ⟨List.mem_range.mp ha, List.mem_range.mp hb, hx⟩
  · rintro ⟨h1, h2, h3⟩
    exact ⟨⟨k, List.mem_range.mpr h1, List.mem_map.mpr ⟨i, List.mem_range.mpr h2, rfl⟩⟩, h3⟩
theorem z_place {X : zC} {N : zN} {g : zG} {k i : Nat} (h : zE N k i) : ∃ q0 : Nat, (z_roles N.2)[q0]? = some (k, i) ∧ (z_pool X N g)[q0]? = some (N.1 k i, z_cell X N g k i) := by
  obtain ⟨q0, hq⟩ := List.getElem?_of_mem h
  refine ⟨q0, hq, ?_⟩
  unfold z_pool
  rw [List.getElem?_map, hq]
  rfl
theorem z_pool_set {X : zC} {N : zN} {g g' : zG} {k i q0 : Nat} {e : va_E} {A : Nat → Prop} (hD : va_D A (z_pool X N g)) (hq : (z_roles N.2)[q0]? = some (k, i)) (he : z_cell X N g' k i = e)
    (ho : ∀ k' i' : Nat, ¬ (k' = k ∧ i' = i) → z_cell X N g' k' i' = z_cell X N g k' i') : (z_pool X N g).set q0 (N.1 k i, e) = z_pool X N g' := by
  have hpl : ∀ (gg : zG) (j : Nat) (r : Nat × Nat), (z_roles N.2)[j]? = some r → (z_pool X N gg)[j]? = some (N.1 r.1 r.2, z_cell X N gg r.1 r.2) := by
    intro gg j r hr
    unfold z_pool
    rw [List.getElem?_map, hr]
    rfl
  apply List.ext_getElem?
  intro j
  by_cases hj : j = q0
  · subst hj
    have hlt : j < (z_pool X N g).length := (List.getElem?_eq_some_iff.mp (hpl g j _ hq)).1
    rw [List.getElem?_set_self hlt, hpl g' j _ hq, he]
  · rw [List.getElem?_set_ne (Ne.symm hj)]
    cases hr : (z_roles N.2)[j]? with
    | none =>
      unfold z_pool
      rw [List.getElem?_map, List.getElem?_map, hr]
      rfl
    | some r =>
      have hne : ¬ (r.1 = k ∧ r.2 = i) := by
        intro h
        refine hj (hD.1 j q0 _ _ (hpl g j r hr) (hpl g q0 _ hq) ?_)
        rw [h.1, h.2]
      rw [hpl g j r hr, hpl g' j r hr, ho _ _ hne]
theorem z_obj_congr {X : zC} {N : zN} {g g' : zG} {k i : Nat} (h : ∀ p, g' k i p = g k i p) : z_obj X N g' k i = z_obj X N g k i := by
  unfold z_obj
  split <;> simp only [h]
theorem z_cell_congr {X : zC} {N : zN} {g g' : zG} {k i : Nat} (h : ∀ p, g' k i p = g k i p) : z_cell X N g' k i = z_cell X N g k i := by
  unfold z_cell
  rw [z_obj_congr h]
  simp only [h]
theorem zup_other {g : zG} {k i p k' i' p' : Nat} {v : Int} (h : ¬ (k' = k ∧ i' = i)) : zup g k i p v k' i' p' = g k' i' p' := by
  unfold zup
  rw [if_neg (fun q => h ⟨q.1, q.2.1⟩)]
theorem zup_self {g : zG} {k i p : Nat} {v : Int} : zup g k i p v k i p = v := by simp [zup]
theorem zup_place {g : zG} {k i p p' : Nat} {v : Int} (h : p' ≠ p) : zup g k i p v k i p' = g k i p' := by simp [zup, h]
theorem zSz_up {N : zN} {g : zG} {k i p : Nat} {v : Int} (h : zSz N g) (hk : ¬ (k = 1 ∧ p = 2)) : zSz N (zup g k i p v) := by
  obtain ⟨h1, h2, h3⟩ := h
  refine ⟨?_, ?_, h3⟩
  · unfold zup
    rw [if_neg (fun q => hk ⟨q.1.symm, q.2.2.symm⟩)]
    exact h1
  · unfold zup
    rw [if_neg (fun q => hk ⟨q.1.symm, q.2.2.symm⟩)]
    exact h2
theorem zE_fl {N : zN} {g : zG} {i : Nat} (h : zSz N g) (hi : i < N.2 0) : zE N 4 i := zE_iff.mpr ⟨by decide, by have := h.2.2.1; omega, by simp [z_ex, hi]⟩
theorem zE_fl2 {N : zN} {i : Nat} (h : zE N 4 i) : zE N 14 i ∧ zE N 15 i := by
  obtain ⟨h1, h2, h3⟩ := zE_iff.mp h
  have h3 : i < N.2 0 := by simpa [z_ex] using h3
  exact ⟨zE_iff.mpr ⟨by decide, h2, by simp [z_ex, h3]⟩, zE_iff.mpr ⟨by decide, h2, by simp [z_ex, h3]⟩⟩
theorem zE_rg {N : zN} {g : zG} {i : Nat} (h : zSz N g) (hi : i < N.2 1) : zE N 5 i := zE_iff.mpr ⟨by decide, by have := h.2.2.2.1; omega, by simp [z_ex, hi]⟩
theorem zE_ln {N : zN} {i : Nat} (h : zE N 3 i) : zE N 10 i ∧ zE N 11 i ∧ zE N 12 i ∧ zE N 13 i := by
  obtain ⟨h1, h2, h3⟩ := zE_iff.mp h
  have h3 : i < 3 := by simpa [z_ex] using h3
  exact ⟨zE_iff.mpr ⟨by decide, h2, by simp [z_ex, h3]⟩, zE_iff.mpr ⟨by decide, h2, by simp [z_ex, h3]⟩, zE_iff.mpr ⟨by decide, h2, by simp [z_ex, h3]⟩, zE_iff.mpr ⟨by decide, h2, by simp [z_ex, h3]⟩⟩
theorem zE_fix {N : zN} {k i : Nat} (h : (decide (k < 42) && decide (i < 32) && (z_ex (fun _ => 0) k i && (k != 4 && k != 14 && k != 15 && k != 5 && k != 16))) = true) : zE N k i := by
  simp only [Bool.and_eq_true, decide_eq_true_eq, bne_iff_ne] at h
  obtain ⟨⟨h1, h2⟩, h3, ⟨⟨⟨h4, h5⟩, h6⟩, h7⟩, h8⟩ := h
  refine zE_iff.mpr ⟨h1, h2, ?_⟩
  rw [← h3]
  unfold z_ex
  simp [h4, h5, h6, h7, h8]
/-! choices, as the law of a program over whole numbers tells them: none, where a number is out of the machine's range, or the machine would throw -/
def zlt {α : Type} (x y : Int) (a b : Option α) : Option α := if zIn x ∧ zIn y then (if x < y then a else b) else none
def zle {α : Type} (x y : Int) (a b : Option α) : Option α := if zIn x ∧ zIn y then (if x ≤ y then a else b) else none
def zeq {α : Type} (x y : Int) (a b : Option α) : Option α := if zIn x ∧ zIn y then (if x = y then a else b) else none
def zix {α : Type} (j : Int) (n : Nat) (k : Option α) : Option α := if 0 ≤ j ∧ j < (n : Int) then k else none
def zli {α : Type} (j n : Int) (k : Option α) : Option α := if 0 ≤ j ∧ j < n then k else none
def zdv {α : Type} (x y : Int) (k : Option α) : Option α := if zIn x ∧ zIn y ∧ y ≠ 0 then k else none
def zbo {α : Type} (x : Int) (k : Option α) : Option α := if x = 0 ∨ x = 1 then k else none
def zri {α : Type} (x : Int) (k : Option α) : Option α := if zIn x then k else none
def zbd {α β : Type} (a : Option (α × zG)) (f : α → zG → Option β) : Option β := match a with
  | none => none
  | some o => f o.1 o.2
theorem zbd_some {α β : Type} {a : Option (α × zG)} {f : α → zG → Option β} {o : β} (h : zbd a f = some o) : ∃ (r : α) (g : zG), a = some (r, g) ∧ f r g = some o := by
  unfold zbd at h
  split at h
  · cases h
  · rename_i q
    exact ⟨q.1, q.2, rfl, h⟩
theorem z_inj {x y : Int} (hx : zIn x) (hy : zIn y) : Int32.ofInt x = Int32.ofInt y ↔ x = y := by
  constructor
  · intro h
    have h1 := congrArg Int32.toInt h
    rw [Int32.toInt_ofInt_of_le (by omega) (by omega), Int32.toInt_ofInt_of_le (by omega) (by omega)] at h1
    exact h1
  · intro h
    rw [h]
theorem z_lt {x y : Int} (hx : zIn x) (hy : zIn y) : Int32.ofInt x < Int32.ofInt y ↔ x < y := by
  rw [Int32.lt_iff_toInt_lt, Int32.toInt_ofInt_of_le (by omega) (by omega), Int32.toInt_ofInt_of_le (by omega) (by omega)]
theorem z_le {x y : Int} (hx : zIn x) (hy : zIn y) : Int32.ofInt x ≤ Int32.ofInt y ↔ x ≤ y := by
  rw [Int32.le_iff_toInt_le, Int32.toInt_ofInt_of_le (by omega) (by omega), Int32.toInt_ofInt_of_le (by omega) (by omega)]
theorem z_vin {j : Int} {n : Nat} (hn : n < 2147483648) (h : 0 ≤ j ∧ j < (n : Int)) : vp_in (Int32.ofInt j) n ∧ (Int32.ofInt j).toNatClampNeg = j.toNat := by
  have h1 : (Int32.ofInt j).toInt = j := Int32.toInt_ofInt_of_le (by omega) (by omega)
  refine ⟨vp_in_iff.mpr (by rw [h1]; omega), ?_⟩
  rw [← Int32.toNat_toInt, h1]
end
section
/-! THE ROWS over the world -/
def zws (y : MethodName) (b : ByteArray) (n : Nat) (ret : Option FieldType) : List Cond := Cond.code y b n ret :: lw_G
theorem zG_good {w : Cond} (h : w ∈ lw_G) : (w.onTables && w.keeps) = true ∨ ∃ ty, w = .arrayClass ty := good_of_word (List.mem_filter.mp h).2
theorem z_goodV {own C : String} {idx : Nat} {y : MethodName} {b : ByteArray} {n : Nat} {ret : Option FieldType} (h1 : Cond.methodLink own idx y ∈ lw_G) (h2 : Cond.instanceMethod y ∈ lw_G) (h3 : Cond.selects C y y ∈ lw_G) (h4 : Cond.initialized C ∈ lw_G) (h5 : Cond.code y b n ret ∈ lw_G) : GoodIn lw_G (wsV own idx C y (zws y b n ret)) := by
  intro w hw
  have hm : w ∈ lw_G := by
    simp only [wsV, zws, List.cons_append, List.nil_append, List.mem_cons] at hw
    rcases hw with rfl | rfl | rfl | rfl | rfl | h
    · exact h1
    · exact h2
    · exact h3
    · exact h4
    · exact h5
    · exact h
  exact ⟨hm, zG_good hm⟩
theorem z_goodS {own : String} {idx : Nat} {y : MethodName} {b : ByteArray} {n : Nat} {ret : Option FieldType} (h1 : Cond.methodLink own idx y ∈ lw_G) (h2 : Cond.static y ∈ lw_G) (h3 : Cond.initialized y.cls ∈ lw_G) (h5 : Cond.code y b n ret ∈ lw_G) : GoodIn lw_G (va_wsS own idx y (zws y b n ret)) := by
  intro w hw
  have hm : w ∈ lw_G := by
    simp only [va_wsS, zws, List.cons_append, List.nil_append, List.mem_cons] at hw
    rcases hw with rfl | rfl | rfl | rfl | h
    · exact h1
    · exact h2
    · exact h3
    · exact h5
    · exact h
  exact ⟨hm, zG_good hm⟩
abbrev z_casts : List (String × String) := [("java/lang/IndexOutOfBoundsException", "java/lang/IndexOutOfBoundsException"), ("java/lang/IllegalArgumentException", "java/lang/IllegalArgumentException"), ("java/lang/IllegalStateException", "java/lang/IllegalStateException")]
abbrev z_ncasts : List (String × String) := [("java/lang/IllegalArgumentException", "java/lang/IndexOutOfBoundsException"), ("java/lang/IllegalStateException", "java/lang/IndexOutOfBoundsException"), ("java/lang/IllegalStateException", "java/lang/IllegalArgumentException")]
abbrev z_texts : List (Nat × String) := [(259, "no such company"), (261, "an argument is out of range"), (47, "no more flights can be told"), (253, "no such flight"), (257, "no such sector"), (72, "the flight cannot have this entry"), (84, "the flight is not waiting"), (142, "no more regulations can be told"), (255, "no such regulation"), (263, "the regulation is ended"), (190, "slots are numbered from 0"), (227, "a flight is not swapped with itself"), (234, "the flights cannot be swapped"), (242, "a slot time would be ahead of the planned time")]
/-- what the start says of statics, constants, casts -/
def zS (X : zC) (U : State) : Prop :=
  vx_Zq Bundle.tN "UNASSIGNED_STACK" Bundle.steD (zA X) U U.heap ∧ vx_Zq Bundle.tN "SUPPRESSED_SENTINEL" Bundle.listD (zA X) U U.heap ∧
  va_Z "java/util/ArrayList" "DEFAULTCAPACITY_EMPTY_ELEMENTDATA" "[Ljava/lang/Object;" (.ref X.2.2.2) (zA X) U U.heap ∧
  (∀ q ∈ z_casts, va_Nw (.castable q.1 q.2) U) ∧ (∀ q ∈ z_ncasts, va_Nc q.1 q.2 U) ∧ (∀ q ∈ z_texts, ∃ a : Nat, vk_R RX4 q.1 q.2 a U)
def zU (X : zC) (N : zN) (g : zG) (U : State) : Prop := zW X N g U.heap ∧ va_K X.1 vwCl (z_tys X) U ∧ zS X U
def zF (p : Program) (s : State) (m : MethodId) (args : Array Value) (meth : Method) (c : Code) (X : zC) (cc : ByteArray) (nL : Nat) (own : String) : Prop :=
  CallFix p m c cc nL s args lw_G own ∧ va_K X.1 vwCl (z_tys X) s ∧ zS X s ∧ meth.locks = false
def zH (X : zC) (N : zN) (g : zG) (s : State) (H : Heap) (locs : List Loc) : Prop := zW X N g H ∧ va_S (zA X) s.heap H locs ∧ X.2.2.1 ≤ s.heap.size
theorem zH_step {X : zC} {N N' : zN} {g g' : zG} {s : State} {H H1 : Heap} {locs locs1 : List Loc} (h : zH X N g s H locs) (hP : va_P X.1 vwCl (z_pool X N' g') H1) (hD : va_D (zA X) (z_pool X N' g')) (hz : zSz N' g') (hS : va_S (zA X) s.heap H1 locs1) : zH X N' g' s H1 locs1 := by
  obtain ⟨⟨-, -, -, he, hb, ha⟩, hS0, hb0⟩ := h
  refine ⟨⟨hP, hD, hz, he, Nat.le_trans hb0 hS.1, ha.kept ?_⟩, hS, hb0⟩
  have hlt : X.2.2.2 < s.heap.size := Nat.lt_of_lt_of_le he hb0
  have hn : ¬ zA X X.2.2.2 := Nat.not_le.mpr he
  exact (hS.2.1 _ hlt hn).trans (hS0.2.1 _ hlt hn).symm
theorem zS_pass {X : zC} {s U : State} {H : Heap} {locs : List Loc} (h : zS X s) (hS : va_S (zA X) s.heap H locs) (hW : s.WarmedH U.vm) (hU : U.heap = H) : zS X U := by
  obtain ⟨h1, h2, h3, h4, h5, h6⟩ := h
  have hq : ∀ a : Nat, a < s.heap.size → ¬ zA X a → U.heap[a]? = s.heap[a]? := fun a h1 h2 => by rw [hU]; exact hS.2.1 a h1 h2
  refine ⟨(vx_Zq.moved hW.alike h1).kept hq, (vx_Zq.moved hW.alike h2).kept hq, (va_Z.moved hW.alike h3).kept hq, fun q hm => va_Nw.warmC hW (h4 q hm), fun q hm => va_Nc.moved hW.alike (h5 q hm), fun q hm => ?_⟩
  obtain ⟨a, ha⟩ := h6 q hm
  exact ⟨a, vk_R.warm hW ha⟩
theorem zU_blind {X : zC} {N : zN} {g : zG} {av : List Value} : FrameBlind (va_Pc av (fun U => zU X N g U)) := by
  intro a U g9 mk q
  obtain ⟨q0, q1, q2, q3⟩ := q
  refine ⟨q0, q1, va_K.moved (u := U) (U := U.calling g9 mk a) (Vm.Alike.refl U.vm) q2, ?_⟩
  exact zS_pass (s := U) (U := U.calling g9 mk a) (H := U.heap) (locs := []) q3 va_S.rf (State.WarmedH.refl U) rfl
/-- the contracts: a method that returns a number (a truth), nothing, one of kind k -/
def zQi (X : zC) (N : zN) (r : Int) (g' : zG) : Array Value → State → Outcome → State → Prop := va_Qi (fun (r' : Int32) (_ : Unit) => r' = Int32.ofInt r) (fun _ t => zU X N g' t) (zA X)
def zQv (X : zC) (N : zN) (g' : zG) : Array Value → State → Outcome → State → Prop := va_Qv (fun (_ : Unit) => True) (fun _ t => zU X N g' t) (zA X)
def zQr (X : zC) (N : zN) (k : Nat) (r : Int) (g' : zG) : Array Value → State → Outcome → State → Prop := va_Qr (fun (_ : Unit) => True) (fun _ a t => a = N.1 k r.toNat ∧ zE N k r.toNat ∧ zU X N g' t) (zA X)
abbrev zM (l : Launch) (y : MethodName) (b : ByteArray) (n : Nat) (ret : Option FieldType) (rm : Room) (X : zC) (N : zN) (g : zG) (av : List Value) (Qc : Array Value → State → Outcome → State → Prop) : Prop :=
  Met l y (zws y b n ret) rm (va_Pc av (fun U => zU X N g U)) Qc 0 0 (zA X)
theorem z_ofW {l : Launch} {y : MethodName} {cc : ByteArray} {maxL : Nat} {ret : Option FieldType} {rm : Room} {X : zC} {N : zN} {g : zG} {av : List Value} {Qc : Array Value → State → Outcome → State → Prop} {own : String} (hy : plainName y.cls = true) (ho : y.cls = own) (hn : (lg_sl av).length ≤ maxL)
    (body : ∀ p e s m args below meth c ls, zF p s m args meth c X cc maxL own → meth.sig.returnType = ret → zH X N g s s.heap [] → lv_has ls maxL (lv_args 0 av) → W p l e rm s m args below meth c s.heap [] 0 0 (MQ below Qc args s 0 0 (zA X)) (F0 m 0 ls [])) : zM l y cc maxL ret rm X N g av Qc := by
  refine Met.ofW (cc := cc) (maxL := maxL) (ret := ret) hy rfl ?_
  intro p e s m args below meth c s₁ B hml hv
  obtain ⟨rfl, hWd, hK, hS⟩ := hv
  have hts : ∀ w ∈ lw_G, w.before av.toArray s = true := fun w hw => atoms_spec (ws := zws y cc maxL ret) B.pre w (List.mem_cons_of_mem _ hw)
  have hown : s.vm.findClass own = some m.cls := by rw [← ho]; exact findClass_of_methodNamed B.named
  have hl := lv_entry av (n := maxL) hn
  rw [lg_entry_eq]
  exact body p e s m _ below meth c _ ⟨⟨B.exec, B.bytes, hml, hown, hts⟩, hK, hS, B.notSynchronized⟩ B.returns ⟨hWd, va_S.rf, hWd.2.2.2.2.1⟩ hl
/-! classes -/
def zCls (k : Nat) (C : String) (T : u_T) (n : Nat) : Prop := vwCl[z_ci k]? = some (C, T, n) ∧ (∀ w ∈ u_ws C T n, w ∈ lw_G) ∧ (∀ a, a < n → ∀ b, b < n → a ≠ b → (T a).2.1 ≠ (T b).2.1) ∧ ∃ ty : Nat → FieldType, ∀ a, a < n → parseFieldDescriptor (T a).2.2.1 = some (ty a)
def z_ki (k : Nat) : Bool := decide (10 ≤ k) && k != 16 && k != 17 && !z_isz k
theorem z_len_le (k : Nat) : z_len k < 2147483648 := by
  unfold z_len
  repeat' split
  all_goals omega
theorem z_cell_int {X : zC} {N : zN} {g : zG} {k i : Nat} (hk : z_ki k = true) : z_cell X N g k i = .inl (X.2.1 0, z_len k, .inl (fun j => Int32.ofInt (g k i j))) := by
  simp only [z_ki, Bool.and_eq_true, decide_eq_true_eq, bne_iff_ne, Bool.not_eq_true'] at hk
  obtain ⟨⟨⟨h1, h2⟩, h3⟩, h4⟩ := hk
  unfold z_cell
  rw [if_neg (by omega), if_neg h2, if_neg h3, if_neg (by rw [h4]; decide)]
theorem z_cell_boo {X : zC} {N : zN} {g : zG} {k i : Nat} (hk : z_isz k = true) : z_cell X N g k i = .inl (X.2.1 1, z_len k, .inl (fun j => Int32.ofInt (g k i j))) := by
  have h : k = 29 ∨ k = 37 ∨ k = 40 := by simpa [z_isz, or_assoc] using hk
  unfold z_cell
  rw [if_neg (by omega), if_neg (by omega), if_neg (by omega), if_pos hk]
theorem z_cell_obj {X : zC} {N : zN} {g : zG} {k i : Nat} (hk : k < 10) : z_cell X N g k i = .inr (z_ci k, z_obj X N g k i) := by
  unfold z_cell
  rw [if_pos hk]
theorem z_updI {g : zG} {k i p : Nat} {v : Int} : (fun j => Int32.ofInt (zup g k i p v k i j)) = upd (fun j => Int32.ofInt (g k i j)) p (Int32.ofInt v) := by
  funext j
  by_cases h : j = p
  · subst h
    rw [zup_self, pk_us]
  · rw [zup_place h, pk_un h]
/-- a field's new number, in the object's list of values -/
def z_fld (k f : Nat) : Bool := match k with
  | 1 => f == 0
  | 2 => f == 2 || f == 3 || f == 4
  | 3 => f == 4
  | 4 => f < 10 || f == 12 || f == 13
  | 5 => f < 5
  | 6 => f < 2 || f == 14 || (f > 23 && f < 29)
  | _ => false
section ZR
variable {p : Program} {l : Launch} {e : Env} {R : Room} {s : State} {m : MethodId} {args : Array Value} {below : List Frame} {meth : Method} {c : Code} {H : Heap} {locs : List Loc} {cells slots : Nat} {Q : State → Prop}
variable {cc : ByteArray} {pc nL : Nat} {ls : Array Slot} {rest : List Value} {own : String} {X : zC} {N : zN} {g : zG} {α : Type} {o : α}
def zlet (x : Int) (f : Int → Option α) : Option α := f x
def zst (g : zG) (k i q : Nat) (v : Int) (f : zG → Option α) : Option α := f (zup g k i q v)
theorem zr_iadd (hF : zF p s m args meth c X cc nL own) {x y : Int} (hdg : decode cc pc = .ok (.iadd, 1)) (k : W p l e R s m args below meth c H locs cells slots Q (F0 m (pc + 1) ls (z_v (x + y) :: rest))) : W p l e R s m args below meth c H locs cells slots Q (F0 m pc ls (z_v y :: z_v x :: rest)) :=
  lv_iadd hF.1.1 hF.1.2.1 hdg (W.eq (congrArg (fun z => F0 m (pc + 1) ls (Value.int z :: rest)) (Int32.ofInt_add x y).symm) k)
theorem zr_isub (hF : zF p s m args meth c X cc nL own) {x y : Int} (hdg : decode cc pc = .ok (.isub, 1)) (k : W p l e R s m args below meth c H locs cells slots Q (F0 m (pc + 1) ls (z_v (x - y) :: rest))) : W p l e R s m args below meth c H locs cells slots Q (F0 m pc ls (z_v y :: z_v x :: rest)) :=
  lv_isub hF.1.1 hF.1.2.1 hdg (W.eq (congrArg (fun z => F0 m (pc + 1) ls (Value.int z :: rest)) (Int32.ofInt_sub x y).symm) k)
theorem zr_imul (hF : zF p s m args meth c X cc nL own) {x y : Int} (hdg : decode cc pc = .ok (.imul, 1)) (k : W p l e R s m args below meth c H locs cells slots Q (F0 m (pc + 1) ls (z_v (x * y) :: rest))) : W p l e R s m args below meth c H locs cells slots Q (F0 m pc ls (z_v y :: z_v x :: rest)) :=
  lv_imul hF.1.1 hF.1.2.1 hdg (W.eq (congrArg (fun z => F0 m (pc + 1) ls (Value.int z :: rest)) (Int32.ofInt_mul x y).symm) k)
theorem zr_idiv (hF : zF p s m args meth c X cc nL own) {x y : Int} {A : Option α} (h : zdv x y A = some o) (hdg : decode cc pc = .ok (.idiv, 1)) (k : A = some o → W p l e R s m args below meth c H locs cells slots Q (F0 m (pc + 1) ls (z_v (x.tdiv y) :: rest))) : W p l e R s m args below meth c H locs cells slots Q (F0 m pc ls (z_v y :: z_v x :: rest)) := by
  unfold zdv at h
  split at h
  · rename_i q
    obtain ⟨hx, hy, h0⟩ := q
    have hne : ¬ Int32.ofInt y = 0 := fun z => h0 ((z_inj hy (by decide)).mp (z.trans (by decide : (0 : Int32) = Int32.ofInt 0)))
    have he : Int32.ofInt (x.tdiv y) = Int32.ofInt x / Int32.ofInt y := Int32.ofInt_tdiv (by show (-2147483648 : Int) ≤ x; exact hx.1) (by show x ≤ (2147483647 : Int); exact hx.2) (by show (-2147483648 : Int) ≤ y; exact hy.1) (by show y ≤ (2147483647 : Int); exact hy.2)
    exact lv_idiv hF.1.1 hF.1.2.1 hdg hne (W.eq (congrArg (fun z => F0 m (pc + 1) ls (Value.int z :: rest)) he.symm) (k h))
  · cases h
theorem zr_icmp_lt (hF : zF p s m args meth c X cc nL own) {x y off : Int} {tgt : Nat} {A B : Option α} (h : zlt x y A B = some o) (hdg : decode cc pc = .ok (.if_icmp .lt off, 3)) (ht : (pc : Int) + off = (tgt : Int))
    (kt : A = some o → W p l e R s m args below meth c H locs cells slots Q (F0 m tgt ls rest)) (kf : B = some o → W p l e R s m args below meth c H locs cells slots Q (F0 m (pc + 3) ls rest)) : W p l e R s m args below meth c H locs cells slots Q (F0 m pc ls (z_v y :: z_v x :: rest)) := by
  unfold zlt at h
  split at h
  · rename_i q
    refine lv_icmp_lt hF.1.1 hF.1.2.1 hdg ht (fun d => kt ?_) (fun d => kf ?_)
    · rwa [if_pos ((z_lt q.1 q.2).mp d)] at h
    · rwa [if_neg (fun z => d ((z_lt q.1 q.2).mpr z))] at h
  · cases h
theorem zr_icmp_ge (hF : zF p s m args meth c X cc nL own) {x y off : Int} {tgt : Nat} {A B : Option α} (h : zlt x y A B = some o) (hdg : decode cc pc = .ok (.if_icmp .ge off, 3)) (ht : (pc : Int) + off = (tgt : Int))
    (kt : B = some o → W p l e R s m args below meth c H locs cells slots Q (F0 m tgt ls rest)) (kf : A = some o → W p l e R s m args below meth c H locs cells slots Q (F0 m (pc + 3) ls rest)) : W p l e R s m args below meth c H locs cells slots Q (F0 m pc ls (z_v y :: z_v x :: rest)) := by
  unfold zlt at h
  split at h
  · rename_i q
    refine lv_icmp_ge hF.1.1 hF.1.2.1 hdg ht (fun d => kt ?_) (fun d => kf ?_)
    · have d2 := (z_le q.2 q.1).mp d
      rwa [if_neg (by omega)] at h
    · have d2 : ¬ y ≤ x := fun z => d ((z_le q.2 q.1).mpr z)
      rwa [if_pos (by omega)] at h
  · cases h
theorem zr_icmp_gt (hF : zF p s m args meth c X cc nL own) {x y off : Int} {tgt : Nat} {A B : Option α} (h : zle x y A B = some o) (hdg : decode cc pc = .ok (.if_icmp .gt off, 3)) (ht : (pc : Int) + off = (tgt : Int))
    (kt : B = some o → W p l e R s m args below meth c H locs cells slots Q (F0 m tgt ls rest)) (kf : A = some o → W p l e R s m args below meth c H locs cells slots Q (F0 m (pc + 3) ls rest)) : W p l e R s m args below meth c H locs cells slots Q (F0 m pc ls (z_v y :: z_v x :: rest)) := by
  unfold zle at h
  split at h
  · rename_i q
    refine lv_icmp_gt hF.1.1 hF.1.2.1 hdg ht (fun d => kt ?_) (fun d => kf ?_)
    · have d2 := (z_lt q.2 q.1).mp d
      rwa [if_neg (by omega)] at h
    · have d2 : ¬ y < x := fun z => d ((z_lt q.2 q.1).mpr z)
      rwa [if_pos (by omega)] at h
  · cases h
theorem zr_icmp_le (hF : zF p s m args meth c X cc nL own) {x y off : Int} {tgt : Nat} {A B : Option α} (h : zle x y A B = some o) (hdg : decode cc pc = .ok (.if_icmp .le off, 3)) (ht : (pc : Int) + off = (tgt : Int))
    (kt : A = some o → W p l e R s m args below meth c H locs cells slots Q (F0 m tgt ls rest)) (kf : B = some o → W p l e R s m args below meth c H locs cells slots Q (F0 m (pc + 3) ls rest)) : W p l e R s m args below meth c H locs cells slots Q (F0 m pc ls (z_v y :: z_v x :: rest)) := by
  unfold zle at h
  split at h
  · rename_i q
    refine lv_icmp_le hF.1.1 hF.1.2.1 hdg ht (fun d => kt ?_) (fun d => kf ?_)
    · rwa [if_pos ((z_le q.1 q.2).mp d)] at h
    · rwa [if_neg (fun z => d ((z_le q.1 q.2).mpr z))] at h
  · cases h
theorem zr_icmp_eq (hF : zF p s m args meth c X cc nL own) {x y off : Int} {tgt : Nat} {A B : Option α} (h : zeq x y A B = some o) (hdg : decode cc pc = .ok (.if_icmp .eq off, 3)) (ht : (pc : Int) + off = (tgt : Int))
    (kt : A = some o → W p l e R s m args below meth c H locs cells slots Q (F0 m tgt ls rest)) (kf : B = some o → W p l e R s m args below meth c H locs cells slots Q (F0 m (pc + 3) ls rest)) : W p l e R s m args below meth c H locs cells slots Q (F0 m pc ls (z_v y :: z_v x :: rest)) := by
  unfold zeq at h
  split at h
  · rename_i q
    refine lv_icmp_eq hF.1.1 hF.1.2.1 hdg ht (fun d => kt ?_) (fun d => kf ?_)
    · rwa [if_pos ((z_inj q.1 q.2).mp d)] at h
    · rwa [if_neg (fun z => d ((z_inj q.1 q.2).mpr z))] at h
  · cases h
theorem zr_icmp_ne (hF : zF p s m args meth c X cc nL own) {x y off : Int} {tgt : Nat} {A B : Option α} (h : zeq x y A B = some o) (hdg : decode cc pc = .ok (.if_icmp .ne off, 3)) (ht : (pc : Int) + off = (tgt : Int))
    (kt : B = some o → W p l e R s m args below meth c H locs cells slots Q (F0 m tgt ls rest)) (kf : A = some o → W p l e R s m args below meth c H locs cells slots Q (F0 m (pc + 3) ls rest)) : W p l e R s m args below meth c H locs cells slots Q (F0 m pc ls (z_v y :: z_v x :: rest)) := by
  unfold zeq at h
  split at h
  · rename_i q
    refine lv_icmp_ne hF.1.1 hF.1.2.1 hdg ht (fun d => kt ?_) (fun d => kf ?_)
    · rwa [if_neg (fun z => d ((z_inj q.1 q.2).mpr z))] at h
    · have d2 : Int32.ofInt x = Int32.ofInt y := d
      rwa [if_pos ((z_inj q.1 q.2).mp d2)] at h
  · cases h
theorem zr_if_lt (hF : zF p s m args meth c X cc nL own) {x off : Int} {tgt : Nat} {A B : Option α} (h : zlt x 0 A B = some o) (hdg : decode cc pc = .ok (.ifCond .lt off, 3)) (ht : (pc : Int) + off = (tgt : Int))
    (kt : A = some o → W p l e R s m args below meth c H locs cells slots Q (F0 m tgt ls rest)) (kf : B = some o → W p l e R s m args below meth c H locs cells slots Q (F0 m (pc + 3) ls rest)) : W p l e R s m args below meth c H locs cells slots Q (F0 m pc ls (z_v x :: rest)) := by
  unfold zlt at h
  split at h
  · rename_i q
    refine lv_if_lt hF.1.1 hF.1.2.1 hdg ht (fun d => kt ?_) (fun d => kf ?_)
    · rwa [if_pos ((z_lt q.1 q.2).mp d)] at h
    · rwa [if_neg (fun z => d ((z_lt q.1 q.2).mpr z))] at h
  · cases h
theorem zr_if_ge (hF : zF p s m args meth c X cc nL own) {x off : Int} {tgt : Nat} {A B : Option α} (h : zlt x 0 A B = some o) (hdg : decode cc pc = .ok (.ifCond .ge off, 3)) (ht : (pc : Int) + off = (tgt : Int))
    (kt : B = some o → W p l e R s m args below meth c H locs cells slots Q (F0 m tgt ls rest)) (kf : A = some o → W p l e R s m args below meth c H locs cells slots Q (F0 m (pc + 3) ls rest)) : W p l e R s m args below meth c H locs cells slots Q (F0 m pc ls (z_v x :: rest)) := by
  unfold zlt at h
  split at h
  · rename_i q
    refine lv_if_ge hF.1.1 hF.1.2.1 hdg ht (fun d => kt ?_) (fun d => kf ?_)
    · have d2 := (z_le q.2 q.1).mp d
      rwa [if_neg (by omega)] at h
    · have d2 : ¬ (0 : Int) ≤ x := fun z => d ((z_le q.2 q.1).mpr z)
      rwa [if_pos (by omega)] at h
  · cases h
theorem zr_if_gt (hF : zF p s m args meth c X cc nL own) {x off : Int} {tgt : Nat} {A B : Option α} (h : zle x 0 A B = some o) (hdg : decode cc pc = .ok (.ifCond .gt off, 3)) (ht : (pc : Int) + off = (tgt : Int))
    (kt : B = some o → W p l e R s m args below meth c H locs cells slots Q (F0 m tgt ls rest)) (kf : A = some o → W p l e R s m args below meth c H locs cells slots Q (F0 m (pc + 3) ls rest)) : W p l e R s m args below meth c H locs cells slots Q (F0 m pc ls (z_v x :: rest)) := by
  unfold zle at h
  split at h
  · rename_i q
    refine lv_if_gt hF.1.1 hF.1.2.1 hdg ht (fun d => kt ?_) (fun d => kf ?_)
    · have d2 := (z_lt q.2 q.1).mp d
      rwa [if_neg (by omega)] at h
    · have d2 : ¬ (0 : Int) < x := fun z => d ((z_lt q.2 q.1).mpr z)
      rwa [if_pos (by omega)] at h
  · cases h
theorem zr_if_le (hF : zF p s m args meth c X cc nL own) {x off : Int} {tgt : Nat} {A B : Option α} (h : zle x 0 A B = some o) (hdg : decode cc pc = .ok (.ifCond .le off, 3)) (ht : (pc : Int) + off = (tgt : Int))
    (kt : A = some o → W p l e R s m args below meth c H locs cells slots Q (F0 m tgt ls rest)) (kf : B = some o → W p l e R s m args below meth c H locs cells slots Q (F0 m (pc + 3) ls rest)) : W p l e R s m args below meth c H locs cells slots Q (F0 m pc ls (z_v x :: rest)) := by
  unfold zle at h
  split at h
  · rename_i q
    refine lv_if_le hF.1.1 hF.1.2.1 hdg ht (fun d => kt ?_) (fun d => kf ?_)
    · rwa [if_pos ((z_le q.1 q.2).mp d)] at h
    · rwa [if_neg (fun z => d ((z_le q.1 q.2).mpr z))] at h
  · cases h
theorem zr_if_eq (hF : zF p s m args meth c X cc nL own) {x off : Int} {tgt : Nat} {A B : Option α} (h : zeq x 0 A B = some o) (hdg : decode cc pc = .ok (.ifCond .eq off, 3)) (ht : (pc : Int) + off = (tgt : Int))
    (kt : A = some o → W p l e R s m args below meth c H locs cells slots Q (F0 m tgt ls rest)) (kf : B = some o → W p l e R s m args below meth c H locs cells slots Q (F0 m (pc + 3) ls rest)) : W p l e R s m args below meth c H locs cells slots Q (F0 m pc ls (z_v x :: rest)) := by
  unfold zeq at h
  split at h
  · rename_i q
    refine lv_if_eq hF.1.1 hF.1.2.1 hdg ht (fun d => kt ?_) (fun d => kf ?_)
    · rwa [if_pos ((z_inj q.1 q.2).mp d)] at h
    · rwa [if_neg (fun z => d ((z_inj q.1 q.2).mpr z))] at h
  · cases h
theorem zr_if_ne (hF : zF p s m args meth c X cc nL own) {x off : Int} {tgt : Nat} {A B : Option α} (h : zeq x 0 A B = some o) (hdg : decode cc pc = .ok (.ifCond .ne off, 3)) (ht : (pc : Int) + off = (tgt : Int))
    (kt : B = some o → W p l e R s m args below meth c H locs cells slots Q (F0 m tgt ls rest)) (kf : A = some o → W p l e R s m args below meth c H locs cells slots Q (F0 m (pc + 3) ls rest)) : W p l e R s m args below meth c H locs cells slots Q (F0 m pc ls (z_v x :: rest)) := by
  unfold zeq at h
  split at h
  · rename_i q
    refine lv_if_ne hF.1.1 hF.1.2.1 hdg ht (fun d => kt ?_) (fun d => kf ?_)
    · rwa [if_neg (fun z => d ((z_inj q.1 q.2).mpr z))] at h
    · have d2 : Int32.ofInt x = Int32.ofInt 0 := d
      rwa [if_pos ((z_inj q.1 q.2).mp d2)] at h
  · cases h
/-! fields -/
theorem zr_get (hF : zF p s m args meth c X cc nL own) (hw : zH X N g s H locs) {k i : Nat} (hE : zE N k i) (hk : k < 10) {C : String} {T : u_T} {n idx : Nat} (hc : zCls k C T n) (f : Nat) (hf : f < n) (hl : Cond.fieldLink own idx (T f).1 (T f).2.1 (T f).2.2.1 ∈ lw_G) {v : Value} (hv : (z_obj X N g k i)[f]? = some v) (hdg : decode cc pc = .ok (.getfield idx, 3))
    (kk : W p l e R s m args below meth c H locs cells slots Q (F0 m (pc + 3) ls (v :: rest))) : W p l e R s m args below meth c H locs cells slots Q (F0 m pc ls (z_r N k i :: rest)) := by
  obtain ⟨q0, -, hq⟩ := z_place (X := X) (g := g) hE
  rw [z_cell_obj hk] at hq
  exact va_get (D := X.1) (C := C) (T := T) (N := n) hF.1.1 hF.1.2.1 hF.1.2.2.2.2 hc.2.1 hF.1.2.2.2.1 hF.2.1 hw.1.1 q0 hq hc.1 f hf (hF.1.2.2.2.2 _ hl) (fun _ h9 => h9) hv hdg kk
theorem z_obj_set {k i f : Nat} {v : Int} (hk : z_fld k f = true) : (z_obj X N g k i).set f (z_v v) = z_obj X N (zup g k i f v) k i ∧ f < (z_obj X N g k i).length := by
  unfold z_fld at hk
  unfold z_obj
  split at hk
  · simp only [beq_iff_eq] at hk
    subst hk
    simp [zup]
  · simp only [Bool.or_eq_true, beq_iff_eq] at hk
    rcases hk with (rfl | rfl) | rfl <;> simp [zup]
  · simp only [beq_iff_eq] at hk
    subst hk
    simp [zup]
  · simp only [Bool.or_eq_true, beq_iff_eq, decide_eq_true_eq] at hk
    have : f = 0 ∨ f = 1 ∨ f = 2 ∨ f = 3 ∨ f = 4 ∨ f = 5 ∨ f = 6 ∨ f = 7 ∨ f = 8 ∨ f = 9 ∨ f = 12 ∨ f = 13 := by omega
    rcases this with rfl | rfl | rfl | rfl | rfl | rfl | rfl | rfl | rfl | rfl | rfl | rfl <;> simp [zup]
  · simp only [decide_eq_true_eq] at hk
    have : f = 0 ∨ f = 1 ∨ f = 2 ∨ f = 3 ∨ f = 4 := by omega
    rcases this with rfl | rfl | rfl | rfl | rfl <;> simp [zup]
  · simp only [Bool.or_eq_true, Bool.and_eq_true, beq_iff_eq, decide_eq_true_eq] at hk
    have : f = 0 ∨ f = 1 ∨ f = 14 ∨ f = 24 ∨ f = 25 ∨ f = 26 ∨ f = 27 ∨ f = 28 := by omega
    rcases this with rfl | rfl | rfl | rfl | rfl | rfl | rfl | rfl <;> simp [zup]
  · cases hk
theorem zr_put (hF : zF p s m args meth c X cc nL own) (hw : zH X N g s H locs) {k i : Nat} (hE : zE N k i) (hk : k < 10) {C : String} {T : u_T} {n idx : Nat} (hc : zCls k C T n) (f : Nat) (hf : f < n) (hkf : z_fld k f = true) (hl : Cond.fieldLink own idx (T f).1 (T f).2.1 (T f).2.2.1 ∈ lw_G) (hfin : (T f).2.2.2 = false) (hd : parseFieldDescriptor (T f).2.2.1 = some .int) {v : Int} {F : zG → Option α} (h : zst g k i f v F = some o) (hdg : decode cc pc = .ok (.putfield idx, 3))
    (kk : ∀ (g : zG) (H : Heap) (locs : List Loc), zH X N g s H locs → F g = some o → W p l e R s m args below meth c H locs cells slots Q (F0 m (pc + 3) ls rest)) : W p l e R s m args below meth c H locs cells slots Q (F0 m pc ls (z_v v :: z_r N k i :: rest)) := by
  obtain ⟨q0, hq1, hq⟩ := z_place (X := X) (g := g) hE
  rw [z_cell_obj hk] at hq
  obtain ⟨ty, hty⟩ := hc.2.2.2
  obtain ⟨he, hlen⟩ := z_obj_set (X := X) (N := N) (g := g) (i := i) (v := v) hkf
  refine va_put (D := X.1) (C := C) (T := T) (N := n) (ty := .int) (v := z_v v) hF.1.1 hF.1.2.1 hF.1.2.2.2.2 hc.2.1 ty hty hc.2.2.1 hF.1.2.2.2.1 hF.2.1 hw.1.1 hw.1.2.1 hw.2.1 q0 hq hc.1 f hf (hF.1.2.2.2.2 _ hl) (fun _ h9 => h9) hfin hd rfl rfl hlen hdg (fun H1 locs1 hP hD hS => kk (zup g k i f v) H1 locs1 ?_ h)
  have hps := z_pool_set (g' := zup g k i f v) (e := .inr (z_ci k, (z_obj X N g k i).set f (z_v v))) hw.1.2.1 hq1 (by rw [z_cell_obj hk, he]) (fun k' i' hn => z_cell_congr (fun p' => zup_other hn))
  rw [hps] at hP hD
  refine zH_step hw hP hD (zSz_up hw.1.2.2.1 (fun z => ?_)) hS
  rw [z.1, z.2] at hkf
  cases hkf
theorem zr_putZ (hF : zF p s m args meth c X cc nL own) (hw : zH X N g s H locs) {k i : Nat} (hE : zE N k i) (hk : k < 10) {C : String} {T : u_T} {n idx : Nat} (hc : zCls k C T n) (f : Nat) (hf : f < n) (hkf : z_fld k f = true) (hl : Cond.fieldLink own idx (T f).1 (T f).2.1 (T f).2.2.1 ∈ lw_G) (hfin : (T f).2.2.2 = false) (hd : parseFieldDescriptor (T f).2.2.1 = some .boolean) {v : Int} {F : zG → Option α} (h : zbo v (zst g k i f v F) = some o) (hdg : decode cc pc = .ok (.putfield idx, 3))
    (kk : ∀ (g : zG) (H : Heap) (locs : List Loc), zH X N g s H locs → F g = some o → W p l e R s m args below meth c H locs cells slots Q (F0 m (pc + 3) ls rest)) : W p l e R s m args below meth c H locs cells slots Q (F0 m pc ls (z_v v :: z_r N k i :: rest)) := by
  obtain ⟨q0, hq1, hq⟩ := z_place (X := X) (g := g) hE
  rw [z_cell_obj hk] at hq
  obtain ⟨ty, hty⟩ := hc.2.2.2
  obtain ⟨he, hlen⟩ := z_obj_set (X := X) (N := N) (g := g) (i := i) (v := v) hkf
  unfold zbo at h
  split at h
  · rename_i hb
    have hn : narrow .boolean (z_v v) = z_v v ∧ fits .boolean (z_v v) = true := by rcases hb with rfl | rfl <;> decide
    refine va_put (D := X.1) (C := C) (T := T) (N := n) (ty := .boolean) (v := z_v v) hF.1.1 hF.1.2.1 hF.1.2.2.2.2 hc.2.1 ty hty hc.2.2.1 hF.1.2.2.2.1 hF.2.1 hw.1.1 hw.1.2.1 hw.2.1 q0 hq hc.1 f hf (hF.1.2.2.2.2 _ hl) (fun _ h9 => h9) hfin hd hn.1 hn.2 hlen hdg (fun H1 locs1 hP hD hS => kk (zup g k i f v) H1 locs1 ?_ h)
    have hps := z_pool_set (g' := zup g k i f v) (e := .inr (z_ci k, (z_obj X N g k i).set f (z_v v))) hw.1.2.1 hq1 (by rw [z_cell_obj hk, he]) (fun k' i' hn => z_cell_congr (fun p' => zup_other hn))
    rw [hps] at hP hD
    refine zH_step hw hP hD (zSz_up hw.1.2.2.1 (fun z => ?_)) hS
    rw [z.1, z.2] at hkf
    cases hkf
  · cases h
/-! rows of numbers -/
theorem zr_iald (hF : zF p s m args meth c X cc nL own) (hw : zH X N g s H locs) {k i : Nat} (hE : zE N k i) (hk : z_ki k = true) {j : Int} {A : Option α} (h : zix j (z_len k) A = some o) (hdg : decode cc pc = .ok (.iaload, 1))
    (kk : A = some o → W p l e R s m args below meth c H locs cells slots Q (F0 m (pc + 1) ls (z_v (g k i j.toNat) :: rest))) : W p l e R s m args below meth c H locs cells slots Q (F0 m pc ls (z_v j :: z_r N k i :: rest)) := by
  obtain ⟨q0, -, hq⟩ := z_place (X := X) (g := g) hE
  rw [z_cell_int hk] at hq
  unfold zix at h
  split at h
  · rename_i hj
    obtain ⟨hin, he⟩ := z_vin (z_len_le k) hj
    refine va_iald hF.1.1 hF.1.2.1 hF.2.1 hw.1.1 q0 0 hq rfl hin hdg ?_
    rw [he]
    exact kk h
  · cases h
theorem zr_zald (hF : zF p s m args meth c X cc nL own) (hw : zH X N g s H locs) {k i : Nat} (hE : zE N k i) (hk : z_isz k = true) {j : Int} {A : Option α} (h : zix j (z_len k) A = some o) (hdg : decode cc pc = .ok (.baload, 1))
    (kk : A = some o → W p l e R s m args below meth c H locs cells slots Q (F0 m (pc + 1) ls (z_v (g k i j.toNat) :: rest))) : W p l e R s m args below meth c H locs cells slots Q (F0 m pc ls (z_v j :: z_r N k i :: rest)) := by
  obtain ⟨q0, -, hq⟩ := z_place (X := X) (g := g) hE
  rw [z_cell_boo hk] at hq
  unfold zix at h
  split at h
  · rename_i hj
    obtain ⟨hin, he⟩ := z_vin (z_len_le k) hj
    refine va_zald hF.1.1 hF.1.2.1 hF.2.1 hw.1.1 q0 1 hq rfl hin hdg ?_
    rw [he]
    exact kk h
  · cases h
theorem z_ki_ne {k : Nat} (hk : z_ki k = true ∨ z_isz k = true) : ¬ (k = 1) := by
  rintro rfl
  rcases hk with h | h <;> cases h
theorem zr_iast (hF : zF p s m args meth c X cc nL own) (hw : zH X N g s H locs) {k i : Nat} (hE : zE N k i) (hk : z_ki k = true) {j v : Int} {F : zG → Option α} (h : zix j (z_len k) (zst g k i j.toNat v F) = some o) (hdg : decode cc pc = .ok (.iastore, 1))
    (kk : ∀ (g : zG) (H : Heap) (locs : List Loc), zH X N g s H locs → F g = some o → W p l e R s m args below meth c H locs cells slots Q (F0 m (pc + 1) ls rest)) : W p l e R s m args below meth c H locs cells slots Q (F0 m pc ls (z_v v :: z_v j :: z_r N k i :: rest)) := by
  obtain ⟨q0, hq1, hq⟩ := z_place (X := X) (g := g) hE
  rw [z_cell_int hk] at hq
  unfold zix at h
  split at h
  · rename_i hj
    obtain ⟨hin, he⟩ := z_vin (z_len_le k) hj
    refine va_iast hF.1.1 hF.1.2.1 hF.2.1 hw.1.1 hw.1.2.1 hw.2.1 q0 0 hq rfl hin hdg (fun H1 locs1 hP hD hS => kk (zup g k i j.toNat v) H1 locs1 ?_ h)
    rw [he] at hP hD
    have hps := z_pool_set (g' := zup g k i j.toNat v) (e := .inl (X.2.1 0, z_len k, .inl (upd (fun j => Int32.ofInt (g k i j)) j.toNat (Int32.ofInt v)))) hw.1.2.1 hq1 (by rw [z_cell_int hk, z_updI]) (fun k' i' hn => z_cell_congr (fun p' => zup_other hn))
    rw [hps] at hP hD
    exact zH_step hw hP hD (zSz_up hw.1.2.2.1 (fun z => z_ki_ne (Or.inl hk) z.1)) hS
  · cases h
theorem zr_zast (hF : zF p s m args meth c X cc nL own) (hw : zH X N g s H locs) {k i : Nat} (hE : zE N k i) (hk : z_isz k = true) {j v : Int} {F : zG → Option α} (h : zbo v (zix j (z_len k) (zst g k i j.toNat v F)) = some o) (hdg : decode cc pc = .ok (.bastore, 1))
    (kk : ∀ (g : zG) (H : Heap) (locs : List Loc), zH X N g s H locs → F g = some o → W p l e R s m args below meth c H locs cells slots Q (F0 m (pc + 1) ls rest)) : W p l e R s m args below meth c H locs cells slots Q (F0 m pc ls (z_v v :: z_v j :: z_r N k i :: rest)) := by
  obtain ⟨q0, hq1, hq⟩ := z_place (X := X) (g := g) hE
  rw [z_cell_boo hk] at hq
  unfold zbo at h
  split at h
  · rename_i hb
    have hv : vp_nar .boolean (Int32.ofInt v) = Int32.ofInt v := by rcases hb with rfl | rfl <;> decide
    unfold zix at h
    split at h
    · rename_i hj
      obtain ⟨hin, he⟩ := z_vin (z_len_le k) hj
      refine va_zast hF.1.1 hF.1.2.1 hF.2.1 hw.1.1 hw.1.2.1 hw.2.1 q0 1 hq rfl hin hdg (fun H1 locs1 hP hD hS => kk (zup g k i j.toNat v) H1 locs1 ?_ h)
      rw [he, hv] at hP hD
      have hps := z_pool_set (g' := zup g k i j.toNat v) (e := .inl (X.2.1 1, z_len k, .inl (upd (fun j => Int32.ofInt (g k i j)) j.toNat (Int32.ofInt v)))) hw.1.2.1 hq1 (by rw [z_cell_boo hk, z_updI]) (fun k' i' hn => z_cell_congr (fun p' => zup_other hn))
      rw [hps] at hP hD
      exact zH_step hw hP hD (zSz_up hw.1.2.2.1 (fun z => z_ki_ne (Or.inr hk) z.1)) hS
    · cases h
  · cases h
theorem zr_alen (hF : zF p s m args meth c X cc nL own) (hw : zH X N g s H locs) {k i : Nat} (hE : zE N k i) (hk : z_ki k = true) {v : Int} (hv : ((z_len k : Nat) : Int) = v) (hdg : decode cc pc = .ok (.arraylength, 1))
    (kk : W p l e R s m args below meth c H locs cells slots Q (F0 m (pc + 1) ls (z_v v :: rest))) : W p l e R s m args below meth c H locs cells slots Q (F0 m pc ls (z_r N k i :: rest)) := by
  obtain ⟨q0, -, hq⟩ := z_place (X := X) (g := g) hE
  rw [z_cell_int hk] at hq
  subst hv
  exact va_alen (ty := .int) hF.1.1 hF.1.2.1 hF.2.1 hw.1.1 q0 0 hq rfl (v := Int32.ofInt (z_len k)) rfl hdg kk
/-! ends -/
theorem zr_iret (hF : zF p s m args meth c X cc nL own) (hr : meth.sig.returnType = some .int) (hw : zH X N g s H locs) {x r : Int} {g' : zG} (h : (some (x, g) : Option (Int × zG)) = some (r, g')) (hdg : decode cc pc = .ok (.ireturn, 1)) : W p l e R s m args below meth c H locs cells slots (MQ below (zQi X N r g') args s cells slots (zA X)) (F0 m pc ls [z_v x]) := by
  cases h
  exact W.iret (v := Int32.ofInt x) hF.1.1 hF.1.2.1 hr (fun t ht hW => ⟨⟨Int32.ofInt x, (), rfl, rfl, by rw [ht]; exact hw.1, va_K.moved hW.alike hF.2.1, zS_pass hF.2.2.1 hw.2.1 hW ht⟩, hw.2.1.F ht⟩) hw.2.1.2.2 hdg hF.2.2.2
theorem zr_zret (hF : zF p s m args meth c X cc nL own) (hr : meth.sig.returnType = some .boolean) (hw : zH X N g s H locs) {x r : Int} {g' : zG} (h : zbo x (some (x, g) : Option (Int × zG)) = some (r, g')) (hdg : decode cc pc = .ok (.ireturn, 1)) : W p l e R s m args below meth c H locs cells slots (MQ below (zQi X N r g') args s cells slots (zA X)) (F0 m pc ls [z_v x]) := by
  unfold zbo at h
  split at h
  · rename_i hb
    cases h
    exact W.zret (v := Int32.ofInt x) hF.1.1 hF.1.2.1 hr (by rcases hb with rfl | rfl <;> decide) (fun t ht hW => ⟨⟨Int32.ofInt x, (), rfl, rfl, by rw [ht]; exact hw.1, va_K.moved hW.alike hF.2.1, zS_pass hF.2.2.1 hw.2.1 hW ht⟩, hw.2.1.F ht⟩) hw.2.1.2.2 hdg hF.2.2.2
  · cases h
theorem zr_vret (hF : zF p s m args meth c X cc nL own) (hr : meth.sig.returnType = none) (hw : zH X N g s H locs) {r : Int} {g' : zG} (h : (some (0, g) : Option (Int × zG)) = some (r, g')) (hdg : decode cc pc = .ok (.return_, 1)) : W p l e R s m args below meth c H locs cells slots (MQ below (zQv X N g') args s cells slots (zA X)) (F0 m pc ls []) := by
  cases h
  exact W.vret hF.1.1 hF.1.2.1 hr (fun t ht hW => ⟨⟨(), rfl, trivial, by rw [ht]; exact hw.1, va_K.moved hW.alike hF.2.1, zS_pass hF.2.2.1 hw.2.1 hW ht⟩, hw.2.1.F ht⟩) hw.2.1.2.2 hdg hF.2.2.2
/-! calls -/
theorem z_recv (hF : zF p s m args meth c X cc nL own) (hw : zH X N g s H locs) {k i : Nat} (hE : zE N k i) (hk : k < 10) {C : String} {T : u_T} {n : Nat} (hc : zCls k C T n) : ∃ cell : Cell, H[N.1 k i]? = some cell ∧ cell.vm.isStatics = false ∧ s.vm.findClass C = some cell.cls := by
  obtain ⟨q0, -, hq⟩ := z_place (X := X) (g := g) hE
  rw [z_cell_obj hk] at hq
  exact va_recv (q := (C, T, n)) hF.2.1 hw.1.1 hc.1 hq
theorem z_pre (hF : zF p s m args meth c X cc nL own) (hw : zH X N g s H locs) {av : List Value} : ∀ U : State, U.heap = H → s.WarmedH U.vm → va_Pc av (fun U => zU X N g U) av.toArray U :=
  fun U hU hW => ⟨rfl, by rw [hU]; exact hw.1, va_K.moved hW.alike hF.2.1, zS_pass hF.2.2.1 hw.2.1 hW hU⟩
theorem zH_back {g' : zG} {N' : zN} {H1 : Heap} {locs1 : List Loc} {t : State} (hw : zH X N g s H locs) (ht : t.heap = H1) (hU : zU X N' g' t) (hS : va_S (zA X) s.heap H1 locs1) : zH X N' g' s H1 locs1 := ⟨by rw [← ht]; exact hU.1, hS, hw.2.2⟩
theorem zr_callVi (hF : zF p s m args meth c X cc nL own) (hw : zH X N g s H locs) {y : MethodName} {b : ByteArray} {mL n idx : Nat} {rt : Option FieldType} {rm : Room} {k i : Nat} {As : List Value} {r : Int} {g' : zG} (hM : zM l y b mL rt rm X N g (z_r N k i :: As) (zQi X N r g')) (hE : zE N k i) (hk : k < 10) {C : String} {T : u_T} {n9 : Nat} (hc : zCls k C T n9)
    (hG : GoodIn lw_G (wsV own idx C y (zws y b mL rt))) (hd : y.cls = C ∧ y.cls ≠ "java/lang/invoke/MethodHandle" ∧ y.cls ≠ "java/lang/invoke/VarHandle" ∧ (parseMethodDescriptor y.desc).map (fun d => d.parameters.length) = some n) (hR : rm.frames + 1 ≤ R.frames ∧ 8 + (mL + 11) + rm.locals ≤ R.locals) (hz : rm.cells = 0 ∧ rm.slots = 0) (hn : As.length = n) (hl : ls.size = nL) {st0 : List Value} (hst : st0 = As.reverse ++ z_r N k i :: rest) (hrest : (rest.map fun v => v.category).sum ≤ 8) (hdg : decode cc pc = .ok (.invokevirtual idx, 3)) (hcs : cells ≤ R.cells ∧ slots ≤ R.slots)
    (kk : ∀ (H : Heap) (locs : List Loc), zH X N g' s H locs → W p l e R s m args below meth c H locs cells slots Q (F0 m (pc + 3) ls (z_v r :: rest))) : W p l e R s m args below meth c H locs cells slots Q (F0 m pc ls st0) := by
  refine va_calli (va_runV (As := As) (rest := rest) hF.1 hM (cwV n hF.1.2.2.2.2 hG rfl hz.1 hz.2 hd hR) ⟨zU_blind, z_recv hF hw hE hk hc, z_pre hF hw⟩ rfl hn hl hst (lv_room hrest) hdg hcs) hw.2.1 (fun q _ h => h) (fun q h => h) (fun r' u t H1 locs1 ht hvm hp hB hz1 hk1 hS => ?_)
  rw [hp]
  exact kk H1 locs1 (zH_back hw ht hB hS)
theorem zr_callVv (hF : zF p s m args meth c X cc nL own) (hw : zH X N g s H locs) {y : MethodName} {b : ByteArray} {mL n idx : Nat} {rt : Option FieldType} {rm : Room} {k i : Nat} {As : List Value} {g' : zG} (hM : zM l y b mL rt rm X N g (z_r N k i :: As) (zQv X N g')) (hE : zE N k i) (hk : k < 10) {C : String} {T : u_T} {n9 : Nat} (hc : zCls k C T n9)
    (hG : GoodIn lw_G (wsV own idx C y (zws y b mL rt))) (hd : y.cls = C ∧ y.cls ≠ "java/lang/invoke/MethodHandle" ∧ y.cls ≠ "java/lang/invoke/VarHandle" ∧ (parseMethodDescriptor y.desc).map (fun d => d.parameters.length) = some n) (hR : rm.frames + 1 ≤ R.frames ∧ 8 + (mL + 11) + rm.locals ≤ R.locals) (hz : rm.cells = 0 ∧ rm.slots = 0) (hn : As.length = n) (hl : ls.size = nL) {st0 : List Value} (hst : st0 = As.reverse ++ z_r N k i :: rest) (hrest : (rest.map fun v => v.category).sum ≤ 8) (hdg : decode cc pc = .ok (.invokevirtual idx, 3)) (hcs : cells ≤ R.cells ∧ slots ≤ R.slots)
    (kk : ∀ (H : Heap) (locs : List Loc), zH X N g' s H locs → W p l e R s m args below meth c H locs cells slots Q (F0 m (pc + 3) ls rest)) : W p l e R s m args below meth c H locs cells slots Q (F0 m pc ls st0) := by
  refine va_callv (va_runV (As := As) (rest := rest) hF.1 hM (cwV n hF.1.2.2.2.2 hG rfl hz.1 hz.2 hd hR) ⟨zU_blind, z_recv hF hw hE hk hc, z_pre hF hw⟩ rfl hn hl hst (lv_room hrest) hdg hcs) hw.2.1 (fun q _ h => h) (fun q h => h) (fun u t H1 locs1 ht hvm hp hB hz1 hk1 hS => ?_)
  exact kk H1 locs1 (zH_back hw ht hB hS)
theorem zr_callVr (hF : zF p s m args meth c X cc nL own) (hw : zH X N g s H locs) {y : MethodName} {b : ByteArray} {mL n idx : Nat} {rt : Option FieldType} {rm : Room} {k i kr : Nat} {As : List Value} {r : Int} {g' : zG} (hM : zM l y b mL rt rm X N g (z_r N k i :: As) (zQr X N kr r g')) (hE : zE N k i) (hk : k < 10) {C : String} {T : u_T} {n9 : Nat} (hc : zCls k C T n9)
    (hG : GoodIn lw_G (wsV own idx C y (zws y b mL rt))) (hd : y.cls = C ∧ y.cls ≠ "java/lang/invoke/MethodHandle" ∧ y.cls ≠ "java/lang/invoke/VarHandle" ∧ (parseMethodDescriptor y.desc).map (fun d => d.parameters.length) = some n) (hR : rm.frames + 1 ≤ R.frames ∧ 8 + (mL + 11) + rm.locals ≤ R.locals) (hz : rm.cells = 0 ∧ rm.slots = 0) (hn : As.length = n) (hl : ls.size = nL) {st0 : List Value} (hst : st0 = As.reverse ++ z_r N k i :: rest) (hrest : (rest.map fun v => v.category).sum ≤ 8) (hdg : decode cc pc = .ok (.invokevirtual idx, 3)) (hcs : cells ≤ R.cells ∧ slots ≤ R.slots)
    (kk : ∀ (H : Heap) (locs : List Loc), zH X N g' s H locs → zE N kr r.toNat → W p l e R s m args below meth c H locs cells slots Q (F0 m (pc + 3) ls (z_r N kr r.toNat :: rest))) : W p l e R s m args below meth c H locs cells slots Q (F0 m pc ls st0) := by
  refine va_callr (va_runV (As := As) (rest := rest) hF.1 hM (cwV n hF.1.2.2.2.2 hG rfl hz.1 hz.2 hd hR) ⟨zU_blind, z_recv hF hw hE hk hc, z_pre hF hw⟩ rfl hn hl hst (lv_room hrest) hdg hcs) hw.2.1 (fun q _ h => h) (fun q h => h) (fun u ra t H1 locs1 ht hvm hp hB hz1 hk1 hS => ?_)
  obtain ⟨rfl, hE2, hU⟩ := hB
  exact kk H1 locs1 (zH_back hw ht hU hS) hE2
theorem zr_callSi (hF : zF p s m args meth c X cc nL own) (hw : zH X N g s H locs) {y : MethodName} {b : ByteArray} {mL n idx : Nat} {rt : Option FieldType} {rm : Room} {As : List Value} {r : Int} {g' : zG} (hM : zM l y b mL rt rm X N g As (zQi X N r g'))
    (hG : GoodIn lw_G (va_wsS own idx y (zws y b mL rt))) (hd : y.cls ≠ "java/lang/invoke/MethodHandle" ∧ y.cls ≠ "java/lang/invoke/VarHandle" ∧ (parseMethodDescriptor y.desc).map (fun d => d.parameters.length) = some n) (hR : rm.frames + 1 ≤ R.frames ∧ 8 + (mL + 11) + rm.locals ≤ R.locals) (hz : rm.cells = 0 ∧ rm.slots = 0) (hn : As.length = n) (hl : ls.size = nL) {st0 : List Value} (hst : st0 = As.reverse ++ rest) (hrest : (rest.map fun v => v.category).sum ≤ 8) (hdg : decode cc pc = .ok (.invokestatic idx, 3)) (hcs : cells ≤ R.cells ∧ slots ≤ R.slots)
    (kk : ∀ (H : Heap) (locs : List Loc), zH X N g' s H locs → W p l e R s m args below meth c H locs cells slots Q (F0 m (pc + 3) ls (z_v r :: rest))) : W p l e R s m args below meth c H locs cells slots Q (F0 m pc ls st0) := by
  refine va_calli (va_runS (As := As) (rest := rest) hF.1 hM (va_cwS n hF.1.2.2.2.2 hG rfl hz.1 hz.2 hd hR) ⟨zU_blind, z_pre hF hw⟩ rfl hn hl hst (lv_room hrest) hdg hcs) hw.2.1 (fun q _ h => h) (fun q h => h) (fun r' u t H1 locs1 ht hvm hp hB hz1 hk1 hS => ?_)
  rw [hp]
  exact kk H1 locs1 (zH_back hw ht hB hS)
end ZR
end
section
/-! more rows: lists, Math, casts, named numbers -/
theorem z_inG {ws : List Cond} (ps : List Nat) (hp : ws = ps.filterMap (fun i => lw_tbl[i]?)) (h : ws.all goodWord = true) : ∀ w ∈ ws, w ∈ lw_G := by
  intro w hw
  have h1 := List.all_eq_true.mp h w hw
  rw [hp] at hw
  obtain ⟨i, -, hi⟩ := List.mem_filterMap.mp hw
  exact List.mem_filter.mpr ⟨List.mem_of_getElem? hi, h1⟩
theorem zC_0 : zCls 0 RX4 TX4 4 := ⟨rfl, z_inG [149, 151, 153, 155] (by decide +kernel) (by decide +kernel), nmX4, tyX4, tyX4_ok⟩
theorem zC_1 : zCls 1 RJx4a65c TJx4a65c 3 := ⟨rfl, z_inG [88, 84, 86] (by decide +kernel) (by decide +kernel), nmJx4a65c, tyJx4a65c, tyJx4a65c_ok⟩
theorem zC_2 : zCls 2 RX0 TX0 5 := ⟨rfl, z_inG [132, 134, 136, 138, 140] (by decide +kernel) (by decide +kernel), nmX0, tyX0, tyX0_ok⟩
theorem zC_3 : zCls 3 RX2 TX2 5 := ⟨rfl, z_inG [110, 112, 114, 116, 118] (by decide +kernel) (by decide +kernel), nmX2, tyX2, tyX2_ok⟩
theorem zC_4 : zCls 4 RX1 TX1 14 := ⟨rfl, z_inG [449, 451, 453, 455, 457, 459, 461, 463, 465, 467, 469, 471, 473, 475] (by decide +kernel) (by decide +kernel), nmX1, tyX1, tyX1_ok⟩
theorem zC_5 : zCls 5 RX3 TX3 5 := ⟨rfl, z_inG [677, 679, 681, 683, 685] (by decide +kernel) (by decide +kernel), nmX3, tyX3, tyX3_ok⟩
theorem zC_6 : zCls 6 RX5 TX5 30 := ⟨rfl, z_inG [852, 854, 856, 858, 860, 862, 864, 866, 868, 870, 872, 874, 876, 878, 880, 882, 884, 886, 888, 890, 892, 894, 896, 898, 900, 902, 904, 906, 908, 910] (by decide +kernel) (by decide +kernel), nmX5, tyX5, tyX5_ok⟩
theorem zEf_0_0 {N : zN} : zE N 0 0 := zE_fix (by decide)
theorem zEf_1_0 {N : zN} : zE N 1 0 := zE_fix (by decide)
theorem zEf_1_1 {N : zN} : zE N 1 1 := zE_fix (by decide)
theorem zEf_2_0 {N : zN} : zE N 2 0 := zE_fix (by decide)
theorem zEf_3_0 {N : zN} : zE N 3 0 := zE_fix (by decide)
theorem zEf_3_1 {N : zN} : zE N 3 1 := zE_fix (by decide)
theorem zEf_3_2 {N : zN} : zE N 3 2 := zE_fix (by decide)
theorem zEf_6_0 {N : zN} : zE N 6 0 := zE_fix (by decide)
theorem zEf_17_0 {N : zN} : zE N 17 0 := zE_fix (by decide)
theorem zEf_10_0 {N : zN} : zE N 10 0 := zE_fix (by decide)
theorem zEf_10_1 {N : zN} : zE N 10 1 := zE_fix (by decide)
theorem zEf_10_2 {N : zN} : zE N 10 2 := zE_fix (by decide)
theorem zEf_11_0 {N : zN} : zE N 11 0 := zE_fix (by decide)
theorem zEf_11_1 {N : zN} : zE N 11 1 := zE_fix (by decide)
theorem zEf_11_2 {N : zN} : zE N 11 2 := zE_fix (by decide)
theorem zEf_12_0 {N : zN} : zE N 12 0 := zE_fix (by decide)
theorem zEf_12_1 {N : zN} : zE N 12 1 := zE_fix (by decide)
theorem zEf_12_2 {N : zN} : zE N 12 2 := zE_fix (by decide)
theorem zEf_13_0 {N : zN} : zE N 13 0 := zE_fix (by decide)
theorem zEf_13_1 {N : zN} : zE N 13 1 := zE_fix (by decide)
theorem zEf_13_2 {N : zN} : zE N 13 2 := zE_fix (by decide)
theorem zEf_20_0 {N : zN} : zE N 20 0 := zE_fix (by decide)
theorem zEf_21_0 {N : zN} : zE N 21 0 := zE_fix (by decide)
theorem zEf_22_0 {N : zN} : zE N 22 0 := zE_fix (by decide)
theorem zEf_23_0 {N : zN} : zE N 23 0 := zE_fix (by decide)
theorem zEf_24_0 {N : zN} : zE N 24 0 := zE_fix (by decide)
theorem zEf_25_0 {N : zN} : zE N 25 0 := zE_fix (by decide)
theorem zEf_26_0 {N : zN} : zE N 26 0 := zE_fix (by decide)
theorem zEf_27_0 {N : zN} : zE N 27 0 := zE_fix (by decide)
theorem zEf_28_0 {N : zN} : zE N 28 0 := zE_fix (by decide)
theorem zEf_29_0 {N : zN} : zE N 29 0 := zE_fix (by decide)
theorem zEf_30_0 {N : zN} : zE N 30 0 := zE_fix (by decide)
theorem zEf_31_0 {N : zN} : zE N 31 0 := zE_fix (by decide)
theorem zEf_32_0 {N : zN} : zE N 32 0 := zE_fix (by decide)
theorem zEf_33_0 {N : zN} : zE N 33 0 := zE_fix (by decide)
theorem zEf_34_0 {N : zN} : zE N 34 0 := zE_fix (by decide)
theorem zEf_35_0 {N : zN} : zE N 35 0 := zE_fix (by decide)
theorem zEf_36_0 {N : zN} : zE N 36 0 := zE_fix (by decide)
theorem zEf_37_0 {N : zN} : zE N 37 0 := zE_fix (by decide)
theorem zEf_38_0 {N : zN} : zE N 38 0 := zE_fix (by decide)
theorem zEf_39_0 {N : zN} : zE N 39 0 := zE_fix (by decide)
theorem zEf_40_0 {N : zN} : zE N 40 0 := zE_fix (by decide)
theorem zEf_41_0 {N : zN} : zE N 41 0 := zE_fix (by decide)
theorem qm_max1 : Cond.static Lib.Math.max.name ∈ lw_G := List.mem_filter.mpr ⟨List.mem_of_getElem? (i := 266) (by decide +kernel), by decide +kernel⟩
theorem qm_max2 : Cond.code Lib.Math.max.name Lib.Math.max.code 2 (some .int) ∈ lw_G := List.mem_filter.mpr ⟨List.mem_of_getElem? (i := 267) (by decide +kernel), by decide +kernel⟩
theorem qm_min1 : Cond.static Lib.Math.min.name ∈ lw_G := List.mem_filter.mpr ⟨List.mem_of_getElem? (i := 258) (by decide +kernel), by decide +kernel⟩
theorem qm_min2 : Cond.code Lib.Math.min.name Lib.Math.min.code 2 (some .int) ∈ lw_G := List.mem_filter.mpr ⟨List.mem_of_getElem? (i := 259) (by decide +kernel), by decide +kernel⟩
section ZR2
variable {p : Program} {l : Launch} {e : Env} {R : Room} {s : State} {m : MethodId} {args : Array Value} {below : List Frame} {meth : Method} {c : Code} {H : Heap} {locs : List Loc} {cells slots : Nat} {Q : State → Prop}
variable {cc : ByteArray} {pc nL : Nat} {ls : Array Slot} {rest : List Value} {own : String} {X : zC} {N : zN} {g : zG} {α : Type} {o : α}
theorem zr_let {x : Int} {F : Int → Option α} (h : zlet x F = some o) (kk : ∀ y : Int, F y = some o → W p l e R s m args below meth c H locs cells slots Q (F0 m pc ls (z_v y :: rest))) : W p l e R s m args below meth c H locs cells slots Q (F0 m pc ls (z_v x :: rest)) := kk x h
theorem zr_iinc (hF : zF p s m args meth c X cc nL own) {i k : Nat} {n x : Int} {lv : List (Nat × Value)} {lv' : Int → List (Nat × Value)} {F : Int → Option α} (h : zlet (x + n) F = some o) (hdg : decode cc pc = .ok (.iinc i n, 3)) (hl : lv_has ls nL lv) (hk : lv[k]? = some (i, z_v x)) (hn : i < nL) (hv : ∀ y : Int, (i, z_v y) :: lv.filter (fun q => !(q.1 == i) && !(q.1 + 1 == i && q.2.category == 2)) = lv' y)
    (kk : ∀ (y : Int) (ls : Array Slot), lv_has ls nL (lv' y) → F y = some o → W p l e R s m args below meth c H locs cells slots Q (F0 m (pc + 3) ls rest)) : W p l e R s m args below meth c H locs cells slots Q (F0 m pc ls rest) :=
  lv_iinc (v := Int32.ofInt (x + n)) (lv' := lv' (x + n)) hF.1.1 hF.1.2.1 hdg hl hk (Int32.ofInt_add x n).symm hn (hv _) (fun ls' hl' => kk (x + n) ls' hl' h)
theorem zr_case {P : Prop} {x y : Int} {A B : Option α} (h : zeq x y A B = some o) (kA : x = y → A = some o → P) (kB : ¬ x = y → zIn x → B = some o → P) : P := by
  unfold zeq at h
  split at h
  · rename_i q
    split at h
    · rename_i z
      exact kA z h
    · rename_i z
      exact kB z q.1 h
  · cases h
theorem zr_cast (hF : zF p s m args meth c X cc nL own) (hw : zH X N g s H locs) {k i : Nat} (hE : zE N k i) (hk : k < 10) {C : String} {T : u_T} {n idx : Nat} (hc : zCls k C T n) (hl : Cond.classLink own idx C ∈ lw_G) (hdg : decode cc pc = .ok (.checkcast idx, 3))
    (kk : W p l e R s m args below meth c H locs cells slots Q (F0 m (pc + 3) ls (z_r N k i :: rest))) : W p l e R s m args below meth c H locs cells slots Q (F0 m pc ls (z_r N k i :: rest)) :=
  va_castS hF.1.1 hF.1.2.1 hF.1.2.2.2.1 (hF.1.2.2.2.2 _ hl) (hF.2.1.1 _ _ hc.1).2 (z_recv hF hw hE hk hc) hdg kk
theorem zr_max (hF : zF p s m args meth c X cc nL own) (hl : ls.size = nL) {x y : Int} {idx : Nat} (hlink : Cond.methodLink own idx Lib.Math.max.name ∈ lw_G) {A : Option α} (h : zri x (zri y A) = some o) (hdg : decode cc pc = .ok (.invokestatic idx, 3)) (hR : 1 ≤ R.frames ∧ 21 ≤ R.locals) (hrest : (rest.map fun v => v.category).sum ≤ 8) (hcs : cells ≤ R.cells ∧ slots ≤ R.slots)
    (kk : A = some o → W p l e R s m args below meth c H locs cells slots Q (F0 m (pc + 3) ls (z_v (max x y) :: rest))) : W p l e R s m args below meth c H locs cells slots Q (F0 m pc ls (z_v y :: z_v x :: rest)) := by
  unfold zri at h
  split at h
  · rename_i hx
    split at h
    · rename_i hy
      have hm : (if Int32.ofInt x < Int32.ofInt y then Int32.ofInt y else Int32.ofInt x) = Int32.ofInt (max x y) := by
        by_cases c9 : x < y
        · rw [if_pos ((z_lt hx hy).mpr c9), Int.max_eq_right (by omega)]
        · rw [if_neg (fun z => c9 ((z_lt hx hy).mp z)), Int.max_eq_left (by omega)]
      refine va_mmax hF.1.1 hF.1.2.1 (hF.1.2.2.1.trans hl.symm) hF.1.2.2.2.1 (hF.1.2.2.2.2 _ hlink) (hF.1.2.2.2.2 _ qm_max1) (hF.1.2.2.2.2 _ qw_51) (hF.1.2.2.2.2 _ qm_max2) hR.1 (by omega) hcs.1 hcs.2 hdg ?_
      rw [hm]
      exact kk h
    · cases h
  · cases h
theorem zr_min (hF : zF p s m args meth c X cc nL own) (hl : ls.size = nL) {x y : Int} {idx : Nat} (hlink : Cond.methodLink own idx Lib.Math.min.name ∈ lw_G) {A : Option α} (h : zri x (zri y A) = some o) (hdg : decode cc pc = .ok (.invokestatic idx, 3)) (hR : 1 ≤ R.frames ∧ 21 ≤ R.locals) (hrest : (rest.map fun v => v.category).sum ≤ 8) (hcs : cells ≤ R.cells ∧ slots ≤ R.slots)
    (kk : A = some o → W p l e R s m args below meth c H locs cells slots Q (F0 m (pc + 3) ls (z_v (min x y) :: rest))) : W p l e R s m args below meth c H locs cells slots Q (F0 m pc ls (z_v y :: z_v x :: rest)) := by
  unfold zri at h
  split at h
  · rename_i hx
    split at h
    · rename_i hy
      have hm : (if Int32.ofInt y < Int32.ofInt x then Int32.ofInt y else Int32.ofInt x) = Int32.ofInt (min x y) := by
        by_cases c9 : y < x
        · rw [if_pos ((z_lt hy hx).mpr c9), Int.min_eq_right (by omega)]
        · rw [if_neg (fun z => c9 ((z_lt hy hx).mp z)), Int.min_eq_left (by omega)]
      refine va_mmin hF.1.1 hF.1.2.1 (hF.1.2.2.1.trans hl.symm) hF.1.2.2.2.1 (hF.1.2.2.2.2 _ hlink) (hF.1.2.2.2.2 _ qm_min1) (hF.1.2.2.2.2 _ qw_51) (hF.1.2.2.2.2 _ qm_min2) hR.1 (by omega) hcs.1 hcs.2 hdg ?_
      rw [hm]
      exact kk h
    · cases h
  · cases h
end ZR2
/-! the JDK's lists: size, get -/
set_option maxHeartbeats 4000000 in
set_option maxRecDepth 100000 in
theorem c_size (l : Launch) (X : zC) (N : zN) {g : zG} {i : Nat} (hE : zE N 1 i) : zM l yJx4a65c_size_8abf5 cJx4a65c_size_8abf5 1 (some .int) { frames := 0, cells := 0, slots := 0, locals := 0 } X N g [z_r N 1 i] (zQi X N (g 1 i 2) g) := by
  refine z_ofW (own := RJx4a65c) (by decide +kernel) rfl (Nat.le_of_ble_eq_true rfl) ?_
  intro p e s m args below meth c ls hF hr hw hl
  have hl : lv_has ls 1 [(0, z_r N 1 i)] := hl
  have hx := hF.1.1
  have hb := hF.1.2.1
  refine lv_aload_n hx hb dJx4a65c_size_8abf5_0 rfl (lv_at hl 0 rfl) ?_
  refine zr_get hF hw hE (by decide) zC_1 2 (by decide) qw_80 rfl dJx4a65c_size_8abf5_1 ?_
  exact zr_iret hF hr hw rfl dJx4a65c_size_8abf5_4
set_option maxHeartbeats 4000000 in
set_option maxRecDepth 100000 in
theorem c_chk3 (l : Launch) (X : zC) (N : zN) {g : zG} {j n : Int} (hj : 0 ≤ j ∧ j < n) (hn : zIn n) : zM l yJ3_checkIndex_8e157 cJ3_checkIndex_8e157 3 (some .int) { frames := 0, cells := 0, slots := 0, locals := 0 } X N g [z_v j, z_v n, .null] (zQi X N j g) := by
  refine z_ofW (own := RJ3) (by decide +kernel) rfl (Nat.le_of_ble_eq_true rfl) ?_
  intro p e s m args below meth c ls hF hr hw hl
  have hl : lv_has ls 3 [(0, z_v j), (1, z_v n), (2, .null)] := hl
  have hx := hF.1.1
  have hb := hF.1.2.1
  refine lv_iload_n hx hb dJ3_checkIndex_8e157_0 rfl (lv_at hl 0 rfl) ?_
  refine lv_if_lt (tgt := 9) hx hb dJ3_checkIndex_8e157_1 (by decide) (fun z => ?_) (fun _ => ?_)
  · exact absurd ((z_lt (x := j) (y := 0) ⟨by omega, by omega⟩ (by decide)).mp z) (by omega)
  refine lv_iload_n hx hb dJ3_checkIndex_8e157_4 rfl (lv_at hl 0 rfl) ?_
  refine lv_iload_n hx hb dJ3_checkIndex_8e157_5 rfl (lv_at hl 1 rfl) ?_
  refine lv_icmp_lt (tgt := 16) hx hb dJ3_checkIndex_8e157_6 (by decide) (fun _ => ?_) (fun z => ?_)
  · refine lv_iload_n hx hb dJ3_checkIndex_8e157_16 rfl (lv_at hl 0 rfl) ?_
    exact zr_iret hF hr hw rfl dJ3_checkIndex_8e157_17
  · exact absurd ((z_lt (x := j) (y := n) ⟨by omega, by omega⟩ hn).mpr hj.2) z
set_option maxHeartbeats 4000000 in
set_option maxRecDepth 100000 in
theorem c_chk2 (l : Launch) (X : zC) (N : zN) {g : zG} {j n : Int} (hj : 0 ≤ j ∧ j < n) (hn : zIn n) : zM l yJ15_checkIndex_7cf53 cJ15_checkIndex_7cf53 2 (some .int) { frames := 1, cells := 0, slots := 0, locals := 22 } X N g [z_v j, z_v n] (zQi X N j g) := by
  refine z_ofW (own := RJ15) (by decide +kernel) rfl (Nat.le_of_ble_eq_true rfl) ?_
  intro p e s m args below meth c ls hF hr hw hl
  have hl : lv_has ls 2 [(0, z_v j), (1, z_v n)] := hl
  have hx := hF.1.1
  have hb := hF.1.2.1
  refine lv_iload_n hx hb dJ15_checkIndex_7cf53_0 rfl (lv_at hl 0 rfl) ?_
  refine lv_iload_n hx hb dJ15_checkIndex_7cf53_1 rfl (lv_at hl 1 rfl) ?_
  refine lv_null hx hb dJ15_checkIndex_7cf53_2 ?_
  refine zr_callSi (n := 3) (As := [z_v j, z_v n, .null]) (rest := []) hF hw (c_chk3 l X N hj hn) (z_goodS qw_177 qw_178 qw_55 qw_179) (by decide +kernel) ⟨Nat.le_of_ble_eq_true rfl, Nat.le_of_ble_eq_true rfl⟩ ⟨rfl, rfl⟩ rfl hl.1 rfl (Nat.le_of_ble_eq_true rfl) dJ15_checkIndex_7cf53_3 ⟨Nat.le_of_ble_eq_true rfl, Nat.le_of_ble_eq_true rfl⟩ (fun H locs hw => ?_)
  exact zr_iret hF hr hw rfl dJ15_checkIndex_7cf53_6
theorem zr_aret {p : Program} {l : Launch} {e : Env} {R : Room} {s : State} {m : MethodId} {args : Array Value} {below : List Frame} {meth : Method} {c : Code} {H : Heap} {locs : List Loc} {cells slots : Nat} {cc : ByteArray} {pc nL : Nat} {ls : Array Slot} {own : String} {X : zC} {N : zN} {g : zG} (hF : zF p s m args meth c X cc nL own) {rt : FieldType} (hr : meth.sig.returnType = some rt) (hw : zH X N g s H locs) {k : Nat} {x r : Int} {g' : zG} (hE : zE N k x.toNat) (h : (some (x, g) : Option (Int × zG)) = some (r, g')) (hn : (∃ n, rt = .object n) ∨ ∃ t, rt = .array t) (hdg : decode cc pc = .ok (.areturn, 1)) : W p l e R s m args below meth c H locs cells slots (MQ below (zQr X N k r g') args s cells slots (zA X)) (F0 m pc ls [z_r N k x.toNat]) := by
  cases h
  exact W.aret (v := .ref (N.1 k x.toNat)) hF.1.1 hF.1.2.1 hr hn (Or.inr ⟨_, rfl⟩) (fun t ht hW => ⟨⟨(), N.1 k x.toNat, rfl, trivial, rfl, hE, by rw [ht]; exact hw.1, va_K.moved hW.alike hF.2.1, zS_pass hF.2.2.1 hw.2.1 hW ht⟩, hw.2.1.F ht⟩) hw.2.1.2.2 hdg hF.2.2.2
set_option maxHeartbeats 4000000 in
set_option maxRecDepth 100000 in
theorem c_elem (l : Launch) (X : zC) (N : zN) {g : zG} {i : Nat} (hi : i = 0 ∨ i = 1) {j : Int} (hj : 0 ≤ j ∧ j < g 1 i 2) : zM l yJx4a65c_elementData_915e3 cJx4a65c_elementData_915e3 2 (some (.object "java/lang/Object")) { frames := 0, cells := 0, slots := 0, locals := 0 } X N g [z_r N 1 i, z_v j] (zQr X N (4 + i) j g) := by
  refine z_ofW (own := RJx4a65c) (by decide +kernel) rfl (Nat.le_of_ble_eq_true rfl) ?_
  intro p e s m args below meth c ls hF hr hw hl
  have hl : lv_has ls 2 [(0, z_r N 1 i), (1, z_v j)] := hl
  have hx := hF.1.1
  have hb := hF.1.2.1
  have hE : zE N 1 i := hi.elim (fun z => by rw [z]; exact zEf_1_0) (fun z => by rw [z]; exact zEf_1_1)
  obtain ⟨s1, s2, s3, s4, s5, s6, s7, s8⟩ := hw.1.2.2.1
  have hlt : j.toNat < N.2 i ∧ N.2 i ≤ N.2 (2 + i) ∧ N.2 (2 + i) ≤ 40 := by
    rcases hi with rfl | rfl
    · rw [s1] at hj; exact ⟨by omega, s5, s7⟩
    · rw [s2] at hj; exact ⟨by omega, s6, s8⟩
  have hE2 : zE N 16 i := zE_iff.mpr ⟨by decide, by rcases hi with rfl | rfl <;> decide, by
    have h1 : i < 2 := by omega
    have h2 : N.2 (2 + i) ≠ 0 := by omega
    simp [z_ex, h1, h2]⟩
  have hE4 : zE N (4 + i) j.toNat := by
    rcases hi with rfl | rfl
    · exact zE_fl hw.1.2.2.1 hlt.1
    · exact zE_rg hw.1.2.2.1 hlt.1
  refine lv_aload_n hx hb dJx4a65c_elementData_915e3_0 rfl (lv_at hl 0 rfl) ?_
  refine zr_get (v := z_r N 16 i) hF hw hE (by decide) zC_1 1 (by decide) qw_79 (by
    have h2 : ¬ N.2 (2 + i) = 0 := by omega
    simp [z_obj, h2]) dJx4a65c_elementData_915e3_1 ?_
  refine lv_iload_n hx hb dJx4a65c_elementData_915e3_4 rfl (lv_at hl 1 rfl) ?_
  obtain ⟨q0, -, hq⟩ := z_place (X := X) (g := g) hE2
  obtain ⟨hin, he⟩ := z_vin (j := j) (n := N.2 (2 + i)) (by omega) ⟨hj.1, by omega⟩
  refine va_aldq (f := fun j => if j < N.2 i then some (N.1 (4 + i) j) else none) (n := N.2 (2 + i)) hx hb hF.2.1 hw.1.1 q0 3 hq rfl hin dJx4a65c_elementData_915e3_5 ?_
  rw [he]
  have hv : va_rf (if j.toNat < N.2 i then some (N.1 (4 + i) j.toNat) else none) = z_r N (4 + i) j.toNat := by rw [if_pos hlt.1]; rfl
  rw [hv]
  exact zr_aret hF hr hw hE4 rfl (Or.inl ⟨_, rfl⟩) dJx4a65c_elementData_915e3_6
set_option maxHeartbeats 4000000 in
set_option maxRecDepth 100000 in
theorem c_lget (l : Launch) (X : zC) (N : zN) {g : zG} {i : Nat} (hi : i = 0 ∨ i = 1) {j : Int} (hj : 0 ≤ j ∧ j < g 1 i 2) : zM l yJx4a65c_get_915e3 cJx4a65c_get_915e3 2 (some (.object "java/lang/Object")) { frames := 2, cells := 0, slots := 0, locals := 60 } X N g [z_r N 1 i, z_v j] (zQr X N (4 + i) j g) := by
  refine z_ofW (own := RJx4a65c) (by decide +kernel) rfl (Nat.le_of_ble_eq_true rfl) ?_
  intro p e s m args below meth c ls hF hr hw hl
  have hl : lv_has ls 2 [(0, z_r N 1 i), (1, z_v j)] := hl
  have hx := hF.1.1
  have hb := hF.1.2.1
  have hE : zE N 1 i := hi.elim (fun z => by rw [z]; exact zEf_1_0) (fun z => by rw [z]; exact zEf_1_1)
  have hz : zIn (g 1 i 2) := by
    obtain ⟨s1, s2, s3, s4, -⟩ := hw.1.2.2.1
    rcases hi with rfl | rfl
    · rw [s1]; exact ⟨by omega, by omega⟩
    · rw [s2]; exact ⟨by omega, by omega⟩
  refine lv_iload_n hx hb dJx4a65c_get_915e3_0 rfl (lv_at hl 1 rfl) ?_
  refine lv_aload_n hx hb dJx4a65c_get_915e3_1 rfl (lv_at hl 0 rfl) ?_
  refine zr_get hF hw hE (by decide) zC_1 2 (by decide) qw_80 rfl dJx4a65c_get_915e3_2 ?_
  refine zr_callSi (n := 2) (As := [z_v j, z_v (g 1 i 2)]) (rest := []) hF hw (c_chk2 l X N hj hz) (z_goodS qw_174 qw_175 qw_54 qw_176) (by decide +kernel) ⟨Nat.le_of_ble_eq_true rfl, Nat.le_of_ble_eq_true rfl⟩ ⟨rfl, rfl⟩ rfl hl.1 rfl (Nat.le_of_ble_eq_true rfl) dJx4a65c_get_915e3_5 ⟨Nat.le_of_ble_eq_true rfl, Nat.le_of_ble_eq_true rfl⟩ (fun H locs hw => ?_)
  refine lv_pop hx hb dJx4a65c_get_915e3_8 rfl ?_
  refine lv_aload_n hx hb dJx4a65c_get_915e3_9 rfl (lv_at hl 0 rfl) ?_
  refine lv_iload_n hx hb dJx4a65c_get_915e3_10 rfl (lv_at hl 1 rfl) ?_
  refine zr_callVr (n := 1) (As := [z_v j]) (rest := []) hF hw (c_elem l X N hi hj) hE (by decide) zC_1 (z_goodV qw_180 qw_181 qw_182 qw_39 qw_183) (by decide +kernel) ⟨Nat.le_of_ble_eq_true rfl, Nat.le_of_ble_eq_true rfl⟩ ⟨rfl, rfl⟩ rfl hl.1 rfl (Nat.le_of_ble_eq_true rfl) dJx4a65c_get_915e3_11 ⟨Nat.le_of_ble_eq_true rfl, Nat.le_of_ble_eq_true rfl⟩ (fun H locs hw hE4 => ?_)
  exact zr_aret hF hr hw hE4 rfl (Or.inl ⟨_, rfl⟩) dJx4a65c_get_915e3_14
section ZR3
variable {p : Program} {l : Launch} {e : Env} {R : Room} {s : State} {m : MethodId} {args : Array Value} {below : List Frame} {meth : Method} {c : Code} {H : Heap} {locs : List Loc} {cells slots : Nat} {Q : State → Prop}
variable {cc : ByteArray} {pc nL : Nat} {ls : Array Slot} {rest : List Value} {own : String} {X : zC} {N : zN} {g : zG} {α : Type} {o : α}
theorem zr_size (hF : zF p s m args meth c X cc nL own) (hw : zH X N g s H locs) (hl : ls.size = nL) {i idx : Nat} (hE : zE N 1 i) (hq : Cond.methodLink own idx yJx4a65c_size_8abf5 ∈ lw_G) (hrest : (rest.map fun v => v.category).sum ≤ 8) (hdg : decode cc pc = .ok (.invokevirtual idx, 3)) (hR : 1 ≤ R.frames ∧ 20 ≤ R.locals) (hcs : cells ≤ R.cells ∧ slots ≤ R.slots)
    (kk : ∀ (H : Heap) (locs : List Loc), zH X N g s H locs → W p l e R s m args below meth c H locs cells slots Q (F0 m (pc + 3) ls (z_v (g 1 i 2) :: rest))) : W p l e R s m args below meth c H locs cells slots Q (F0 m pc ls (z_r N 1 i :: rest)) :=
  zr_callVi (n := 0) (As := []) (rest := rest) hF hw (c_size l X N hE) hE (by decide) zC_1 (z_goodV hq qw_167 qw_168 qw_39 qw_169) (by decide +kernel) ⟨hR.1, hR.2⟩ ⟨rfl, rfl⟩ rfl hl rfl hrest hdg hcs kk
theorem zr_lget (hF : zF p s m args meth c X cc nL own) (hw : zH X N g s H locs) (hl : ls.size = nL) {i idx : Nat} (hi : i = 0 ∨ i = 1) (hE : zE N 1 i) (hq : Cond.methodLink own idx yJx4a65c_get_915e3 ∈ lw_G) {j : Int} {A : Option α} (h : zli j (g 1 i 2) A = some o) (hrest : (rest.map fun v => v.category).sum ≤ 8) (hdg : decode cc pc = .ok (.invokevirtual idx, 3)) (hR : 3 ≤ R.frames ∧ 81 ≤ R.locals) (hcs : cells ≤ R.cells ∧ slots ≤ R.slots)
    (kk : ∀ (H : Heap) (locs : List Loc), zH X N g s H locs → zE N (4 + i) j.toNat → A = some o → W p l e R s m args below meth c H locs cells slots Q (F0 m (pc + 3) ls (z_r N (4 + i) j.toNat :: rest))) : W p l e R s m args below meth c H locs cells slots Q (F0 m pc ls (z_v j :: z_r N 1 i :: rest)) := by
  unfold zli at h
  split at h
  · rename_i hj
    exact zr_callVr (n := 1) (As := [z_v j]) (rest := rest) hF hw (c_lget l X N hi hj) hE (by decide) zC_1 (z_goodV hq qw_171 qw_172 qw_39 qw_173) (by decide +kernel) ⟨hR.1, hR.2⟩ ⟨rfl, rfl⟩ rfl hl rfl hrest hdg hcs (fun H1 locs1 hw1 hE4 => kk H1 locs1 hw1 hE4 h)
  · cases h
theorem zr_lget0 (hF : zF p s m args meth c X cc nL own) (hw : zH X N g s H locs) (hl : ls.size = nL) {idx : Nat} (hq : Cond.methodLink own idx yJx4a65c_get_915e3 ∈ lw_G) {j : Int} {A : Option α} (h : zli j (g 1 0 2) A = some o) (hrest : (rest.map fun v => v.category).sum ≤ 8) (hdg : decode cc pc = .ok (.invokevirtual idx, 3)) (hR : 3 ≤ R.frames ∧ 81 ≤ R.locals) (hcs : cells ≤ R.cells ∧ slots ≤ R.slots)
    (kk : ∀ (H : Heap) (locs : List Loc), zH X N g s H locs → zE N 4 j.toNat → A = some o → W p l e R s m args below meth c H locs cells slots Q (F0 m (pc + 3) ls (z_r N 4 j.toNat :: rest))) : W p l e R s m args below meth c H locs cells slots Q (F0 m pc ls (z_v j :: z_r N 1 0 :: rest)) :=
  zr_lget hF hw hl (Or.inl rfl) zEf_1_0 hq h hrest hdg hR hcs kk
theorem zr_lget1 (hF : zF p s m args meth c X cc nL own) (hw : zH X N g s H locs) (hl : ls.size = nL) {idx : Nat} (hq : Cond.methodLink own idx yJx4a65c_get_915e3 ∈ lw_G) {j : Int} {A : Option α} (h : zli j (g 1 1 2) A = some o) (hrest : (rest.map fun v => v.category).sum ≤ 8) (hdg : decode cc pc = .ok (.invokevirtual idx, 3)) (hR : 3 ≤ R.frames ∧ 81 ≤ R.locals) (hcs : cells ≤ R.cells ∧ slots ≤ R.slots)
    (kk : ∀ (H : Heap) (locs : List Loc), zH X N g s H locs → zE N 5 j.toNat → A = some o → W p l e R s m args below meth c H locs cells slots Q (F0 m (pc + 3) ls (z_r N 5 j.toNat :: rest))) : W p l e R s m args below meth c H locs cells slots Q (F0 m pc ls (z_v j :: z_r N 1 1 :: rest)) :=
  zr_lget hF hw hl (Or.inr rfl) zEf_1_1 hq h hrest hdg hR hcs kk
end ZR3
end
section
/-! flights, over the machine -/
def sX1_behindAt (i0 : Nat) (x1 : Int) (g : zG) : Option (Int × zG) := zlt x1 0 (some ((-1), g)) (zlt x1 6 (zix x1 6 (some (g 14 i0 (x1).toNat, g))) (some ((-1), g)))
def sX1_enters (i0 : Nat) (x1 : Int) (g : zG) : Option (Int × zG) := zbd (sX1_behindAt i0 x1 g) (fun r1 g => zeq r1 (-1) (zbo 0 (some (0, g))) (zbo 1 (some (1, g))))
def sX1_canEnterNext (i0 : Nat) (x1 : Int) (x2 : Int) (g : zG) : Option (Int × zG) := zeq (g 4 i0 2) 0 (zeq (g 4 i0 4) (-1) (zlt (g 4 i0 8) 5 (zbd (sX1_enters i0 x1 g) (fun r1 g => zeq r1 0 (zlt (g 4 i0 9) x2 (zbo 1 (some (1, g))) (zbo 0 (some (0, g)))) (zbo 0 (some (0, g))))) (zbo 0 (some (0, g)))) (zbo 0 (some (0, g)))) (zbo 0 (some (0, g)))
def sX1_addEntry (i0 : Nat) (x1 : Int) (x2 : Int) (x3 : Int) (g : zG) : Option (Int × zG) := zlt x1 0 (some (0, g)) (zlt x1 6 (zlt x1 6 (zix x1 6 (zst g 14 i0 (x1).toNat x2 (fun g => zix x1 6 (zst g 15 i0 (x1).toNat x3 (fun g => zst g 4 i0 9 x2 (fun g => zst g 4 i0 8 ((g 4 i0 8) + 1) (fun g => some (0, g)))))))) (some (0, g))) (some (0, g)))
def sX1_stayAt (i0 : Nat) (x1 : Int) (g : zG) : Option (Int × zG) := zlt x1 0 (some (0, g)) (zlt x1 6 (zix x1 6 (some (g 15 i0 (x1).toNat, g))) (some (0, g)))
def sX1_departure (i0 : Nat) (g : zG) : Option (Int × zG) := zeq (g 4 i0 2) 1 (some (g 4 i0 6, g)) (zeq (g 4 i0 4) (-1) (some (g 4 i0 1, g)) (some (g 4 i0 4, g)))
def sX1_timeOver (i0 : Nat) (x1 : Int) (g : zG) : Option (Int × zG) := zbd (sX1_behindAt i0 x1 g) (fun r1 g => zeq r1 (-1) (some ((-1), g)) (zbd (sX1_departure i0 g) (fun r2 g => some (r2 + r1, g))))
def sX1_loads (i0 : Nat) (x1 : Int) (g : zG) : Option (Int × zG) := zeq (g 4 i0 2) 2 (zbo 0 (some (0, g))) (zbd (sX1_enters i0 x1 g) (fun r1 g => zeq r1 0 (zbo 0 (some (0, g))) (zbo 1 (some (1, g)))))
def sX1_isInside (i0 : Nat) (x1 : Int) (x2 : Int) (g : zG) : Option (Int × zG) := zbd (sX1_timeOver i0 x1 g) (fun r1 g => zbd (sX1_loads i0 x1 g) (fun r2 g => zeq r2 0 (zbo 0 (some (0, g))) (zle r1 x2 (zbd (sX1_stayAt i0 x1 g) (fun r3 g => zlt x2 (r1 + r3) (zbo 1 (some (1, g))) (zbo 0 (some (0, g))))) (zbo 0 (some (0, g))))))
def sX1_isFixed_j22 (g : zG) : Option (Int × zG) := zbo 1 (some (1, g))
def sX1_isFixed (i0 : Nat) (g : zG) : Option (Int × zG) := zeq (g 4 i0 2) 1 ((sX1_isFixed_j22 g)) (zeq (g 4 i0 2) 0 (zeq (g 4 i0 3) 0 (zbo 0 (some (0, g))) ((sX1_isFixed_j22 g))) (zbo 0 (some (0, g))))
def sX1_isListed (i0 : Nat) (g : zG) : Option (Int × zG) := zeq (g 4 i0 2) 0 (zeq (g 4 i0 3) 0 (zbo 1 (some (1, g))) (zbo 0 (some (0, g)))) (zbo 0 (some (0, g)))
def sX1_lineTime (i0 : Nat) (x1 : Int) (g : zG) : Option (Int × zG) := zbd (sX1_behindAt i0 x1 g) (fun r1 g => zeq r1 (-1) (some ((-1), g)) (zeq (g 4 i0 2) 1 (some ((g 4 i0 6) + r1, g)) (some ((g 4 i0 1) + r1, g))))
def sX1_loseSlotTime (i0 : Nat) (g : zG) : Option (Int × zG) := zst g 4 i0 4 (-1) (fun g => zst g 4 i0 5 (-1) (fun g => some (0, g)))
def sX1_delay (i0 : Nat) (g : zG) : Option (Int × zG) := zeq (g 4 i0 4) (-1) (some (0, g)) (some ((g 4 i0 4) - (g 4 i0 1), g))
def sX1_charge (i0 : Nat) (g : zG) : Option (Int × zG) := zeq (g 4 i0 2) 1 (zbd (sX1_delay i0 g) (fun r1 g => some (r1, g))) (some (0, g))
def sX1_wentOutOfWindow_j43 (g : zG) : Option (Int × zG) := zbo 1 (some (1, g))
def sX1_wentOutOfWindow (i0 : Nat) (g : zG) : Option (Int × zG) := zeq (g 4 i0 2) 1 (zeq (g 4 i0 4) (-1) (zbo 0 (some (0, g))) (zlt (g 4 i0 6) ((g 4 i0 4) - 5) ((sX1_wentOutOfWindow_j43 g)) (zle (g 4 i0 6) ((g 4 i0 4) + 10) (zbo 0 (some (0, g))) ((sX1_wentOutOfWindow_j43 g))))) (zbo 0 (some (0, g)))
def sX1_ledgerLine (i0 : Nat) (x1 : Int) (g : zG) : Option (Int × zG) := zeq x1 0 (zbd (sX1_charge i0 g) (fun r1 g => some (r1, g))) (zeq x1 1 (zbd (sX1_wentOutOfWindow i0 g) (fun r2 g => zeq r2 0 (some (0, g)) (some (1, g)))) (zeq (g 4 i0 2) 1 (some (1, g)) (some (0, g))))
def sX1_forgetReckoned (i0 : Nat) (g : zG) : Option (Int × zG) := zst g 4 i0 12 0 (fun g => zst g 4 i0 13 (-1) (fun g => some (0, g)))
def sX1_reckon (i0 : Nat) (x1 : Int) (x2 : Int) (g : zG) : Option (Int × zG) := zle x1 (g 4 i0 12) (some (0, g)) (zst g 4 i0 12 x1 (fun g => zst g 4 i0 13 x2 (fun g => some (0, g))))
def sX1_takeReckoned_j50 (i0 : Nat) (x2 : Int) (g : zG) : Option (Int × zG) := zst g 4 i0 4 x2 (fun g => zst g 4 i0 5 (g 4 i0 13) (fun g => some (0, g)))
def sX1_takeReckoned (i0 : Nat) (x1 : Int) (g : zG) : Option (Int × zG) := zbd (sX1_isListed i0 g) (fun r1 g => zeq r1 0 (some (0, g)) (zeq (g 4 i0 12) 0 (zbd (sX1_loseSlotTime i0 g) (fun _ g => some (0, g))) (zlet ((g 4 i0 1) + (g 4 i0 12)) (fun v2 => zeq x1 0 (zeq (g 4 i0 4) (-1) ((sX1_takeReckoned_j50 i0 v2 g)) (zle v2 (g 4 i0 4) ((sX1_takeReckoned_j50 i0 v2 g)) (some (0, g)))) ((sX1_takeReckoned_j50 i0 v2 g))))))
def sX1_sharesRuling (i0 : Nat) (i1 : Nat) (g : zG) : Option (Int × zG) := zeq (g 4 i0 2) 0 (zeq (g 4 i1 2) 0 (zeq (g 4 i0 0) (g 4 i1 0) (zeq (g 4 i0 4) (-1) (zbo 0 (some (0, g))) (zeq (g 4 i1 4) (-1) (zbo 0 (some (0, g))) (zeq (g 4 i0 5) (g 4 i1 5) (zbo 1 (some (1, g))) (zbo 0 (some (0, g)))))) (zbo 0 (some (0, g)))) (zbo 0 (some (0, g)))) (zbo 0 (some (0, g)))
def sX1_follow (i0 : Nat) (x1 : Int) (x2 : Int) (g : zG) : Option (Int × zG) := zeq x1 0 (zst g 4 i0 1 x2 (fun g => zlt (g 4 i0 4) x2 (zbd (sX1_loseSlotTime i0 g) (fun _ g => some (0, g))) (some (0, g)))) (zeq x1 1 (zst g 4 i0 2 2 (fun g => some (0, g))) (zst g 4 i0 2 1 (fun g => zst g 4 i0 6 x2 (fun g => some (0, g)))))
set_option maxHeartbeats 4000000 in
set_option maxRecDepth 100000 in
theorem czX1_behindAt (l : Launch) (X : zC) (N : zN) {i0 : Nat} {x1 : Int} {g g' : zG} {r : Int} (he0 : zE N 4 i0) (h : sX1_behindAt i0 x1 g = some (r, g')) : zM l yX1_behindAt cX1_behindAt 2 (some .int) { frames := 0, cells := 0, slots := 0, locals := 0 } X N g [z_r N 4 i0, z_v x1] (zQi X N r g') := by
  refine z_ofW (own := RX1) (by decide +kernel) rfl (Nat.le_of_ble_eq_true rfl) ?_
  intro p e s m args below meth c ls hF hr hw hl
  have hl : lv_has ls 2 [(0, z_r N 4 i0), (1, z_v x1)] := hl
  have hx := hF.1.1
  have hb := hF.1.2.1
  unfold sX1_behindAt at h
  generalize s.heap = H at hw ⊢
  generalize ([] : List Loc) = locs at hw ⊢
  refine lv_iload_n hx hb dX1_behindAt_0 rfl (lv_at hl 1 rfl) ?_
  refine zr_if_lt (tgt := 22) hF h dX1_behindAt_1 (by decide) (fun h => ?_) (fun h => ?_)
  · refine lv_iconst hx hb dX1_behindAt_22 rfl ?_
    exact zr_iret hF hr hw h dX1_behindAt_23
  · refine lv_iload_n hx hb dX1_behindAt_4 rfl (lv_at hl 1 rfl) ?_
    refine lv_aload_n hx hb dX1_behindAt_5 rfl (lv_at hl 0 rfl) ?_
    refine zr_get hF hw he0 (by decide) zC_4 10 (by decide) qw_444 rfl dX1_behindAt_6 ?_
    refine zr_alen hF hw (zE_fl2 he0).1 (by decide) (v := 6) (by decide) dX1_behindAt_9 ?_
    refine zr_icmp_ge (tgt := 22) hF h dX1_behindAt_10 (by decide) (fun h => ?_) (fun h => ?_)
    · refine lv_iconst hx hb dX1_behindAt_22 rfl ?_
      exact zr_iret hF hr hw h dX1_behindAt_23
    · refine lv_aload_n hx hb dX1_behindAt_13 rfl (lv_at hl 0 rfl) ?_
      refine zr_get hF hw he0 (by decide) zC_4 10 (by decide) qw_444 rfl dX1_behindAt_14 ?_
      refine lv_iload_n hx hb dX1_behindAt_17 rfl (lv_at hl 1 rfl) ?_
      refine zr_iald hF hw (zE_fl2 he0).1 (by decide) h dX1_behindAt_18 (fun h => ?_)
      refine lv_goto (tgt := 23) hx hb dX1_behindAt_19 (by decide) ?_
      exact zr_iret hF hr hw h dX1_behindAt_23
set_option maxHeartbeats 4000000 in
set_option maxRecDepth 100000 in
theorem czX1_enters (l : Launch) (X : zC) (N : zN) {i0 : Nat} {x1 : Int} {g g' : zG} {r : Int} (he0 : zE N 4 i0) (h : sX1_enters i0 x1 g = some (r, g')) : zM l yX1_enters cX1_enters 2 (some .boolean) { frames := 1, cells := 0, slots := 0, locals := 21 } X N g [z_r N 4 i0, z_v x1] (zQi X N r g') := by
  refine z_ofW (own := RX1) (by decide +kernel) rfl (Nat.le_of_ble_eq_true rfl) ?_
  intro p e s m args below meth c ls hF hr hw hl
  have hl : lv_has ls 2 [(0, z_r N 4 i0), (1, z_v x1)] := hl
  have hx := hF.1.1
  have hb := hF.1.2.1
  unfold sX1_enters at h
  generalize s.heap = H at hw ⊢
  generalize ([] : List Loc) = locs at hw ⊢
  refine lv_aload_n hx hb dX1_enters_0 rfl (lv_at hl 0 rfl) ?_
  refine lv_iload_n hx hb dX1_enters_1 rfl (lv_at hl 1 rfl) ?_
  obtain ⟨r1, g1, h1, h⟩ := zbd_some h
  refine zr_callVi (n := 1) (As := [z_v x1]) (rest := []) hF hw (czX1_behindAt l X N he0 h1) he0 (by decide) zC_4 (z_goodV qw_217 qw_218 qw_219 qw_49 qw_220) (by decide +kernel) ⟨Nat.le_of_ble_eq_true rfl, Nat.le_of_ble_eq_true rfl⟩ ⟨rfl, rfl⟩ rfl hl.1 rfl (Nat.le_of_ble_eq_true rfl) dX1_enters_2 ⟨Nat.le_of_ble_eq_true rfl, Nat.le_of_ble_eq_true rfl⟩ (fun H locs hw => ?_)
  clear h1
  generalize g1 = g at *
  refine lv_iconst hx hb dX1_enters_5 rfl ?_
  refine zr_icmp_eq (tgt := 13) hF h dX1_enters_6 (by decide) (fun h => ?_) (fun h => ?_)
  · refine lv_iconst hx hb dX1_enters_13 rfl ?_
    exact zr_zret hF hr hw h dX1_enters_14
  · refine lv_iconst hx hb dX1_enters_9 rfl ?_
    refine lv_goto (tgt := 14) hx hb dX1_enters_10 (by decide) ?_
    exact zr_zret hF hr hw h dX1_enters_14
set_option maxHeartbeats 4000000 in
set_option maxRecDepth 100000 in
theorem czX1_canEnterNext (l : Launch) (X : zC) (N : zN) {i0 : Nat} {x1 : Int} {x2 : Int} {g g' : zG} {r : Int} (he0 : zE N 4 i0) (h : sX1_canEnterNext i0 x1 x2 g = some (r, g')) : zM l yX1_canEnterNext cX1_canEnterNext 3 (some .boolean) { frames := 2, cells := 0, slots := 0, locals := 42 } X N g [z_r N 4 i0, z_v x1, z_v x2] (zQi X N r g') := by
  refine z_ofW (own := RX1) (by decide +kernel) rfl (Nat.le_of_ble_eq_true rfl) ?_
  intro p e s m args below meth c ls hF hr hw hl
  have hl : lv_has ls 3 [(0, z_r N 4 i0), (1, z_v x1), (2, z_v x2)] := hl
  have hx := hF.1.1
  have hb := hF.1.2.1
  unfold sX1_canEnterNext at h
  generalize s.heap = H at hw ⊢
  generalize ([] : List Loc) = locs at hw ⊢
  refine lv_aload_n hx hb dX1_canEnterNext_0 rfl (lv_at hl 0 rfl) ?_
  refine zr_get hF hw he0 (by decide) zC_4 2 (by decide) qw_430 rfl dX1_canEnterNext_1 ?_
  refine zr_if_ne (tgt := 43) hF h dX1_canEnterNext_4 (by decide) (fun h => ?_) (fun h => ?_)
  · refine lv_iconst hx hb dX1_canEnterNext_43 rfl ?_
    exact zr_zret hF hr hw h dX1_canEnterNext_44
  · refine lv_aload_n hx hb dX1_canEnterNext_7 rfl (lv_at hl 0 rfl) ?_
    refine zr_get hF hw he0 (by decide) zC_4 4 (by decide) qw_434 rfl dX1_canEnterNext_8 ?_
    refine lv_iconst hx hb dX1_canEnterNext_11 rfl ?_
    refine zr_icmp_ne (tgt := 43) hF h dX1_canEnterNext_12 (by decide) (fun h => ?_) (fun h => ?_)
    · refine lv_iconst hx hb dX1_canEnterNext_43 rfl ?_
      exact zr_zret hF hr hw h dX1_canEnterNext_44
    · refine lv_aload_n hx hb dX1_canEnterNext_15 rfl (lv_at hl 0 rfl) ?_
      refine zr_get hF hw he0 (by decide) zC_4 8 (by decide) qw_441 rfl dX1_canEnterNext_16 ?_
      refine lv_iconst hx hb dX1_canEnterNext_19 rfl ?_
      refine zr_icmp_ge (tgt := 43) hF h dX1_canEnterNext_20 (by decide) (fun h => ?_) (fun h => ?_)
      · refine lv_iconst hx hb dX1_canEnterNext_43 rfl ?_
        exact zr_zret hF hr hw h dX1_canEnterNext_44
      · refine lv_aload_n hx hb dX1_canEnterNext_23 rfl (lv_at hl 0 rfl) ?_
        refine lv_iload_n hx hb dX1_canEnterNext_24 rfl (lv_at hl 1 rfl) ?_
        obtain ⟨r1, g1, h1, h⟩ := zbd_some h
        refine zr_callVi (n := 1) (As := [z_v x1]) (rest := []) hF hw (czX1_enters l X N he0 h1) he0 (by decide) zC_4 (z_goodV qw_551 qw_552 qw_553 qw_49 qw_554) (by decide +kernel) ⟨Nat.le_of_ble_eq_true rfl, Nat.le_of_ble_eq_true rfl⟩ ⟨rfl, rfl⟩ rfl hl.1 rfl (Nat.le_of_ble_eq_true rfl) dX1_canEnterNext_25 ⟨Nat.le_of_ble_eq_true rfl, Nat.le_of_ble_eq_true rfl⟩ (fun H locs hw => ?_)
        clear h1
        generalize g1 = g at *
        refine zr_if_ne (tgt := 43) hF h dX1_canEnterNext_28 (by decide) (fun h => ?_) (fun h => ?_)
        · refine lv_iconst hx hb dX1_canEnterNext_43 rfl ?_
          exact zr_zret hF hr hw h dX1_canEnterNext_44
        · refine lv_aload_n hx hb dX1_canEnterNext_31 rfl (lv_at hl 0 rfl) ?_
          refine zr_get hF hw he0 (by decide) zC_4 9 (by decide) qw_443 rfl dX1_canEnterNext_32 ?_
          refine lv_iload_n hx hb dX1_canEnterNext_35 rfl (lv_at hl 2 rfl) ?_
          refine zr_icmp_ge (tgt := 43) hF h dX1_canEnterNext_36 (by decide) (fun h => ?_) (fun h => ?_)
          · refine lv_iconst hx hb dX1_canEnterNext_43 rfl ?_
            exact zr_zret hF hr hw h dX1_canEnterNext_44
          · refine lv_iconst hx hb dX1_canEnterNext_39 rfl ?_
            refine lv_goto (tgt := 44) hx hb dX1_canEnterNext_40 (by decide) ?_
            exact zr_zret hF hr hw h dX1_canEnterNext_44
set_option maxHeartbeats 4000000 in
set_option maxRecDepth 100000 in
theorem czX1_addEntry (l : Launch) (X : zC) (N : zN) {i0 : Nat} {x1 : Int} {x2 : Int} {x3 : Int} {g g' : zG} {r : Int} (he0 : zE N 4 i0) (h : sX1_addEntry i0 x1 x2 x3 g = some (r, g')) : zM l yX1_addEntry cX1_addEntry 4 none { frames := 0, cells := 0, slots := 0, locals := 0 } X N g [z_r N 4 i0, z_v x1, z_v x2, z_v x3] (zQv X N g') := by
  refine z_ofW (own := RX1) (by decide +kernel) rfl (Nat.le_of_ble_eq_true rfl) ?_
  intro p e s m args below meth c ls hF hr hw hl
  have hl : lv_has ls 4 [(0, z_r N 4 i0), (1, z_v x1), (2, z_v x2), (3, z_v x3)] := hl
  have hx := hF.1.1
  have hb := hF.1.2.1
  unfold sX1_addEntry at h
  generalize s.heap = H at hw ⊢
  generalize ([] : List Loc) = locs at hw ⊢
  refine lv_iload_n hx hb dX1_addEntry_0 rfl (lv_at hl 1 rfl) ?_
  refine zr_if_lt (tgt := 22) hF h dX1_addEntry_1 (by decide) (fun h => ?_) (fun h => ?_)
  · exact zr_vret hF hr hw h dX1_addEntry_22
  · refine lv_iload_n hx hb dX1_addEntry_4 rfl (lv_at hl 1 rfl) ?_
    refine lv_aload_n hx hb dX1_addEntry_5 rfl (lv_at hl 0 rfl) ?_
    refine zr_get hF hw he0 (by decide) zC_4 10 (by decide) qw_444 rfl dX1_addEntry_6 ?_
    refine zr_alen hF hw (zE_fl2 he0).1 (by decide) (v := 6) (by decide) dX1_addEntry_9 ?_
    refine zr_icmp_ge (tgt := 22) hF h dX1_addEntry_10 (by decide) (fun h => ?_) (fun h => ?_)
    · exact zr_vret hF hr hw h dX1_addEntry_22
    · refine lv_iload_n hx hb dX1_addEntry_13 rfl (lv_at hl 1 rfl) ?_
      refine lv_aload_n hx hb dX1_addEntry_14 rfl (lv_at hl 0 rfl) ?_
      refine zr_get hF hw he0 (by decide) zC_4 11 (by decide) qw_445 rfl dX1_addEntry_15 ?_
      refine zr_alen hF hw (zE_fl2 he0).2 (by decide) (v := 6) (by decide) dX1_addEntry_18 ?_
      refine zr_icmp_lt (tgt := 23) hF h dX1_addEntry_19 (by decide) (fun h => ?_) (fun h => ?_)
      · refine lv_aload_n hx hb dX1_addEntry_23 rfl (lv_at hl 0 rfl) ?_
        refine zr_get hF hw he0 (by decide) zC_4 10 (by decide) qw_444 rfl dX1_addEntry_24 ?_
        refine lv_iload_n hx hb dX1_addEntry_27 rfl (lv_at hl 1 rfl) ?_
        refine lv_iload_n hx hb dX1_addEntry_28 rfl (lv_at hl 2 rfl) ?_
        refine zr_iast hF hw (zE_fl2 he0).1 (by decide) h dX1_addEntry_29 (fun g H locs hw h => ?_)
        refine lv_aload_n hx hb dX1_addEntry_30 rfl (lv_at hl 0 rfl) ?_
        refine zr_get hF hw he0 (by decide) zC_4 11 (by decide) qw_445 rfl dX1_addEntry_31 ?_
        refine lv_iload_n hx hb dX1_addEntry_34 rfl (lv_at hl 1 rfl) ?_
        refine lv_iload_n hx hb dX1_addEntry_35 rfl (lv_at hl 3 rfl) ?_
        refine zr_iast hF hw (zE_fl2 he0).2 (by decide) h dX1_addEntry_36 (fun g H locs hw h => ?_)
        refine lv_aload_n hx hb dX1_addEntry_37 rfl (lv_at hl 0 rfl) ?_
        refine lv_iload_n hx hb dX1_addEntry_38 rfl (lv_at hl 2 rfl) ?_
        refine zr_put hF hw he0 (by decide) zC_4 9 (by decide) (by decide) qw_443 rfl (by decide +kernel) h dX1_addEntry_39 (fun g H locs hw h => ?_)
        refine lv_aload_n hx hb dX1_addEntry_42 rfl (lv_at hl 0 rfl) ?_
        refine lv_dup hx hb dX1_addEntry_43 rfl ?_
        refine zr_get hF hw he0 (by decide) zC_4 8 (by decide) qw_441 rfl dX1_addEntry_44 ?_
        refine lv_iconst hx hb dX1_addEntry_47 rfl ?_
        refine zr_iadd hF dX1_addEntry_48 ?_
        refine zr_put hF hw he0 (by decide) zC_4 8 (by decide) (by decide) qw_441 rfl (by decide +kernel) h dX1_addEntry_49 (fun g H locs hw h => ?_)
        exact zr_vret hF hr hw h dX1_addEntry_52
      · exact zr_vret hF hr hw h dX1_addEntry_22
set_option maxHeartbeats 4000000 in
set_option maxRecDepth 100000 in
theorem czX1_stayAt (l : Launch) (X : zC) (N : zN) {i0 : Nat} {x1 : Int} {g g' : zG} {r : Int} (he0 : zE N 4 i0) (h : sX1_stayAt i0 x1 g = some (r, g')) : zM l yX1_stayAt cX1_stayAt 2 (some .int) { frames := 0, cells := 0, slots := 0, locals := 0 } X N g [z_r N 4 i0, z_v x1] (zQi X N r g') := by
  refine z_ofW (own := RX1) (by decide +kernel) rfl (Nat.le_of_ble_eq_true rfl) ?_
  intro p e s m args below meth c ls hF hr hw hl
  have hl : lv_has ls 2 [(0, z_r N 4 i0), (1, z_v x1)] := hl
  have hx := hF.1.1
  have hb := hF.1.2.1
  unfold sX1_stayAt at h
  generalize s.heap = H at hw ⊢
  generalize ([] : List Loc) = locs at hw ⊢
  refine lv_iload_n hx hb dX1_stayAt_0 rfl (lv_at hl 1 rfl) ?_
  refine zr_if_lt (tgt := 22) hF h dX1_stayAt_1 (by decide) (fun h => ?_) (fun h => ?_)
  · refine lv_iconst hx hb dX1_stayAt_22 rfl ?_
    exact zr_iret hF hr hw h dX1_stayAt_23
  · refine lv_iload_n hx hb dX1_stayAt_4 rfl (lv_at hl 1 rfl) ?_
    refine lv_aload_n hx hb dX1_stayAt_5 rfl (lv_at hl 0 rfl) ?_
    refine zr_get hF hw he0 (by decide) zC_4 11 (by decide) qw_445 rfl dX1_stayAt_6 ?_
    refine zr_alen hF hw (zE_fl2 he0).2 (by decide) (v := 6) (by decide) dX1_stayAt_9 ?_
    refine zr_icmp_ge (tgt := 22) hF h dX1_stayAt_10 (by decide) (fun h => ?_) (fun h => ?_)
    · refine lv_iconst hx hb dX1_stayAt_22 rfl ?_
      exact zr_iret hF hr hw h dX1_stayAt_23
    · refine lv_aload_n hx hb dX1_stayAt_13 rfl (lv_at hl 0 rfl) ?_
      refine zr_get hF hw he0 (by decide) zC_4 11 (by decide) qw_445 rfl dX1_stayAt_14 ?_
      refine lv_iload_n hx hb dX1_stayAt_17 rfl (lv_at hl 1 rfl) ?_
      refine zr_iald hF hw (zE_fl2 he0).2 (by decide) h dX1_stayAt_18 (fun h => ?_)
      refine lv_goto (tgt := 23) hx hb dX1_stayAt_19 (by decide) ?_
      exact zr_iret hF hr hw h dX1_stayAt_23
set_option maxHeartbeats 4000000 in
set_option maxRecDepth 100000 in
theorem czX1_departure (l : Launch) (X : zC) (N : zN) {i0 : Nat} {g g' : zG} {r : Int} (he0 : zE N 4 i0) (h : sX1_departure i0 g = some (r, g')) : zM l yX1_departure cX1_departure 1 (some .int) { frames := 0, cells := 0, slots := 0, locals := 0 } X N g [z_r N 4 i0] (zQi X N r g') := by
  refine z_ofW (own := RX1) (by decide +kernel) rfl (Nat.le_of_ble_eq_true rfl) ?_
  intro p e s m args below meth c ls hF hr hw hl
  have hl : lv_has ls 1 [(0, z_r N 4 i0)] := hl
  have hx := hF.1.1
  have hb := hF.1.2.1
  unfold sX1_departure at h
  generalize s.heap = H at hw ⊢
  generalize ([] : List Loc) = locs at hw ⊢
  refine lv_aload_n hx hb dX1_departure_0 rfl (lv_at hl 0 rfl) ?_
  refine zr_get hF hw he0 (by decide) zC_4 2 (by decide) qw_430 rfl dX1_departure_1 ?_
  refine lv_iconst hx hb dX1_departure_4 rfl ?_
  refine zr_icmp_ne (tgt := 13) hF h dX1_departure_5 (by decide) (fun h => ?_) (fun h => ?_)
  · refine lv_aload_n hx hb dX1_departure_13 rfl (lv_at hl 0 rfl) ?_
    refine zr_get hF hw he0 (by decide) zC_4 4 (by decide) qw_434 rfl dX1_departure_14 ?_
    refine lv_iconst hx hb dX1_departure_17 rfl ?_
    refine zr_icmp_eq (tgt := 28) hF h dX1_departure_18 (by decide) (fun h => ?_) (fun h => ?_)
    · refine lv_aload_n hx hb dX1_departure_28 rfl (lv_at hl 0 rfl) ?_
      refine zr_get hF hw he0 (by decide) zC_4 1 (by decide) qw_428 rfl dX1_departure_29 ?_
      exact zr_iret hF hr hw h dX1_departure_32
    · refine lv_aload_n hx hb dX1_departure_21 rfl (lv_at hl 0 rfl) ?_
      refine zr_get hF hw he0 (by decide) zC_4 4 (by decide) qw_434 rfl dX1_departure_22 ?_
      refine lv_goto (tgt := 32) hx hb dX1_departure_25 (by decide) ?_
      exact zr_iret hF hr hw h dX1_departure_32
  · refine lv_aload_n hx hb dX1_departure_8 rfl (lv_at hl 0 rfl) ?_
    refine zr_get hF hw he0 (by decide) zC_4 6 (by decide) qw_438 rfl dX1_departure_9 ?_
    exact zr_iret hF hr hw h dX1_departure_12
set_option maxHeartbeats 4000000 in
set_option maxRecDepth 100000 in
theorem czX1_timeOver (l : Launch) (X : zC) (N : zN) {i0 : Nat} {x1 : Int} {g g' : zG} {r : Int} (he0 : zE N 4 i0) (h : sX1_timeOver i0 x1 g = some (r, g')) : zM l yX1_timeOver cX1_timeOver 3 (some .int) { frames := 1, cells := 0, slots := 0, locals := 21 } X N g [z_r N 4 i0, z_v x1] (zQi X N r g') := by
  refine z_ofW (own := RX1) (by decide +kernel) rfl (Nat.le_of_ble_eq_true rfl) ?_
  intro p e s m args below meth c ls hF hr hw hl
  have hl : lv_has ls 3 [(0, z_r N 4 i0), (1, z_v x1)] := hl
  have hx := hF.1.1
  have hb := hF.1.2.1
  unfold sX1_timeOver at h
  generalize s.heap = H at hw ⊢
  generalize ([] : List Loc) = locs at hw ⊢
  refine lv_aload_n hx hb dX1_timeOver_0 rfl (lv_at hl 0 rfl) ?_
  refine lv_iload_n hx hb dX1_timeOver_1 rfl (lv_at hl 1 rfl) ?_
  obtain ⟨r1, g1, h1, h⟩ := zbd_some h
  refine zr_callVi (n := 1) (As := [z_v x1]) (rest := []) hF hw (czX1_behindAt l X N he0 h1) he0 (by decide) zC_4 (z_goodV qw_217 qw_218 qw_219 qw_49 qw_220) (by decide +kernel) ⟨Nat.le_of_ble_eq_true rfl, Nat.le_of_ble_eq_true rfl⟩ ⟨rfl, rfl⟩ rfl hl.1 rfl (Nat.le_of_ble_eq_true rfl) dX1_timeOver_2 ⟨Nat.le_of_ble_eq_true rfl, Nat.le_of_ble_eq_true rfl⟩ (fun H locs hw => ?_)
  clear h1
  generalize g1 = g at *
  refine lv_istore_n (lv' := [(2, z_v r1), (0, z_r N 4 i0), (1, z_v x1)]) hx hb dX1_timeOver_5 rfl hl (by decide) rfl (fun ls hl => ?_)
  refine lv_iload_n hx hb dX1_timeOver_6 rfl (lv_at hl 0 rfl) ?_
  refine lv_iconst hx hb dX1_timeOver_7 rfl ?_
  refine zr_icmp_eq (tgt := 20) hF h dX1_timeOver_8 (by decide) (fun h => ?_) (fun h => ?_)
  · refine lv_iconst hx hb dX1_timeOver_20 rfl ?_
    exact zr_iret hF hr hw h dX1_timeOver_21
  · refine lv_aload_n hx hb dX1_timeOver_11 rfl (lv_at hl 1 rfl) ?_
    obtain ⟨r2, g1, h1, h⟩ := zbd_some h
    refine zr_callVi (n := 0) (As := []) (rest := []) hF hw (czX1_departure l X N he0 h1) he0 (by decide) zC_4 (z_goodV qw_591 qw_577 qw_578 qw_49 qw_579) (by decide +kernel) ⟨Nat.le_of_ble_eq_true rfl, Nat.le_of_ble_eq_true rfl⟩ ⟨rfl, rfl⟩ rfl hl.1 rfl (Nat.le_of_ble_eq_true rfl) dX1_timeOver_12 ⟨Nat.le_of_ble_eq_true rfl, Nat.le_of_ble_eq_true rfl⟩ (fun H locs hw => ?_)
    clear h1
    generalize g1 = g at *
    refine lv_iload_n hx hb dX1_timeOver_15 rfl (lv_at hl 0 rfl) ?_
    refine zr_iadd hF dX1_timeOver_16 ?_
    refine lv_goto (tgt := 21) hx hb dX1_timeOver_17 (by decide) ?_
    exact zr_iret hF hr hw h dX1_timeOver_21
set_option maxHeartbeats 4000000 in
set_option maxRecDepth 100000 in
theorem czX1_loads (l : Launch) (X : zC) (N : zN) {i0 : Nat} {x1 : Int} {g g' : zG} {r : Int} (he0 : zE N 4 i0) (h : sX1_loads i0 x1 g = some (r, g')) : zM l yX1_loads cX1_loads 2 (some .boolean) { frames := 2, cells := 0, slots := 0, locals := 42 } X N g [z_r N 4 i0, z_v x1] (zQi X N r g') := by
  refine z_ofW (own := RX1) (by decide +kernel) rfl (Nat.le_of_ble_eq_true rfl) ?_
  intro p e s m args below meth c ls hF hr hw hl
  have hl : lv_has ls 2 [(0, z_r N 4 i0), (1, z_v x1)] := hl
  have hx := hF.1.1
  have hb := hF.1.2.1
  unfold sX1_loads at h
  generalize s.heap = H at hw ⊢
  generalize ([] : List Loc) = locs at hw ⊢
  refine lv_aload_n hx hb dX1_loads_0 rfl (lv_at hl 0 rfl) ?_
  refine zr_get hF hw he0 (by decide) zC_4 2 (by decide) qw_430 rfl dX1_loads_1 ?_
  refine lv_iconst hx hb dX1_loads_4 rfl ?_
  refine zr_icmp_eq (tgt := 20) hF h dX1_loads_5 (by decide) (fun h => ?_) (fun h => ?_)
  · refine lv_iconst hx hb dX1_loads_20 rfl ?_
    exact zr_zret hF hr hw h dX1_loads_21
  · refine lv_aload_n hx hb dX1_loads_8 rfl (lv_at hl 0 rfl) ?_
    refine lv_iload_n hx hb dX1_loads_9 rfl (lv_at hl 1 rfl) ?_
    obtain ⟨r1, g1, h1, h⟩ := zbd_some h
    refine zr_callVi (n := 1) (As := [z_v x1]) (rest := []) hF hw (czX1_enters l X N he0 h1) he0 (by decide) zC_4 (z_goodV qw_551 qw_552 qw_553 qw_49 qw_554) (by decide +kernel) ⟨Nat.le_of_ble_eq_true rfl, Nat.le_of_ble_eq_true rfl⟩ ⟨rfl, rfl⟩ rfl hl.1 rfl (Nat.le_of_ble_eq_true rfl) dX1_loads_10 ⟨Nat.le_of_ble_eq_true rfl, Nat.le_of_ble_eq_true rfl⟩ (fun H locs hw => ?_)
    clear h1
    generalize g1 = g at *
    refine zr_if_eq (tgt := 20) hF h dX1_loads_13 (by decide) (fun h => ?_) (fun h => ?_)
    · refine lv_iconst hx hb dX1_loads_20 rfl ?_
      exact zr_zret hF hr hw h dX1_loads_21
    · refine lv_iconst hx hb dX1_loads_16 rfl ?_
      refine lv_goto (tgt := 21) hx hb dX1_loads_17 (by decide) ?_
      exact zr_zret hF hr hw h dX1_loads_21
set_option maxHeartbeats 4000000 in
set_option maxRecDepth 100000 in
theorem czX1_isInside (l : Launch) (X : zC) (N : zN) {i0 : Nat} {x1 : Int} {x2 : Int} {g g' : zG} {r : Int} (he0 : zE N 4 i0) (h : sX1_isInside i0 x1 x2 g = some (r, g')) : zM l yX1_isInside cX1_isInside 4 (some .boolean) { frames := 3, cells := 0, slots := 0, locals := 63 } X N g [z_r N 4 i0, z_v x1, z_v x2] (zQi X N r g') := by
  refine z_ofW (own := RX1) (by decide +kernel) rfl (Nat.le_of_ble_eq_true rfl) ?_
  intro p e s m args below meth c ls hF hr hw hl
  have hl : lv_has ls 4 [(0, z_r N 4 i0), (1, z_v x1), (2, z_v x2)] := hl
  have hx := hF.1.1
  have hb := hF.1.2.1
  unfold sX1_isInside at h
  generalize s.heap = H at hw ⊢
  generalize ([] : List Loc) = locs at hw ⊢
  refine lv_aload_n hx hb dX1_isInside_0 rfl (lv_at hl 0 rfl) ?_
  refine lv_iload_n hx hb dX1_isInside_1 rfl (lv_at hl 1 rfl) ?_
  obtain ⟨r1, g1, h1, h⟩ := zbd_some h
  refine zr_callVi (n := 1) (As := [z_v x1]) (rest := []) hF hw (czX1_timeOver l X N he0 h1) he0 (by decide) zC_4 (z_goodV qw_618 qw_588 qw_589 qw_49 qw_590) (by decide +kernel) ⟨Nat.le_of_ble_eq_true rfl, Nat.le_of_ble_eq_true rfl⟩ ⟨rfl, rfl⟩ rfl hl.1 rfl (Nat.le_of_ble_eq_true rfl) dX1_isInside_2 ⟨Nat.le_of_ble_eq_true rfl, Nat.le_of_ble_eq_true rfl⟩ (fun H locs hw => ?_)
  clear h1
  generalize g1 = g at *
  refine lv_istore_n (lv' := [(3, z_v r1), (0, z_r N 4 i0), (1, z_v x1), (2, z_v x2)]) hx hb dX1_isInside_5 rfl hl (by decide) rfl (fun ls hl => ?_)
  refine lv_aload_n hx hb dX1_isInside_6 rfl (lv_at hl 1 rfl) ?_
  refine lv_iload_n hx hb dX1_isInside_7 rfl (lv_at hl 2 rfl) ?_
  obtain ⟨r2, g1, h1, h⟩ := zbd_some h
  refine zr_callVi (n := 1) (As := [z_v x1]) (rest := []) hF hw (czX1_loads l X N he0 h1) he0 (by decide) zC_4 (z_goodV qw_619 qw_604 qw_605 qw_49 qw_606) (by decide +kernel) ⟨Nat.le_of_ble_eq_true rfl, Nat.le_of_ble_eq_true rfl⟩ ⟨rfl, rfl⟩ rfl hl.1 rfl (Nat.le_of_ble_eq_true rfl) dX1_isInside_8 ⟨Nat.le_of_ble_eq_true rfl, Nat.le_of_ble_eq_true rfl⟩ (fun H locs hw => ?_)
  clear h1
  generalize g1 = g at *
  refine zr_if_eq (tgt := 34) hF h dX1_isInside_11 (by decide) (fun h => ?_) (fun h => ?_)
  · refine lv_iconst hx hb dX1_isInside_34 rfl ?_
    exact zr_zret hF hr hw h dX1_isInside_35
  · refine lv_iload_n hx hb dX1_isInside_14 rfl (lv_at hl 0 rfl) ?_
    refine lv_iload_n hx hb dX1_isInside_15 rfl (lv_at hl 3 rfl) ?_
    refine zr_icmp_gt (tgt := 34) hF h dX1_isInside_16 (by decide) (fun h => ?_) (fun h => ?_)
    · refine lv_iconst hx hb dX1_isInside_34 rfl ?_
      exact zr_zret hF hr hw h dX1_isInside_35
    · refine lv_iload_n hx hb dX1_isInside_19 rfl (lv_at hl 3 rfl) ?_
      refine lv_iload_n hx hb dX1_isInside_20 rfl (lv_at hl 0 rfl) ?_
      refine lv_aload_n hx hb dX1_isInside_21 rfl (lv_at hl 1 rfl) ?_
      refine lv_iload_n hx hb dX1_isInside_22 rfl (lv_at hl 2 rfl) ?_
      obtain ⟨r3, g1, h1, h⟩ := zbd_some h
      refine zr_callVi (n := 1) (As := [z_v x1]) (rest := [z_v r1, z_v x2]) hF hw (czX1_stayAt l X N he0 h1) he0 (by decide) zC_4 (z_goodV qw_620 qw_621 qw_622 qw_49 qw_623) (by decide +kernel) ⟨Nat.le_of_ble_eq_true rfl, Nat.le_of_ble_eq_true rfl⟩ ⟨rfl, rfl⟩ rfl hl.1 rfl (Nat.le_of_ble_eq_true rfl) dX1_isInside_23 ⟨Nat.le_of_ble_eq_true rfl, Nat.le_of_ble_eq_true rfl⟩ (fun H locs hw => ?_)
      clear h1
      generalize g1 = g at *
      refine zr_iadd hF dX1_isInside_26 ?_
      refine zr_icmp_ge (tgt := 34) hF h dX1_isInside_27 (by decide) (fun h => ?_) (fun h => ?_)
      · refine lv_iconst hx hb dX1_isInside_34 rfl ?_
        exact zr_zret hF hr hw h dX1_isInside_35
      · refine lv_iconst hx hb dX1_isInside_30 rfl ?_
        refine lv_goto (tgt := 35) hx hb dX1_isInside_31 (by decide) ?_
        exact zr_zret hF hr hw h dX1_isInside_35
set_option maxHeartbeats 4000000 in
set_option maxRecDepth 100000 in
theorem wX1_isFixed_j22 {p : Program} {l : Launch} {e : Env} {s : State} {m : MethodId} {args : Array Value} {below : List Frame} {meth : Method} {c : Code} {X : zC} {N : zN} {r : Int} {g' : zG} {H : Heap} {locs : List Loc} {ls : Array Slot} (hF : zF p s m args meth c X cX1_isFixed 1 RX1) (hr : meth.sig.returnType = (some .boolean)) {g : zG} (hw : zH X N g s H locs) (hl : lv_has ls 1 []) (h : sX1_isFixed_j22 g = some (r, g')) : W p l e { frames := 0, cells := 0, slots := 0, locals := 0 } s m args below meth c H locs 0 0 (MQ below (zQi X N r g') args s 0 0 (zA X)) (F0 m 22 ls []) := by
  have hx := hF.1.1
  have hb := hF.1.2.1
  unfold sX1_isFixed_j22 at h
  refine lv_iconst hx hb dX1_isFixed_22 rfl ?_
  refine lv_goto (tgt := 27) hx hb dX1_isFixed_23 (by decide) ?_
  exact zr_zret hF hr hw h dX1_isFixed_27
set_option maxHeartbeats 4000000 in
set_option maxRecDepth 100000 in
theorem czX1_isFixed (l : Launch) (X : zC) (N : zN) {i0 : Nat} {g g' : zG} {r : Int} (he0 : zE N 4 i0) (h : sX1_isFixed i0 g = some (r, g')) : zM l yX1_isFixed cX1_isFixed 1 (some .boolean) { frames := 0, cells := 0, slots := 0, locals := 0 } X N g [z_r N 4 i0] (zQi X N r g') := by
  refine z_ofW (own := RX1) (by decide +kernel) rfl (Nat.le_of_ble_eq_true rfl) ?_
  intro p e s m args below meth c ls hF hr hw hl
  have hl : lv_has ls 1 [(0, z_r N 4 i0)] := hl
  have hx := hF.1.1
  have hb := hF.1.2.1
  unfold sX1_isFixed at h
  generalize s.heap = H at hw ⊢
  generalize ([] : List Loc) = locs at hw ⊢
  refine lv_aload_n hx hb dX1_isFixed_0 rfl (lv_at hl 0 rfl) ?_
  refine zr_get hF hw he0 (by decide) zC_4 2 (by decide) qw_430 rfl dX1_isFixed_1 ?_
  refine lv_iconst hx hb dX1_isFixed_4 rfl ?_
  refine zr_icmp_eq (tgt := 22) hF h dX1_isFixed_5 (by decide) (fun h => ?_) (fun h => ?_)
  · exact wX1_isFixed_j22 hF hr  hw (lv_sub hl [] rfl) h
  · refine lv_aload_n hx hb dX1_isFixed_8 rfl (lv_at hl 0 rfl) ?_
    refine zr_get hF hw he0 (by decide) zC_4 2 (by decide) qw_430 rfl dX1_isFixed_9 ?_
    refine zr_if_ne (tgt := 26) hF h dX1_isFixed_12 (by decide) (fun h => ?_) (fun h => ?_)
    · refine lv_iconst hx hb dX1_isFixed_26 rfl ?_
      exact zr_zret hF hr hw h dX1_isFixed_27
    · refine lv_aload_n hx hb dX1_isFixed_15 rfl (lv_at hl 0 rfl) ?_
      refine zr_get hF hw he0 (by decide) zC_4 3 (by decide) qw_432 rfl dX1_isFixed_16 ?_
      refine zr_if_eq (tgt := 26) hF h dX1_isFixed_19 (by decide) (fun h => ?_) (fun h => ?_)
      · refine lv_iconst hx hb dX1_isFixed_26 rfl ?_
        exact zr_zret hF hr hw h dX1_isFixed_27
      · exact wX1_isFixed_j22 hF hr  hw (lv_sub hl [] rfl) h
set_option maxHeartbeats 4000000 in
set_option maxRecDepth 100000 in
theorem czX1_isListed (l : Launch) (X : zC) (N : zN) {i0 : Nat} {g g' : zG} {r : Int} (he0 : zE N 4 i0) (h : sX1_isListed i0 g = some (r, g')) : zM l yX1_isListed cX1_isListed 1 (some .boolean) { frames := 0, cells := 0, slots := 0, locals := 0 } X N g [z_r N 4 i0] (zQi X N r g') := by
  refine z_ofW (own := RX1) (by decide +kernel) rfl (Nat.le_of_ble_eq_true rfl) ?_
  intro p e s m args below meth c ls hF hr hw hl
  have hl : lv_has ls 1 [(0, z_r N 4 i0)] := hl
  have hx := hF.1.1
  have hb := hF.1.2.1
  unfold sX1_isListed at h
  generalize s.heap = H at hw ⊢
  generalize ([] : List Loc) = locs at hw ⊢
  refine lv_aload_n hx hb dX1_isListed_0 rfl (lv_at hl 0 rfl) ?_
  refine zr_get hF hw he0 (by decide) zC_4 2 (by decide) qw_430 rfl dX1_isListed_1 ?_
  refine zr_if_ne (tgt := 18) hF h dX1_isListed_4 (by decide) (fun h => ?_) (fun h => ?_)
  · refine lv_iconst hx hb dX1_isListed_18 rfl ?_
    exact zr_zret hF hr hw h dX1_isListed_19
  · refine lv_aload_n hx hb dX1_isListed_7 rfl (lv_at hl 0 rfl) ?_
    refine zr_get hF hw he0 (by decide) zC_4 3 (by decide) qw_432 rfl dX1_isListed_8 ?_
    refine zr_if_ne (tgt := 18) hF h dX1_isListed_11 (by decide) (fun h => ?_) (fun h => ?_)
    · refine lv_iconst hx hb dX1_isListed_18 rfl ?_
      exact zr_zret hF hr hw h dX1_isListed_19
    · refine lv_iconst hx hb dX1_isListed_14 rfl ?_
      refine lv_goto (tgt := 19) hx hb dX1_isListed_15 (by decide) ?_
      exact zr_zret hF hr hw h dX1_isListed_19
set_option maxHeartbeats 4000000 in
set_option maxRecDepth 100000 in
theorem czX1_lineTime (l : Launch) (X : zC) (N : zN) {i0 : Nat} {x1 : Int} {g g' : zG} {r : Int} (he0 : zE N 4 i0) (h : sX1_lineTime i0 x1 g = some (r, g')) : zM l yX1_lineTime cX1_lineTime 3 (some .int) { frames := 1, cells := 0, slots := 0, locals := 21 } X N g [z_r N 4 i0, z_v x1] (zQi X N r g') := by
  refine z_ofW (own := RX1) (by decide +kernel) rfl (Nat.le_of_ble_eq_true rfl) ?_
  intro p e s m args below meth c ls hF hr hw hl
  have hl : lv_has ls 3 [(0, z_r N 4 i0), (1, z_v x1)] := hl
  have hx := hF.1.1
  have hb := hF.1.2.1
  unfold sX1_lineTime at h
  generalize s.heap = H at hw ⊢
  generalize ([] : List Loc) = locs at hw ⊢
  refine lv_aload_n hx hb dX1_lineTime_0 rfl (lv_at hl 0 rfl) ?_
  refine lv_iload_n hx hb dX1_lineTime_1 rfl (lv_at hl 1 rfl) ?_
  obtain ⟨r1, g1, h1, h⟩ := zbd_some h
  refine zr_callVi (n := 1) (As := [z_v x1]) (rest := []) hF hw (czX1_behindAt l X N he0 h1) he0 (by decide) zC_4 (z_goodV qw_217 qw_218 qw_219 qw_49 qw_220) (by decide +kernel) ⟨Nat.le_of_ble_eq_true rfl, Nat.le_of_ble_eq_true rfl⟩ ⟨rfl, rfl⟩ rfl hl.1 rfl (Nat.le_of_ble_eq_true rfl) dX1_lineTime_2 ⟨Nat.le_of_ble_eq_true rfl, Nat.le_of_ble_eq_true rfl⟩ (fun H locs hw => ?_)
  clear h1
  generalize g1 = g at *
  refine lv_istore_n (lv' := [(2, z_v r1), (0, z_r N 4 i0), (1, z_v x1)]) hx hb dX1_lineTime_5 rfl hl (by decide) rfl (fun ls hl => ?_)
  refine lv_iload_n hx hb dX1_lineTime_6 rfl (lv_at hl 0 rfl) ?_
  refine lv_iconst hx hb dX1_lineTime_7 rfl ?_
  refine zr_icmp_ne (tgt := 13) hF h dX1_lineTime_8 (by decide) (fun h => ?_) (fun h => ?_)
  · refine lv_aload_n hx hb dX1_lineTime_13 rfl (lv_at hl 1 rfl) ?_
    refine zr_get hF hw he0 (by decide) zC_4 2 (by decide) qw_430 rfl dX1_lineTime_14 ?_
    refine lv_iconst hx hb dX1_lineTime_17 rfl ?_
    refine zr_icmp_ne (tgt := 28) hF h dX1_lineTime_18 (by decide) (fun h => ?_) (fun h => ?_)
    · refine lv_aload_n hx hb dX1_lineTime_28 rfl (lv_at hl 1 rfl) ?_
      refine zr_get hF hw he0 (by decide) zC_4 1 (by decide) qw_428 rfl dX1_lineTime_29 ?_
      refine lv_iload_n hx hb dX1_lineTime_32 rfl (lv_at hl 0 rfl) ?_
      refine zr_iadd hF dX1_lineTime_33 ?_
      exact zr_iret hF hr hw h dX1_lineTime_34
    · refine lv_aload_n hx hb dX1_lineTime_21 rfl (lv_at hl 1 rfl) ?_
      refine zr_get hF hw he0 (by decide) zC_4 6 (by decide) qw_438 rfl dX1_lineTime_22 ?_
      refine lv_goto (tgt := 32) hx hb dX1_lineTime_25 (by decide) ?_
      refine lv_iload_n hx hb dX1_lineTime_32 rfl (lv_at hl 0 rfl) ?_
      refine zr_iadd hF dX1_lineTime_33 ?_
      exact zr_iret hF hr hw h dX1_lineTime_34
  · refine lv_iconst hx hb dX1_lineTime_11 rfl ?_
    exact zr_iret hF hr hw h dX1_lineTime_12
set_option maxHeartbeats 4000000 in
set_option maxRecDepth 100000 in
theorem czX1_loseSlotTime (l : Launch) (X : zC) (N : zN) {i0 : Nat} {g g' : zG} {r : Int} (he0 : zE N 4 i0) (h : sX1_loseSlotTime i0 g = some (r, g')) : zM l yX1_loseSlotTime cX1_loseSlotTime 1 none { frames := 0, cells := 0, slots := 0, locals := 0 } X N g [z_r N 4 i0] (zQv X N g') := by
  refine z_ofW (own := RX1) (by decide +kernel) rfl (Nat.le_of_ble_eq_true rfl) ?_
  intro p e s m args below meth c ls hF hr hw hl
  have hl : lv_has ls 1 [(0, z_r N 4 i0)] := hl
  have hx := hF.1.1
  have hb := hF.1.2.1
  unfold sX1_loseSlotTime at h
  generalize s.heap = H at hw ⊢
  generalize ([] : List Loc) = locs at hw ⊢
  refine lv_aload_n hx hb dX1_loseSlotTime_0 rfl (lv_at hl 0 rfl) ?_
  refine lv_iconst hx hb dX1_loseSlotTime_1 rfl ?_
  refine zr_put hF hw he0 (by decide) zC_4 4 (by decide) (by decide) qw_434 rfl (by decide +kernel) h dX1_loseSlotTime_2 (fun g H locs hw h => ?_)
  refine lv_aload_n hx hb dX1_loseSlotTime_5 rfl (lv_at hl 0 rfl) ?_
  refine lv_iconst hx hb dX1_loseSlotTime_6 rfl ?_
  refine zr_put hF hw he0 (by decide) zC_4 5 (by decide) (by decide) qw_436 rfl (by decide +kernel) h dX1_loseSlotTime_7 (fun g H locs hw h => ?_)
  exact zr_vret hF hr hw h dX1_loseSlotTime_10
set_option maxHeartbeats 4000000 in
set_option maxRecDepth 100000 in
theorem czX1_delay (l : Launch) (X : zC) (N : zN) {i0 : Nat} {g g' : zG} {r : Int} (he0 : zE N 4 i0) (h : sX1_delay i0 g = some (r, g')) : zM l yX1_delay cX1_delay 1 (some .int) { frames := 0, cells := 0, slots := 0, locals := 0 } X N g [z_r N 4 i0] (zQi X N r g') := by
  refine z_ofW (own := RX1) (by decide +kernel) rfl (Nat.le_of_ble_eq_true rfl) ?_
  intro p e s m args below meth c ls hF hr hw hl
  have hl : lv_has ls 1 [(0, z_r N 4 i0)] := hl
  have hx := hF.1.1
  have hb := hF.1.2.1
  unfold sX1_delay at h
  generalize s.heap = H at hw ⊢
  generalize ([] : List Loc) = locs at hw ⊢
  refine lv_aload_n hx hb dX1_delay_0 rfl (lv_at hl 0 rfl) ?_
  refine zr_get hF hw he0 (by decide) zC_4 4 (by decide) qw_434 rfl dX1_delay_1 ?_
  refine lv_iconst hx hb dX1_delay_4 rfl ?_
  refine zr_icmp_eq (tgt := 20) hF h dX1_delay_5 (by decide) (fun h => ?_) (fun h => ?_)
  · refine lv_iconst hx hb dX1_delay_20 rfl ?_
    exact zr_iret hF hr hw h dX1_delay_21
  · refine lv_aload_n hx hb dX1_delay_8 rfl (lv_at hl 0 rfl) ?_
    refine zr_get hF hw he0 (by decide) zC_4 4 (by decide) qw_434 rfl dX1_delay_9 ?_
    refine lv_aload_n hx hb dX1_delay_12 rfl (lv_at hl 0 rfl) ?_
    refine zr_get hF hw he0 (by decide) zC_4 1 (by decide) qw_428 rfl dX1_delay_13 ?_
    refine zr_isub hF dX1_delay_16 ?_
    refine lv_goto (tgt := 21) hx hb dX1_delay_17 (by decide) ?_
    exact zr_iret hF hr hw h dX1_delay_21
set_option maxHeartbeats 4000000 in
set_option maxRecDepth 100000 in
theorem czX1_charge (l : Launch) (X : zC) (N : zN) {i0 : Nat} {g g' : zG} {r : Int} (he0 : zE N 4 i0) (h : sX1_charge i0 g = some (r, g')) : zM l yX1_charge cX1_charge 1 (some .int) { frames := 1, cells := 0, slots := 0, locals := 20 } X N g [z_r N 4 i0] (zQi X N r g') := by
  refine z_ofW (own := RX1) (by decide +kernel) rfl (Nat.le_of_ble_eq_true rfl) ?_
  intro p e s m args below meth c ls hF hr hw hl
  have hl : lv_has ls 1 [(0, z_r N 4 i0)] := hl
  have hx := hF.1.1
  have hb := hF.1.2.1
  unfold sX1_charge at h
  generalize s.heap = H at hw ⊢
  generalize ([] : List Loc) = locs at hw ⊢
  refine lv_aload_n hx hb dX1_charge_0 rfl (lv_at hl 0 rfl) ?_
  refine zr_get hF hw he0 (by decide) zC_4 2 (by decide) qw_430 rfl dX1_charge_1 ?_
  refine lv_iconst hx hb dX1_charge_4 rfl ?_
  refine zr_icmp_ne (tgt := 15) hF h dX1_charge_5 (by decide) (fun h => ?_) (fun h => ?_)
  · refine lv_iconst hx hb dX1_charge_15 rfl ?_
    exact zr_iret hF hr hw h dX1_charge_16
  · refine lv_aload_n hx hb dX1_charge_8 rfl (lv_at hl 0 rfl) ?_
    obtain ⟨r1, g1, h1, h⟩ := zbd_some h
    refine zr_callVi (n := 0) (As := []) (rest := []) hF hw (czX1_delay l X N he0 h1) he0 (by decide) zC_4 (z_goodV qw_726 qw_302 qw_303 qw_49 qw_304) (by decide +kernel) ⟨Nat.le_of_ble_eq_true rfl, Nat.le_of_ble_eq_true rfl⟩ ⟨rfl, rfl⟩ rfl hl.1 rfl (Nat.le_of_ble_eq_true rfl) dX1_charge_9 ⟨Nat.le_of_ble_eq_true rfl, Nat.le_of_ble_eq_true rfl⟩ (fun H locs hw => ?_)
    clear h1
    generalize g1 = g at *
    refine lv_goto (tgt := 16) hx hb dX1_charge_12 (by decide) ?_
    exact zr_iret hF hr hw h dX1_charge_16
set_option maxHeartbeats 4000000 in
set_option maxRecDepth 100000 in
theorem wX1_wentOutOfWindow_j43 {p : Program} {l : Launch} {e : Env} {s : State} {m : MethodId} {args : Array Value} {below : List Frame} {meth : Method} {c : Code} {X : zC} {N : zN} {r : Int} {g' : zG} {H : Heap} {locs : List Loc} {ls : Array Slot} (hF : zF p s m args meth c X cX1_wentOutOfWindow 1 RX1) (hr : meth.sig.returnType = (some .boolean)) {g : zG} (hw : zH X N g s H locs) (hl : lv_has ls 1 []) (h : sX1_wentOutOfWindow_j43 g = some (r, g')) : W p l e { frames := 0, cells := 0, slots := 0, locals := 0 } s m args below meth c H locs 0 0 (MQ below (zQi X N r g') args s 0 0 (zA X)) (F0 m 43 ls []) := by
  have hx := hF.1.1
  have hb := hF.1.2.1
  unfold sX1_wentOutOfWindow_j43 at h
  refine lv_iconst hx hb dX1_wentOutOfWindow_43 rfl ?_
  refine lv_goto (tgt := 48) hx hb dX1_wentOutOfWindow_44 (by decide) ?_
  exact zr_zret hF hr hw h dX1_wentOutOfWindow_48
set_option maxHeartbeats 4000000 in
set_option maxRecDepth 100000 in
theorem czX1_wentOutOfWindow (l : Launch) (X : zC) (N : zN) {i0 : Nat} {g g' : zG} {r : Int} (he0 : zE N 4 i0) (h : sX1_wentOutOfWindow i0 g = some (r, g')) : zM l yX1_wentOutOfWindow cX1_wentOutOfWindow 1 (some .boolean) { frames := 0, cells := 0, slots := 0, locals := 0 } X N g [z_r N 4 i0] (zQi X N r g') := by
  refine z_ofW (own := RX1) (by decide +kernel) rfl (Nat.le_of_ble_eq_true rfl) ?_
  intro p e s m args below meth c ls hF hr hw hl
  have hl : lv_has ls 1 [(0, z_r N 4 i0)] := hl
  have hx := hF.1.1
  have hb := hF.1.2.1
  unfold sX1_wentOutOfWindow at h
  generalize s.heap = H at hw ⊢
  generalize ([] : List Loc) = locs at hw ⊢
  refine lv_aload_n hx hb dX1_wentOutOfWindow_0 rfl (lv_at hl 0 rfl) ?_
  refine zr_get hF hw he0 (by decide) zC_4 2 (by decide) qw_430 rfl dX1_wentOutOfWindow_1 ?_
  refine lv_iconst hx hb dX1_wentOutOfWindow_4 rfl ?_
  refine zr_icmp_ne (tgt := 47) hF h dX1_wentOutOfWindow_5 (by decide) (fun h => ?_) (fun h => ?_)
  · refine lv_iconst hx hb dX1_wentOutOfWindow_47 rfl ?_
    exact zr_zret hF hr hw h dX1_wentOutOfWindow_48
  · refine lv_aload_n hx hb dX1_wentOutOfWindow_8 rfl (lv_at hl 0 rfl) ?_
    refine zr_get hF hw he0 (by decide) zC_4 4 (by decide) qw_434 rfl dX1_wentOutOfWindow_9 ?_
    refine lv_iconst hx hb dX1_wentOutOfWindow_12 rfl ?_
    refine zr_icmp_eq (tgt := 47) hF h dX1_wentOutOfWindow_13 (by decide) (fun h => ?_) (fun h => ?_)
    · refine lv_iconst hx hb dX1_wentOutOfWindow_47 rfl ?_
      exact zr_zret hF hr hw h dX1_wentOutOfWindow_48
    · refine lv_aload_n hx hb dX1_wentOutOfWindow_16 rfl (lv_at hl 0 rfl) ?_
      refine zr_get hF hw he0 (by decide) zC_4 6 (by decide) qw_438 rfl dX1_wentOutOfWindow_17 ?_
      refine lv_aload_n hx hb dX1_wentOutOfWindow_20 rfl (lv_at hl 0 rfl) ?_
      refine zr_get hF hw he0 (by decide) zC_4 4 (by decide) qw_434 rfl dX1_wentOutOfWindow_21 ?_
      refine lv_iconst hx hb dX1_wentOutOfWindow_24 rfl ?_
      refine zr_isub hF dX1_wentOutOfWindow_25 ?_
      refine zr_icmp_lt (tgt := 43) hF h dX1_wentOutOfWindow_26 (by decide) (fun h => ?_) (fun h => ?_)
      · exact wX1_wentOutOfWindow_j43 hF hr  hw (lv_sub hl [] rfl) h
      · refine lv_aload_n hx hb dX1_wentOutOfWindow_29 rfl (lv_at hl 0 rfl) ?_
        refine zr_get hF hw he0 (by decide) zC_4 6 (by decide) qw_438 rfl dX1_wentOutOfWindow_30 ?_
        refine lv_aload_n hx hb dX1_wentOutOfWindow_33 rfl (lv_at hl 0 rfl) ?_
        refine zr_get hF hw he0 (by decide) zC_4 4 (by decide) qw_434 rfl dX1_wentOutOfWindow_34 ?_
        refine lv_bipush (v := Int32.ofInt (10)) hx hb dX1_wentOutOfWindow_37 (by decide) ?_
        refine zr_iadd hF dX1_wentOutOfWindow_39 ?_
        refine zr_icmp_le (tgt := 47) hF h dX1_wentOutOfWindow_40 (by decide) (fun h => ?_) (fun h => ?_)
        · refine lv_iconst hx hb dX1_wentOutOfWindow_47 rfl ?_
          exact zr_zret hF hr hw h dX1_wentOutOfWindow_48
        · exact wX1_wentOutOfWindow_j43 hF hr  hw (lv_sub hl [] rfl) h
set_option maxHeartbeats 4000000 in
set_option maxRecDepth 100000 in
theorem czX1_ledgerLine (l : Launch) (X : zC) (N : zN) {i0 : Nat} {x1 : Int} {g g' : zG} {r : Int} (he0 : zE N 4 i0) (h : sX1_ledgerLine i0 x1 g = some (r, g')) : zM l yX1_ledgerLine cX1_ledgerLine 2 (some .int) { frames := 2, cells := 0, slots := 0, locals := 40 } X N g [z_r N 4 i0, z_v x1] (zQi X N r g') := by
  refine z_ofW (own := RX1) (by decide +kernel) rfl (Nat.le_of_ble_eq_true rfl) ?_
  intro p e s m args below meth c ls hF hr hw hl
  have hl : lv_has ls 2 [(0, z_r N 4 i0), (1, z_v x1)] := hl
  have hx := hF.1.1
  have hb := hF.1.2.1
  unfold sX1_ledgerLine at h
  generalize s.heap = H at hw ⊢
  generalize ([] : List Loc) = locs at hw ⊢
  refine lv_iload_n hx hb dX1_ledgerLine_0 rfl (lv_at hl 1 rfl) ?_
  refine zr_case h (fun c1_0 h => ?_) (fun c1_0 hz h => ?_)
  · rw [c1_0]
    refine lv_lookup (tgt := 28) (off := 27) hx hb dX1_ledgerLine_1 (by decide) (by decide) (by decide) ?_
    refine lv_aload_n hx hb dX1_ledgerLine_28 rfl (lv_at hl 0 rfl) ?_
    obtain ⟨r1, g1, h1, h⟩ := zbd_some h
    refine zr_callVi (n := 0) (As := []) (rest := []) hF hw (czX1_charge l X N he0 h1) he0 (by decide) zC_4 (z_goodV qw_811 qw_723 qw_724 qw_49 qw_725) (by decide +kernel) ⟨Nat.le_of_ble_eq_true rfl, Nat.le_of_ble_eq_true rfl⟩ ⟨rfl, rfl⟩ rfl hl.1 rfl (Nat.le_of_ble_eq_true rfl) dX1_ledgerLine_29 ⟨Nat.le_of_ble_eq_true rfl, Nat.le_of_ble_eq_true rfl⟩ (fun H locs hw => ?_)
    clear h1
    generalize g1 = g at *
    exact zr_iret hF hr hw h dX1_ledgerLine_32
  refine zr_case h (fun c1_1 h => ?_) (fun c1_1 hz h => ?_)
  · rw [c1_1]
    refine lv_lookup (tgt := 33) (off := 32) hx hb dX1_ledgerLine_1 (by decide) (by decide) (by decide) ?_
    refine lv_aload_n hx hb dX1_ledgerLine_33 rfl (lv_at hl 0 rfl) ?_
    obtain ⟨r2, g1, h1, h⟩ := zbd_some h
    refine zr_callVi (n := 0) (As := []) (rest := []) hF hw (czX1_wentOutOfWindow l X N he0 h1) he0 (by decide) zC_4 (z_goodV qw_812 qw_813 qw_814 qw_49 qw_815) (by decide +kernel) ⟨Nat.le_of_ble_eq_true rfl, Nat.le_of_ble_eq_true rfl⟩ ⟨rfl, rfl⟩ rfl hl.1 rfl (Nat.le_of_ble_eq_true rfl) dX1_ledgerLine_34 ⟨Nat.le_of_ble_eq_true rfl, Nat.le_of_ble_eq_true rfl⟩ (fun H locs hw => ?_)
    clear h1
    generalize g1 = g at *
    refine zr_if_eq (tgt := 44) hF h dX1_ledgerLine_37 (by decide) (fun h => ?_) (fun h => ?_)
    · refine lv_iconst hx hb dX1_ledgerLine_44 rfl ?_
      exact zr_iret hF hr hw h dX1_ledgerLine_45
    · refine lv_iconst hx hb dX1_ledgerLine_40 rfl ?_
      refine lv_goto (tgt := 45) hx hb dX1_ledgerLine_41 (by decide) ?_
      exact zr_iret hF hr hw h dX1_ledgerLine_45
  refine lv_lookup (tgt := 46) (off := 45) hx hb dX1_ledgerLine_1 (by decide) (by rw [Int32.toInt_ofInt_of_le (by omega) (by omega)]; simp [Op.lookupswitch.offset, Ne.symm c1_0, Ne.symm c1_1]) (by decide) ?_
  refine lv_aload_n hx hb dX1_ledgerLine_46 rfl (lv_at hl 0 rfl) ?_
  refine zr_get hF hw he0 (by decide) zC_4 2 (by decide) qw_430 rfl dX1_ledgerLine_47 ?_
  refine lv_iconst hx hb dX1_ledgerLine_50 rfl ?_
  refine zr_icmp_ne (tgt := 58) hF h dX1_ledgerLine_51 (by decide) (fun h => ?_) (fun h => ?_)
  · refine lv_iconst hx hb dX1_ledgerLine_58 rfl ?_
    exact zr_iret hF hr hw h dX1_ledgerLine_59
  · refine lv_iconst hx hb dX1_ledgerLine_54 rfl ?_
    refine lv_goto (tgt := 59) hx hb dX1_ledgerLine_55 (by decide) ?_
    exact zr_iret hF hr hw h dX1_ledgerLine_59
set_option maxHeartbeats 4000000 in
set_option maxRecDepth 100000 in
theorem czX1_forgetReckoned (l : Launch) (X : zC) (N : zN) {i0 : Nat} {g g' : zG} {r : Int} (he0 : zE N 4 i0) (h : sX1_forgetReckoned i0 g = some (r, g')) : zM l yX1_forgetReckoned cX1_forgetReckoned 1 none { frames := 0, cells := 0, slots := 0, locals := 0 } X N g [z_r N 4 i0] (zQv X N g') := by
  refine z_ofW (own := RX1) (by decide +kernel) rfl (Nat.le_of_ble_eq_true rfl) ?_
  intro p e s m args below meth c ls hF hr hw hl
  have hl : lv_has ls 1 [(0, z_r N 4 i0)] := hl
  have hx := hF.1.1
  have hb := hF.1.2.1
  unfold sX1_forgetReckoned at h
  generalize s.heap = H at hw ⊢
  generalize ([] : List Loc) = locs at hw ⊢
  refine lv_aload_n hx hb dX1_forgetReckoned_0 rfl (lv_at hl 0 rfl) ?_
  refine lv_iconst hx hb dX1_forgetReckoned_1 rfl ?_
  refine zr_put hF hw he0 (by decide) zC_4 12 (by decide) (by decide) qw_446 rfl (by decide +kernel) h dX1_forgetReckoned_2 (fun g H locs hw h => ?_)
  refine lv_aload_n hx hb dX1_forgetReckoned_5 rfl (lv_at hl 0 rfl) ?_
  refine lv_iconst hx hb dX1_forgetReckoned_6 rfl ?_
  refine zr_put hF hw he0 (by decide) zC_4 13 (by decide) (by decide) qw_448 rfl (by decide +kernel) h dX1_forgetReckoned_7 (fun g H locs hw h => ?_)
  exact zr_vret hF hr hw h dX1_forgetReckoned_10
set_option maxHeartbeats 4000000 in
set_option maxRecDepth 100000 in
theorem czX1_reckon (l : Launch) (X : zC) (N : zN) {i0 : Nat} {x1 : Int} {x2 : Int} {g g' : zG} {r : Int} (he0 : zE N 4 i0) (h : sX1_reckon i0 x1 x2 g = some (r, g')) : zM l yX1_reckon cX1_reckon 3 none { frames := 0, cells := 0, slots := 0, locals := 0 } X N g [z_r N 4 i0, z_v x1, z_v x2] (zQv X N g') := by
  refine z_ofW (own := RX1) (by decide +kernel) rfl (Nat.le_of_ble_eq_true rfl) ?_
  intro p e s m args below meth c ls hF hr hw hl
  have hl : lv_has ls 3 [(0, z_r N 4 i0), (1, z_v x1), (2, z_v x2)] := hl
  have hx := hF.1.1
  have hb := hF.1.2.1
  unfold sX1_reckon at h
  generalize s.heap = H at hw ⊢
  generalize ([] : List Loc) = locs at hw ⊢
  refine lv_iload_n hx hb dX1_reckon_0 rfl (lv_at hl 1 rfl) ?_
  refine lv_aload_n hx hb dX1_reckon_1 rfl (lv_at hl 0 rfl) ?_
  refine zr_get hF hw he0 (by decide) zC_4 12 (by decide) qw_446 rfl dX1_reckon_2 ?_
  refine zr_icmp_le (tgt := 18) hF h dX1_reckon_5 (by decide) (fun h => ?_) (fun h => ?_)
  · exact zr_vret hF hr hw h dX1_reckon_18
  · refine lv_aload_n hx hb dX1_reckon_8 rfl (lv_at hl 0 rfl) ?_
    refine lv_iload_n hx hb dX1_reckon_9 rfl (lv_at hl 1 rfl) ?_
    refine zr_put hF hw he0 (by decide) zC_4 12 (by decide) (by decide) qw_446 rfl (by decide +kernel) h dX1_reckon_10 (fun g H locs hw h => ?_)
    refine lv_aload_n hx hb dX1_reckon_13 rfl (lv_at hl 0 rfl) ?_
    refine lv_iload_n hx hb dX1_reckon_14 rfl (lv_at hl 2 rfl) ?_
    refine zr_put hF hw he0 (by decide) zC_4 13 (by decide) (by decide) qw_448 rfl (by decide +kernel) h dX1_reckon_15 (fun g H locs hw h => ?_)
    exact zr_vret hF hr hw h dX1_reckon_18
set_option maxHeartbeats 4000000 in
set_option maxRecDepth 100000 in
theorem wX1_takeReckoned_j50 {p : Program} {l : Launch} {e : Env} {s : State} {m : MethodId} {args : Array Value} {below : List Frame} {meth : Method} {c : Code} {X : zC} {N : zN} {r : Int} {g' : zG} {H : Heap} {locs : List Loc} {ls : Array Slot} (hF : zF p s m args meth c X cX1_takeReckoned 3 RX1) (hr : meth.sig.returnType = none) {i0 : Nat} {x2 : Int} {g : zG} (he0 : zE N 4 i0) (hw : zH X N g s H locs) (hl : lv_has ls 3 [(0, z_r N 4 i0), (2, z_v x2)]) (h : sX1_takeReckoned_j50 i0 x2 g = some (r, g')) : W p l e { frames := 1, cells := 0, slots := 0, locals := 20 } s m args below meth c H locs 0 0 (MQ below (zQv X N g') args s 0 0 (zA X)) (F0 m 50 ls []) := by
  have hx := hF.1.1
  have hb := hF.1.2.1
  unfold sX1_takeReckoned_j50 at h
  refine lv_aload_n hx hb dX1_takeReckoned_50 rfl (lv_at hl 0 rfl) ?_
  refine lv_iload_n hx hb dX1_takeReckoned_51 rfl (lv_at hl 1 rfl) ?_
  refine zr_put hF hw he0 (by decide) zC_4 4 (by decide) (by decide) qw_434 rfl (by decide +kernel) h dX1_takeReckoned_52 (fun g H locs hw h => ?_)
  refine lv_aload_n hx hb dX1_takeReckoned_55 rfl (lv_at hl 0 rfl) ?_
  refine lv_aload_n hx hb dX1_takeReckoned_56 rfl (lv_at hl 0 rfl) ?_
  refine zr_get hF hw he0 (by decide) zC_4 13 (by decide) qw_448 rfl dX1_takeReckoned_57 ?_
  refine zr_put hF hw he0 (by decide) zC_4 5 (by decide) (by decide) qw_436 rfl (by decide +kernel) h dX1_takeReckoned_60 (fun g H locs hw h => ?_)
  exact zr_vret hF hr hw h dX1_takeReckoned_63
set_option maxHeartbeats 4000000 in
set_option maxRecDepth 100000 in
theorem czX1_takeReckoned (l : Launch) (X : zC) (N : zN) {i0 : Nat} {x1 : Int} {g g' : zG} {r : Int} (he0 : zE N 4 i0) (h : sX1_takeReckoned i0 x1 g = some (r, g')) : zM l yX1_takeReckoned cX1_takeReckoned 3 none { frames := 1, cells := 0, slots := 0, locals := 20 } X N g [z_r N 4 i0, z_v x1] (zQv X N g') := by
  refine z_ofW (own := RX1) (by decide +kernel) rfl (Nat.le_of_ble_eq_true rfl) ?_
  intro p e s m args below meth c ls hF hr hw hl
  have hl : lv_has ls 3 [(0, z_r N 4 i0), (1, z_v x1)] := hl
  have hx := hF.1.1
  have hb := hF.1.2.1
  unfold sX1_takeReckoned at h
  generalize s.heap = H at hw ⊢
  generalize ([] : List Loc) = locs at hw ⊢
  refine lv_aload_n hx hb dX1_takeReckoned_0 rfl (lv_at hl 0 rfl) ?_
  obtain ⟨r1, g1, h1, h⟩ := zbd_some h
  refine zr_callVi (n := 0) (As := []) (rest := []) hF hw (czX1_isListed l X N he0 h1) he0 (by decide) zC_4 (z_goodV qw_296 qw_234 qw_235 qw_49 qw_236) (by decide +kernel) ⟨Nat.le_of_ble_eq_true rfl, Nat.le_of_ble_eq_true rfl⟩ ⟨rfl, rfl⟩ rfl hl.1 rfl (Nat.le_of_ble_eq_true rfl) dX1_takeReckoned_1 ⟨Nat.le_of_ble_eq_true rfl, Nat.le_of_ble_eq_true rfl⟩ (fun H locs hw => ?_)
  clear h1
  generalize g1 = g at *
  refine zr_if_ne (tgt := 8) hF h dX1_takeReckoned_4 (by decide) (fun h => ?_) (fun h => ?_)
  · refine lv_aload_n hx hb dX1_takeReckoned_8 rfl (lv_at hl 0 rfl) ?_
    refine zr_get hF hw he0 (by decide) zC_4 12 (by decide) qw_446 rfl dX1_takeReckoned_9 ?_
    refine zr_if_ne (tgt := 20) hF h dX1_takeReckoned_12 (by decide) (fun h => ?_) (fun h => ?_)
    · refine lv_aload_n hx hb dX1_takeReckoned_20 rfl (lv_at hl 0 rfl) ?_
      refine zr_get hF hw he0 (by decide) zC_4 1 (by decide) qw_428 rfl dX1_takeReckoned_21 ?_
      refine lv_aload_n hx hb dX1_takeReckoned_24 rfl (lv_at hl 0 rfl) ?_
      refine zr_get hF hw he0 (by decide) zC_4 12 (by decide) qw_446 rfl dX1_takeReckoned_25 ?_
      refine zr_iadd hF dX1_takeReckoned_28 ?_
      refine zr_let h (fun v2 h => ?_)
      refine lv_istore_n (lv' := [(2, z_v v2), (0, z_r N 4 i0), (1, z_v x1)]) hx hb dX1_takeReckoned_29 rfl hl (by decide) rfl (fun ls hl => ?_)
      refine lv_iload_n hx hb dX1_takeReckoned_30 rfl (lv_at hl 2 rfl) ?_
      refine zr_if_ne (tgt := 50) hF h dX1_takeReckoned_31 (by decide) (fun h => ?_) (fun h => ?_)
      · exact wX1_takeReckoned_j50 hF hr he0 hw (lv_sub hl [1, 0] rfl) h
      · refine lv_aload_n hx hb dX1_takeReckoned_34 rfl (lv_at hl 1 rfl) ?_
        refine zr_get hF hw he0 (by decide) zC_4 4 (by decide) qw_434 rfl dX1_takeReckoned_35 ?_
        refine lv_iconst hx hb dX1_takeReckoned_38 rfl ?_
        refine zr_icmp_eq (tgt := 50) hF h dX1_takeReckoned_39 (by decide) (fun h => ?_) (fun h => ?_)
        · exact wX1_takeReckoned_j50 hF hr he0 hw (lv_sub hl [1, 0] rfl) h
        · refine lv_iload_n hx hb dX1_takeReckoned_42 rfl (lv_at hl 0 rfl) ?_
          refine lv_aload_n hx hb dX1_takeReckoned_43 rfl (lv_at hl 1 rfl) ?_
          refine zr_get hF hw he0 (by decide) zC_4 4 (by decide) qw_434 rfl dX1_takeReckoned_44 ?_
          refine zr_icmp_gt (tgt := 63) hF h dX1_takeReckoned_47 (by decide) (fun h => ?_) (fun h => ?_)
          · exact zr_vret hF hr hw h dX1_takeReckoned_63
          · exact wX1_takeReckoned_j50 hF hr he0 hw (lv_sub hl [1, 0] rfl) h
    · refine lv_aload_n hx hb dX1_takeReckoned_15 rfl (lv_at hl 0 rfl) ?_
      obtain ⟨r3, g1, h1, h⟩ := zbd_some h
      refine zr_callVv (n := 0) (As := []) (rest := []) hF hw (czX1_loseSlotTime l X N he0 h1) he0 (by decide) zC_4 (z_goodV qw_297 qw_298 qw_299 qw_49 qw_300) (by decide +kernel) ⟨Nat.le_of_ble_eq_true rfl, Nat.le_of_ble_eq_true rfl⟩ ⟨rfl, rfl⟩ rfl hl.1 rfl (Nat.le_of_ble_eq_true rfl) dX1_takeReckoned_16 ⟨Nat.le_of_ble_eq_true rfl, Nat.le_of_ble_eq_true rfl⟩ (fun H locs hw => ?_)
      clear h1
      generalize g1 = g at *
      exact zr_vret hF hr hw h dX1_takeReckoned_19
  · exact zr_vret hF hr hw h dX1_takeReckoned_7
set_option maxHeartbeats 4000000 in
set_option maxRecDepth 100000 in
theorem czX1_sharesRuling (l : Launch) (X : zC) (N : zN) {i0 : Nat} {i1 : Nat} {g g' : zG} {r : Int} (he0 : zE N 4 i0) (he1 : zE N 4 i1) (h : sX1_sharesRuling i0 i1 g = some (r, g')) : zM l yX1_sharesRuling cX1_sharesRuling 2 (some .boolean) { frames := 0, cells := 0, slots := 0, locals := 0 } X N g [z_r N 4 i0, z_r N 4 i1] (zQi X N r g') := by
  refine z_ofW (own := RX1) (by decide +kernel) rfl (Nat.le_of_ble_eq_true rfl) ?_
  intro p e s m args below meth c ls hF hr hw hl
  have hl : lv_has ls 2 [(0, z_r N 4 i0), (1, z_r N 4 i1)] := hl
  have hx := hF.1.1
  have hb := hF.1.2.1
  unfold sX1_sharesRuling at h
  generalize s.heap = H at hw ⊢
  generalize ([] : List Loc) = locs at hw ⊢
  refine lv_aload_n hx hb dX1_sharesRuling_0 rfl (lv_at hl 0 rfl) ?_
  refine zr_get hF hw he0 (by decide) zC_4 2 (by decide) qw_430 rfl dX1_sharesRuling_1 ?_
  refine zr_if_ne (tgt := 56) hF h dX1_sharesRuling_4 (by decide) (fun h => ?_) (fun h => ?_)
  · refine lv_iconst hx hb dX1_sharesRuling_56 rfl ?_
    exact zr_zret hF hr hw h dX1_sharesRuling_57
  · refine lv_aload_n hx hb dX1_sharesRuling_7 rfl (lv_at hl 1 rfl) ?_
    refine zr_get hF hw he1 (by decide) zC_4 2 (by decide) qw_430 rfl dX1_sharesRuling_8 ?_
    refine zr_if_ne (tgt := 56) hF h dX1_sharesRuling_11 (by decide) (fun h => ?_) (fun h => ?_)
    · refine lv_iconst hx hb dX1_sharesRuling_56 rfl ?_
      exact zr_zret hF hr hw h dX1_sharesRuling_57
    · refine lv_aload_n hx hb dX1_sharesRuling_14 rfl (lv_at hl 0 rfl) ?_
      refine zr_get hF hw he0 (by decide) zC_4 0 (by decide) qw_426 rfl dX1_sharesRuling_15 ?_
      refine lv_aload_n hx hb dX1_sharesRuling_18 rfl (lv_at hl 1 rfl) ?_
      refine zr_get hF hw he1 (by decide) zC_4 0 (by decide) qw_426 rfl dX1_sharesRuling_19 ?_
      refine zr_icmp_ne (tgt := 56) hF h dX1_sharesRuling_22 (by decide) (fun h => ?_) (fun h => ?_)
      · refine lv_iconst hx hb dX1_sharesRuling_56 rfl ?_
        exact zr_zret hF hr hw h dX1_sharesRuling_57
      · refine lv_aload_n hx hb dX1_sharesRuling_25 rfl (lv_at hl 0 rfl) ?_
        refine zr_get hF hw he0 (by decide) zC_4 4 (by decide) qw_434 rfl dX1_sharesRuling_26 ?_
        refine lv_iconst hx hb dX1_sharesRuling_29 rfl ?_
        refine zr_icmp_eq (tgt := 56) hF h dX1_sharesRuling_30 (by decide) (fun h => ?_) (fun h => ?_)
        · refine lv_iconst hx hb dX1_sharesRuling_56 rfl ?_
          exact zr_zret hF hr hw h dX1_sharesRuling_57
        · refine lv_aload_n hx hb dX1_sharesRuling_33 rfl (lv_at hl 1 rfl) ?_
          refine zr_get hF hw he1 (by decide) zC_4 4 (by decide) qw_434 rfl dX1_sharesRuling_34 ?_
          refine lv_iconst hx hb dX1_sharesRuling_37 rfl ?_
          refine zr_icmp_eq (tgt := 56) hF h dX1_sharesRuling_38 (by decide) (fun h => ?_) (fun h => ?_)
          · refine lv_iconst hx hb dX1_sharesRuling_56 rfl ?_
            exact zr_zret hF hr hw h dX1_sharesRuling_57
          · refine lv_aload_n hx hb dX1_sharesRuling_41 rfl (lv_at hl 0 rfl) ?_
            refine zr_get hF hw he0 (by decide) zC_4 5 (by decide) qw_436 rfl dX1_sharesRuling_42 ?_
            refine lv_aload_n hx hb dX1_sharesRuling_45 rfl (lv_at hl 1 rfl) ?_
            refine zr_get hF hw he1 (by decide) zC_4 5 (by decide) qw_436 rfl dX1_sharesRuling_46 ?_
            refine zr_icmp_ne (tgt := 56) hF h dX1_sharesRuling_49 (by decide) (fun h => ?_) (fun h => ?_)
            · refine lv_iconst hx hb dX1_sharesRuling_56 rfl ?_
              exact zr_zret hF hr hw h dX1_sharesRuling_57
            · refine lv_iconst hx hb dX1_sharesRuling_52 rfl ?_
              refine lv_goto (tgt := 57) hx hb dX1_sharesRuling_53 (by decide) ?_
              exact zr_zret hF hr hw h dX1_sharesRuling_57
set_option maxHeartbeats 4000000 in
set_option maxRecDepth 100000 in
theorem czX1_follow (l : Launch) (X : zC) (N : zN) {i0 : Nat} {x1 : Int} {x2 : Int} {g g' : zG} {r : Int} (he0 : zE N 4 i0) (h : sX1_follow i0 x1 x2 g = some (r, g')) : zM l yX1_follow cX1_follow 3 none { frames := 1, cells := 0, slots := 0, locals := 20 } X N g [z_r N 4 i0, z_v x1, z_v x2] (zQv X N g') := by
  refine z_ofW (own := RX1) (by decide +kernel) rfl (Nat.le_of_ble_eq_true rfl) ?_
  intro p e s m args below meth c ls hF hr hw hl
  have hl : lv_has ls 3 [(0, z_r N 4 i0), (1, z_v x1), (2, z_v x2)] := hl
  have hx := hF.1.1
  have hb := hF.1.2.1
  unfold sX1_follow at h
  generalize s.heap = H at hw ⊢
  generalize ([] : List Loc) = locs at hw ⊢
  refine lv_iload_n hx hb dX1_follow_0 rfl (lv_at hl 1 rfl) ?_
  refine zr_if_ne (tgt := 24) hF h dX1_follow_1 (by decide) (fun h => ?_) (fun h => ?_)
  · refine lv_iload_n hx hb dX1_follow_24 rfl (lv_at hl 1 rfl) ?_
    refine lv_iconst hx hb dX1_follow_25 rfl ?_
    refine zr_icmp_ne (tgt := 37) hF h dX1_follow_26 (by decide) (fun h => ?_) (fun h => ?_)
    · refine lv_aload_n hx hb dX1_follow_37 rfl (lv_at hl 0 rfl) ?_
      refine lv_iconst hx hb dX1_follow_38 rfl ?_
      refine zr_put hF hw he0 (by decide) zC_4 2 (by decide) (by decide) qw_430 rfl (by decide +kernel) h dX1_follow_39 (fun g H locs hw h => ?_)
      refine lv_aload_n hx hb dX1_follow_42 rfl (lv_at hl 0 rfl) ?_
      refine lv_iload_n hx hb dX1_follow_43 rfl (lv_at hl 2 rfl) ?_
      refine zr_put hF hw he0 (by decide) zC_4 6 (by decide) (by decide) qw_438 rfl (by decide +kernel) h dX1_follow_44 (fun g H locs hw h => ?_)
      exact zr_vret hF hr hw h dX1_follow_47
    · refine lv_aload_n hx hb dX1_follow_29 rfl (lv_at hl 0 rfl) ?_
      refine lv_iconst hx hb dX1_follow_30 rfl ?_
      refine zr_put hF hw he0 (by decide) zC_4 2 (by decide) (by decide) qw_430 rfl (by decide +kernel) h dX1_follow_31 (fun g H locs hw h => ?_)
      refine lv_goto (tgt := 47) hx hb dX1_follow_34 (by decide) ?_
      exact zr_vret hF hr hw h dX1_follow_47
  · refine lv_aload_n hx hb dX1_follow_4 rfl (lv_at hl 0 rfl) ?_
    refine lv_iload_n hx hb dX1_follow_5 rfl (lv_at hl 2 rfl) ?_
    refine zr_put hF hw he0 (by decide) zC_4 1 (by decide) (by decide) qw_428 rfl (by decide +kernel) h dX1_follow_6 (fun g H locs hw h => ?_)
    refine lv_aload_n hx hb dX1_follow_9 rfl (lv_at hl 0 rfl) ?_
    refine zr_get hF hw he0 (by decide) zC_4 4 (by decide) qw_434 rfl dX1_follow_10 ?_
    refine lv_iload_n hx hb dX1_follow_13 rfl (lv_at hl 2 rfl) ?_
    refine zr_icmp_ge (tgt := 47) hF h dX1_follow_14 (by decide) (fun h => ?_) (fun h => ?_)
    · exact zr_vret hF hr hw h dX1_follow_47
    · refine lv_aload_n hx hb dX1_follow_17 rfl (lv_at hl 0 rfl) ?_
      obtain ⟨r1, g1, h1, h⟩ := zbd_some h
      refine zr_callVv (n := 0) (As := []) (rest := []) hF hw (czX1_loseSlotTime l X N he0 h1) he0 (by decide) zC_4 (z_goodV qw_297 qw_298 qw_299 qw_49 qw_300) (by decide +kernel) ⟨Nat.le_of_ble_eq_true rfl, Nat.le_of_ble_eq_true rfl⟩ ⟨rfl, rfl⟩ rfl hl.1 rfl (Nat.le_of_ble_eq_true rfl) dX1_follow_18 ⟨Nat.le_of_ble_eq_true rfl, Nat.le_of_ble_eq_true rfl⟩ (fun H locs hw => ?_)
      clear h1
      generalize g1 = g at *
      refine lv_goto (tgt := 47) hx hb dX1_follow_21 (by decide) ?_
      exact zr_vret hF hr hw h dX1_follow_47
end
section
/-! lines and regulations, over the machine -/
def sX2_clear (i0 : Nat) (g : zG) : Option (Int × zG) := zst g 3 i0 4 0 (fun g => some (0, g))
def sX2_add_j65 (n : Nat) (K : Nat → Nat → Int → Int → Int → zG → Option (Int × zG)) (i0 : Nat) (x1 : Int) (x2 : Int) (x3 : Int) (g : zG) : Option (Int × zG) := zix x3 24 (zst g 10 i0 (x3).toNat x1 (fun g => zix x3 24 (zst g 11 i0 (x3).toNat x2 (fun g => zix (g 3 i0 4) 24 (zst g 12 i0 (g 3 i0 4).toNat (-1) (fun g => zix (g 3 i0 4) 24 (zst g 13 i0 (g 3 i0 4).toNat (-1) (fun g => zst g 3 i0 4 ((g 3 i0 4) + 1) (fun g => some (0, g))))))))))
def sX2_add_h15 (n : Nat) (K : Nat → Nat → Int → Int → Int → zG → Option (Int × zG)) (i0 : Nat) (x1 : Int) (x2 : Int) (x3 : Int) (g : zG) : Option (Int × zG) := zle x3 0 ((sX2_add_j65 n K i0 x1 x2 x3 g)) (zix (x3 - 1) 24 (zle (g 11 i0 (x3 - 1).toNat) x2 ((sX2_add_j65 n K i0 x1 x2 x3 g)) (zix (x3 - 1) 24 (zix x3 24 (zst g 10 i0 (x3).toNat (g 10 i0 (x3 - 1).toNat) (fun g => zix (x3 - 1) 24 (zix x3 24 (zst g 11 i0 (x3).toNat (g 11 i0 (x3 - 1).toNat) (fun g => zlet (x3 + (-1)) (fun v1 => (K 0 i0 x1 x2 v1 g)))))))))))
def sX2_add_run (n0 : Nat) : Nat → Nat → Nat → Int → Int → Int → zG → Option (Int × zG)
  | 0, _, _, _, _, _, _ => none
  | n + 1, 0, i0, x1, x2, x3, g => sX2_add_h15 n0 (sX2_add_run n0 n) i0 x1 x2 x3 g
  | _ + 1, _, _, _, _, _, _ => none
def sX2_add (n : Nat) (i0 : Nat) (x1 : Int) (x2 : Int) (g : zG) : Option (Int × zG) := zlt (g 3 i0 4) 24 (zlet (g 3 i0 4) (fun v1 => (sX2_add_run n n 0 i0 x1 x2 v1 g))) (some (0, g))
def sX2_has (i0 : Nat) (x1 : Int) (g : zG) : Option (Int × zG) := zlt x1 0 (zbo 0 (some (0, g))) (zlt x1 (g 3 i0 4) (zlt x1 24 (zbo 1 (some (1, g))) (zbo 0 (some (0, g)))) (zbo 0 (some (0, g))))
def sX2_timeAt (i0 : Nat) (x1 : Int) (g : zG) : Option (Int × zG) := zbd (sX2_has i0 x1 g) (fun r1 g => zeq r1 0 (some ((-1), g)) (zix x1 24 (some (g 11 i0 (x1).toNat, g))))
def sX2_give (i0 : Nat) (x1 : Int) (x2 : Int) (x3 : Int) (g : zG) : Option (Int × zG) := zbd (sX2_has i0 x1 g) (fun r1 g => zeq r1 0 (some (0, g)) (zix x1 24 (zst g 12 i0 (x1).toNat x2 (fun g => zix x1 24 (zst g 13 i0 (x1).toNat x3 (fun g => some (0, g)))))))
def sX2_hasGiven_h2 (n : Nat) (K : Nat → Nat → Int → Int → zG → Option (Int × zG)) (i0 : Nat) (x1 : Int) (x2 : Int) (g : zG) : Option (Int × zG) := zlt x2 (g 3 i0 4) (zlt x2 24 (zix x2 24 (zeq (g 12 i0 (x2).toNat) x1 (zbo 1 (some (1, g))) (zlet (x2 + 1) (fun v1 => (K 0 i0 x1 v1 g))))) (zbo 0 (some (0, g)))) (zbo 0 (some (0, g)))
def sX2_hasGiven_run (n0 : Nat) : Nat → Nat → Nat → Int → Int → zG → Option (Int × zG)
  | 0, _, _, _, _, _ => none
  | n + 1, 0, i0, x1, x2, g => sX2_hasGiven_h2 n0 (sX2_hasGiven_run n0 n) i0 x1 x2 g
  | _ + 1, _, _, _, _, _ => none
def sX2_hasGiven (n : Nat) (i0 : Nat) (x1 : Int) (g : zG) : Option (Int × zG) := (sX2_hasGiven_run n n 0 i0 x1 0 g)
def sX2_placeOf_h2 (n : Nat) (K : Nat → Nat → Int → Int → zG → Option (Int × zG)) (i0 : Nat) (x1 : Int) (x2 : Int) (g : zG) : Option (Int × zG) := zlt x2 (g 3 i0 4) (zlt x2 24 (zix x2 24 (zeq (g 10 i0 (x2).toNat) x1 (some (x2, g)) (zlet (x2 + 1) (fun v1 => (K 0 i0 x1 v1 g))))) (some ((-1), g))) (some ((-1), g))
def sX2_placeOf_run (n0 : Nat) : Nat → Nat → Nat → Int → Int → zG → Option (Int × zG)
  | 0, _, _, _, _, _ => none
  | n + 1, 0, i0, x1, x2, g => sX2_placeOf_h2 n0 (sX2_placeOf_run n0 n) i0 x1 x2 g
  | _ + 1, _, _, _, _, _ => none
def sX2_placeOf (n : Nat) (i0 : Nat) (x1 : Int) (g : zG) : Option (Int × zG) := (sX2_placeOf_run n n 0 i0 x1 0 g)
def sX2_penaltyOf (n : Nat) (i0 : Nat) (x1 : Int) (g : zG) : Option (Int × zG) := zbd (sX2_placeOf n i0 x1 g) (fun r1 g => zbd (sX2_has i0 r1 g) (fun r2 g => zeq r2 0 (some ((-1), g)) (zix r1 24 (zix r1 24 (some ((g 13 i0 (r1).toNat) - (g 11 i0 (r1).toNat), g))))))
def sX2_countAheadOf_h2 (n : Nat) (K : Nat → Nat → Int → Int → zG → Option (Int × zG)) (i0 : Nat) (x1 : Int) (x3 : Int) (g : zG) : Option (Int × zG) := zlt x3 (g 3 i0 4) (zbd (sX2_timeAt i0 x3 g) (fun r1 g => zlt r1 x1 (zlet (x3 + 1) (fun v2 => (K 0 i0 x1 v2 g))) (some (x3, g)))) (some (x3, g))
def sX2_countAheadOf_run (n0 : Nat) : Nat → Nat → Nat → Int → Int → zG → Option (Int × zG)
  | 0, _, _, _, _, _ => none
  | n + 1, 0, i0, x1, x3, g => sX2_countAheadOf_h2 n0 (sX2_countAheadOf_run n0 n) i0 x1 x3 g
  | _ + 1, _, _, _, _, _ => none
def sX2_countAheadOf (n : Nat) (i0 : Nat) (x1 : Int) (x2 : Int) (g : zG) : Option (Int × zG) := (sX2_countAheadOf_run n n 0 i0 x1 x2 g)
def sX2_canTake (i0 : Nat) (x1 : Int) (x2 : Int) (g : zG) : Option (Int × zG) := zbd (sX2_has i0 x1 g) (fun r1 g => zeq r1 0 (zbo 0 (some (0, g))) (zix x1 24 (zlt (g 11 i0 (x1).toNat) x2 (zbo 1 (some (1, g))) (zbo 0 (some (0, g))))))
def sX3_holdsAt (i0 : Nat) (x1 : Int) (g : zG) : Option (Int × zG) := zlt x1 (g 5 i0 1) (zbo 0 (some (0, g))) (zlt x1 (g 5 i0 2) (zbo 1 (some (1, g))) (zbo 0 (some (0, g))))
def sX3_slotCount (i0 : Nat) (g : zG) : Option (Int × zG) := zeq (g 5 i0 4) 0 (zdv (((((g 5 i0 2) - (g 5 i0 1)) * (g 5 i0 3)) + 60) - 1) 60 (some ((((((g 5 i0 2) - (g 5 i0 1)) * (g 5 i0 3)) + 60) - 1).tdiv 60, g))) (some (0, g))
def sX3_slotBegin (i0 : Nat) (x1 : Int) (g : zG) : Option (Int × zG) := zle (g 5 i0 3) 0 (some (g 5 i0 2, g)) (zdv (60 * x1) (g 5 i0 3) (some ((g 5 i0 1) + ((60 * x1).tdiv (g 5 i0 3)), g)))
def sX3_slotEnd (i0 : Nat) (x1 : Int) (g : zG) : Option (Int × zG) := zbd (sX3_slotBegin i0 (x1 + 1) g) (fun r1 g => zri r1 (zri (g 5 i0 2) (some (min r1 (g 5 i0 2), g))))
set_option maxHeartbeats 4000000 in
set_option maxRecDepth 100000 in
theorem czX2_clear (l : Launch) (X : zC) (N : zN) {i0 : Nat} {g g' : zG} {r : Int} (he0 : zE N 3 i0) (h : sX2_clear i0 g = some (r, g')) : zM l yX2_clear cX2_clear 1 none { frames := 0, cells := 0, slots := 0, locals := 0 } X N g [z_r N 3 i0] (zQv X N g') := by
  refine z_ofW (own := RX2) (by decide +kernel) rfl (Nat.le_of_ble_eq_true rfl) ?_
  intro p e s m args below meth c ls hF hr hw hl
  have hl : lv_has ls 1 [(0, z_r N 3 i0)] := hl
  have hx := hF.1.1
  have hb := hF.1.2.1
  unfold sX2_clear at h
  generalize s.heap = H at hw ⊢
  generalize ([] : List Loc) = locs at hw ⊢
  refine lv_aload_n hx hb dX2_clear_0 rfl (lv_at hl 0 rfl) ?_
  refine lv_iconst hx hb dX2_clear_1 rfl ?_
  refine zr_put hF hw he0 (by decide) zC_3 4 (by decide) (by decide) qw_107 rfl (by decide +kernel) h dX2_clear_2 (fun g H locs hw h => ?_)
  exact zr_vret hF hr hw h dX2_clear_5
set_option maxHeartbeats 4000000 in
set_option maxRecDepth 100000 in
theorem wX2_add_j65 {p : Program} {l : Launch} {e : Env} {s : State} {m : MethodId} {args : Array Value} {below : List Frame} {meth : Method} {c : Code} {X : zC} {N : zN} {r : Int} {g' : zG} {H : Heap} {locs : List Loc} {ls : Array Slot} (hF : zF p s m args meth c X cX2_add 4 RX2) (hr : meth.sig.returnType = none) {n : Nat} {K : Nat → Nat → Int → Int → Int → zG → Option (Int × zG)} (hK0 : ∀ (i0 : Nat) (x1 : Int) (x2 : Int) (x3 : Int) (g : zG) (H : Heap) (locs : List Loc) (ls : Array Slot), zE N 3 i0 → zH X N g s H locs → lv_has ls 4 [(0, z_r N 3 i0), (1, z_v x1), (2, z_v x2), (3, z_v x3)] → K 0 i0 x1 x2 x3 g = some (r, g') → W p l e { frames := 0, cells := 0, slots := 0, locals := 0 } s m args below meth c H locs 0 0 (MQ below (zQv X N g') args s 0 0 (zA X)) (F0 m 15 ls [])) {i0 : Nat} {x1 : Int} {x2 : Int} {x3 : Int} {g : zG} (he0 : zE N 3 i0) (hw : zH X N g s H locs) (hl : lv_has ls 4 [(0, z_r N 3 i0), (1, z_v x1), (2, z_v x2), (3, z_v x3)]) (h : sX2_add_j65 n K i0 x1 x2 x3 g = some (r, g')) : W p l e { frames := 0, cells := 0, slots := 0, locals := 0 } s m args below meth c H locs 0 0 (MQ below (zQv X N g') args s 0 0 (zA X)) (F0 m 65 ls []) := by
  have hx := hF.1.1
  have hb := hF.1.2.1
  unfold sX2_add_j65 at h
  refine lv_aload_n hx hb dX2_add_65 rfl (lv_at hl 0 rfl) ?_
  refine zr_get hF hw he0 (by decide) zC_3 0 (by decide) qw_103 rfl dX2_add_66 ?_
  refine lv_iload_n hx hb dX2_add_69 rfl (lv_at hl 3 rfl) ?_
  refine lv_iload_n hx hb dX2_add_70 rfl (lv_at hl 1 rfl) ?_
  refine zr_iast hF hw (zE_ln he0).1 (by decide) h dX2_add_71 (fun g H locs hw h => ?_)
  refine lv_aload_n hx hb dX2_add_72 rfl (lv_at hl 0 rfl) ?_
  refine zr_get hF hw he0 (by decide) zC_3 1 (by decide) qw_104 rfl dX2_add_73 ?_
  refine lv_iload_n hx hb dX2_add_76 rfl (lv_at hl 3 rfl) ?_
  refine lv_iload_n hx hb dX2_add_77 rfl (lv_at hl 2 rfl) ?_
  refine zr_iast hF hw (zE_ln he0).2.1 (by decide) h dX2_add_78 (fun g H locs hw h => ?_)
  refine lv_aload_n hx hb dX2_add_79 rfl (lv_at hl 0 rfl) ?_
  refine zr_get hF hw he0 (by decide) zC_3 2 (by decide) qw_105 rfl dX2_add_80 ?_
  refine lv_aload_n hx hb dX2_add_83 rfl (lv_at hl 0 rfl) ?_
  refine zr_get hF hw he0 (by decide) zC_3 4 (by decide) qw_107 rfl dX2_add_84 ?_
  refine lv_iconst hx hb dX2_add_87 rfl ?_
  refine zr_iast hF hw (zE_ln he0).2.2.1 (by decide) h dX2_add_88 (fun g H locs hw h => ?_)
  refine lv_aload_n hx hb dX2_add_89 rfl (lv_at hl 0 rfl) ?_
  refine zr_get hF hw he0 (by decide) zC_3 3 (by decide) qw_106 rfl dX2_add_90 ?_
  refine lv_aload_n hx hb dX2_add_93 rfl (lv_at hl 0 rfl) ?_
  refine zr_get hF hw he0 (by decide) zC_3 4 (by decide) qw_107 rfl dX2_add_94 ?_
  refine lv_iconst hx hb dX2_add_97 rfl ?_
  refine zr_iast hF hw (zE_ln he0).2.2.2 (by decide) h dX2_add_98 (fun g H locs hw h => ?_)
  refine lv_aload_n hx hb dX2_add_99 rfl (lv_at hl 0 rfl) ?_
  refine lv_dup hx hb dX2_add_100 rfl ?_
  refine zr_get hF hw he0 (by decide) zC_3 4 (by decide) qw_107 rfl dX2_add_101 ?_
  refine lv_iconst hx hb dX2_add_104 rfl ?_
  refine zr_iadd hF dX2_add_105 ?_
  refine zr_put hF hw he0 (by decide) zC_3 4 (by decide) (by decide) qw_107 rfl (by decide +kernel) h dX2_add_106 (fun g H locs hw h => ?_)
  exact zr_vret hF hr hw h dX2_add_109
set_option maxHeartbeats 4000000 in
set_option maxRecDepth 100000 in
theorem wX2_add_h15 {p : Program} {l : Launch} {e : Env} {s : State} {m : MethodId} {args : Array Value} {below : List Frame} {meth : Method} {c : Code} {X : zC} {N : zN} {r : Int} {g' : zG} {H : Heap} {locs : List Loc} {ls : Array Slot} (hF : zF p s m args meth c X cX2_add 4 RX2) (hr : meth.sig.returnType = none) {n : Nat} {K : Nat → Nat → Int → Int → Int → zG → Option (Int × zG)} (hK0 : ∀ (i0 : Nat) (x1 : Int) (x2 : Int) (x3 : Int) (g : zG) (H : Heap) (locs : List Loc) (ls : Array Slot), zE N 3 i0 → zH X N g s H locs → lv_has ls 4 [(0, z_r N 3 i0), (1, z_v x1), (2, z_v x2), (3, z_v x3)] → K 0 i0 x1 x2 x3 g = some (r, g') → W p l e { frames := 0, cells := 0, slots := 0, locals := 0 } s m args below meth c H locs 0 0 (MQ below (zQv X N g') args s 0 0 (zA X)) (F0 m 15 ls [])) {i0 : Nat} {x1 : Int} {x2 : Int} {x3 : Int} {g : zG} (he0 : zE N 3 i0) (hw : zH X N g s H locs) (hl : lv_has ls 4 [(0, z_r N 3 i0), (1, z_v x1), (2, z_v x2), (3, z_v x3)]) (h : sX2_add_h15 n K i0 x1 x2 x3 g = some (r, g')) : W p l e { frames := 0, cells := 0, slots := 0, locals := 0 } s m args below meth c H locs 0 0 (MQ below (zQv X N g') args s 0 0 (zA X)) (F0 m 15 ls []) := by
  have hx := hF.1.1
  have hb := hF.1.2.1
  unfold sX2_add_h15 at h
  refine lv_iload_n hx hb dX2_add_15 rfl (lv_at hl 3 rfl) ?_
  refine zr_if_le (tgt := 65) hF h dX2_add_16 (by decide) (fun h => ?_) (fun h => ?_)
  · exact wX2_add_j65 hF hr hK0 he0 hw (lv_sub hl [0, 1, 2, 3] rfl) h
  · refine lv_aload_n hx hb dX2_add_19 rfl (lv_at hl 0 rfl) ?_
    refine zr_get hF hw he0 (by decide) zC_3 1 (by decide) qw_104 rfl dX2_add_20 ?_
    refine lv_iload_n hx hb dX2_add_23 rfl (lv_at hl 3 rfl) ?_
    refine lv_iconst hx hb dX2_add_24 rfl ?_
    refine zr_isub hF dX2_add_25 ?_
    refine zr_iald hF hw (zE_ln he0).2.1 (by decide) h dX2_add_26 (fun h => ?_)
    refine lv_iload_n hx hb dX2_add_27 rfl (lv_at hl 2 rfl) ?_
    refine zr_icmp_le (tgt := 65) hF h dX2_add_28 (by decide) (fun h => ?_) (fun h => ?_)
    · exact wX2_add_j65 hF hr hK0 he0 hw (lv_sub hl [0, 1, 2, 3] rfl) h
    · refine lv_aload_n hx hb dX2_add_31 rfl (lv_at hl 0 rfl) ?_
      refine zr_get hF hw he0 (by decide) zC_3 0 (by decide) qw_103 rfl dX2_add_32 ?_
      refine lv_iload_n hx hb dX2_add_35 rfl (lv_at hl 3 rfl) ?_
      refine lv_aload_n hx hb dX2_add_36 rfl (lv_at hl 0 rfl) ?_
      refine zr_get hF hw he0 (by decide) zC_3 0 (by decide) qw_103 rfl dX2_add_37 ?_
      refine lv_iload_n hx hb dX2_add_40 rfl (lv_at hl 3 rfl) ?_
      refine lv_iconst hx hb dX2_add_41 rfl ?_
      refine zr_isub hF dX2_add_42 ?_
      refine zr_iald hF hw (zE_ln he0).1 (by decide) h dX2_add_43 (fun h => ?_)
      refine zr_iast hF hw (zE_ln he0).1 (by decide) h dX2_add_44 (fun g H locs hw h => ?_)
      refine lv_aload_n hx hb dX2_add_45 rfl (lv_at hl 0 rfl) ?_
      refine zr_get hF hw he0 (by decide) zC_3 1 (by decide) qw_104 rfl dX2_add_46 ?_
      refine lv_iload_n hx hb dX2_add_49 rfl (lv_at hl 3 rfl) ?_
      refine lv_aload_n hx hb dX2_add_50 rfl (lv_at hl 0 rfl) ?_
      refine zr_get hF hw he0 (by decide) zC_3 1 (by decide) qw_104 rfl dX2_add_51 ?_
      refine lv_iload_n hx hb dX2_add_54 rfl (lv_at hl 3 rfl) ?_
      refine lv_iconst hx hb dX2_add_55 rfl ?_
      refine zr_isub hF dX2_add_56 ?_
      refine zr_iald hF hw (zE_ln he0).2.1 (by decide) h dX2_add_57 (fun h => ?_)
      refine zr_iast hF hw (zE_ln he0).2.1 (by decide) h dX2_add_58 (fun g H locs hw h => ?_)
      refine zr_iinc hF (lv' := fun v1 => [(3, z_v v1), (0, z_r N 3 i0), (1, z_v x1), (2, z_v x2)]) h dX2_add_59 hl (k := 3) rfl (by decide) (fun _ => rfl) (fun v1 ls hl h => ?_)
      refine lv_goto (tgt := 15) hx hb dX2_add_62 (by decide) ?_
      exact hK0 i0 x1 x2 v1 _ _ _ _ he0 hw (lv_sub hl [1, 2, 3, 0] rfl) h
set_option maxHeartbeats 4000000 in
set_option maxRecDepth 100000 in
theorem wX2_add_run {p : Program} {l : Launch} {e : Env} {s : State} {m : MethodId} {args : Array Value} {below : List Frame} {meth : Method} {c : Code} {X : zC} {N : zN} {r : Int} {g' : zG} (hF : zF p s m args meth c X cX2_add 4 RX2) (hr : meth.sig.returnType = none) {n0 : Nat} : ∀ n : Nat, (∀ (i0 : Nat) (x1 : Int) (x2 : Int) (x3 : Int) (g : zG) (H : Heap) (locs : List Loc) (ls : Array Slot), zE N 3 i0 → zH X N g s H locs → lv_has ls 4 [(0, z_r N 3 i0), (1, z_v x1), (2, z_v x2), (3, z_v x3)] → sX2_add_run n0 n 0 i0 x1 x2 x3 g = some (r, g') → W p l e { frames := 0, cells := 0, slots := 0, locals := 0 } s m args below meth c H locs 0 0 (MQ below (zQv X N g') args s 0 0 (zA X)) (F0 m 15 ls [])) := by
  intro n
  induction n with
  | zero => exact fun _ _ _ _ _ _ _ _ _ _ _  h => by cases h
  | succ n ih => exact fun i0 x1 x2 x3 g H locs ls he0 hw hl h => wX2_add_h15 hF hr ih he0 hw hl h
set_option maxHeartbeats 4000000 in
set_option maxRecDepth 100000 in
theorem czX2_add (l : Launch) (X : zC) (N : zN) {n : Nat} {i0 : Nat} {x1 : Int} {x2 : Int} {g g' : zG} {r : Int} (he0 : zE N 3 i0) (h : sX2_add n i0 x1 x2 g = some (r, g')) : zM l yX2_add cX2_add 4 none { frames := 0, cells := 0, slots := 0, locals := 0 } X N g [z_r N 3 i0, z_v x1, z_v x2] (zQv X N g') := by
  refine z_ofW (own := RX2) (by decide +kernel) rfl (Nat.le_of_ble_eq_true rfl) ?_
  intro p e s m args below meth c ls hF hr hw hl
  have hl : lv_has ls 4 [(0, z_r N 3 i0), (1, z_v x1), (2, z_v x2)] := hl
  have hx := hF.1.1
  have hb := hF.1.2.1
  have hKK := wX2_add_run hF hr (r := r) (g' := g') (X := X) (N := N) (n0 := n) (l := l) (e := e) (below := below) n
  have hK0 := hKK
  unfold sX2_add at h
  generalize s.heap = H at hw ⊢
  generalize ([] : List Loc) = locs at hw ⊢
  refine lv_aload_n hx hb dX2_add_0 rfl (lv_at hl 0 rfl) ?_
  refine zr_get hF hw he0 (by decide) zC_3 4 (by decide) qw_107 rfl dX2_add_1 ?_
  refine lv_bipush (v := Int32.ofInt (24)) hx hb dX2_add_4 (by decide) ?_
  refine zr_icmp_lt (tgt := 10) hF h dX2_add_6 (by decide) (fun h => ?_) (fun h => ?_)
  · refine lv_aload_n hx hb dX2_add_10 rfl (lv_at hl 0 rfl) ?_
    refine zr_get hF hw he0 (by decide) zC_3 4 (by decide) qw_107 rfl dX2_add_11 ?_
    refine zr_let h (fun v1 h => ?_)
    refine lv_istore_n (lv' := [(3, z_v v1), (0, z_r N 3 i0), (1, z_v x1), (2, z_v x2)]) hx hb dX2_add_14 rfl hl (by decide) rfl (fun ls hl => ?_)
    exact hK0 i0 x1 x2 v1 _ _ _ _ he0 hw (lv_sub hl [1, 2, 3, 0] rfl) h
  · exact zr_vret hF hr hw h dX2_add_9
set_option maxHeartbeats 4000000 in
set_option maxRecDepth 100000 in
theorem czX2_has (l : Launch) (X : zC) (N : zN) {i0 : Nat} {x1 : Int} {g g' : zG} {r : Int} (he0 : zE N 3 i0) (h : sX2_has i0 x1 g = some (r, g')) : zM l yX2_has cX2_has 2 (some .boolean) { frames := 0, cells := 0, slots := 0, locals := 0 } X N g [z_r N 3 i0, z_v x1] (zQi X N r g') := by
  refine z_ofW (own := RX2) (by decide +kernel) rfl (Nat.le_of_ble_eq_true rfl) ?_
  intro p e s m args below meth c ls hF hr hw hl
  have hl : lv_has ls 2 [(0, z_r N 3 i0), (1, z_v x1)] := hl
  have hx := hF.1.1
  have hb := hF.1.2.1
  unfold sX2_has at h
  generalize s.heap = H at hw ⊢
  generalize ([] : List Loc) = locs at hw ⊢
  refine lv_iload_n hx hb dX2_has_0 rfl (lv_at hl 1 rfl) ?_
  refine zr_if_lt (tgt := 22) hF h dX2_has_1 (by decide) (fun h => ?_) (fun h => ?_)
  · refine lv_iconst hx hb dX2_has_22 rfl ?_
    exact zr_zret hF hr hw h dX2_has_23
  · refine lv_iload_n hx hb dX2_has_4 rfl (lv_at hl 1 rfl) ?_
    refine lv_aload_n hx hb dX2_has_5 rfl (lv_at hl 0 rfl) ?_
    refine zr_get hF hw he0 (by decide) zC_3 4 (by decide) qw_107 rfl dX2_has_6 ?_
    refine zr_icmp_ge (tgt := 22) hF h dX2_has_9 (by decide) (fun h => ?_) (fun h => ?_)
    · refine lv_iconst hx hb dX2_has_22 rfl ?_
      exact zr_zret hF hr hw h dX2_has_23
    · refine lv_iload_n hx hb dX2_has_12 rfl (lv_at hl 1 rfl) ?_
      refine lv_bipush (v := Int32.ofInt (24)) hx hb dX2_has_13 (by decide) ?_
      refine zr_icmp_ge (tgt := 22) hF h dX2_has_15 (by decide) (fun h => ?_) (fun h => ?_)
      · refine lv_iconst hx hb dX2_has_22 rfl ?_
        exact zr_zret hF hr hw h dX2_has_23
      · refine lv_iconst hx hb dX2_has_18 rfl ?_
        refine lv_goto (tgt := 23) hx hb dX2_has_19 (by decide) ?_
        exact zr_zret hF hr hw h dX2_has_23
set_option maxHeartbeats 4000000 in
set_option maxRecDepth 100000 in
theorem czX2_timeAt (l : Launch) (X : zC) (N : zN) {i0 : Nat} {x1 : Int} {g g' : zG} {r : Int} (he0 : zE N 3 i0) (h : sX2_timeAt i0 x1 g = some (r, g')) : zM l yX2_timeAt cX2_timeAt 2 (some .int) { frames := 1, cells := 0, slots := 0, locals := 21 } X N g [z_r N 3 i0, z_v x1] (zQi X N r g') := by
  refine z_ofW (own := RX2) (by decide +kernel) rfl (Nat.le_of_ble_eq_true rfl) ?_
  intro p e s m args below meth c ls hF hr hw hl
  have hl : lv_has ls 2 [(0, z_r N 3 i0), (1, z_v x1)] := hl
  have hx := hF.1.1
  have hb := hF.1.2.1
  unfold sX2_timeAt at h
  generalize s.heap = H at hw ⊢
  generalize ([] : List Loc) = locs at hw ⊢
  refine lv_aload_n hx hb dX2_timeAt_0 rfl (lv_at hl 0 rfl) ?_
  refine lv_iload_n hx hb dX2_timeAt_1 rfl (lv_at hl 1 rfl) ?_
  obtain ⟨r1, g1, h1, h⟩ := zbd_some h
  refine zr_callVi (n := 1) (As := [z_v x1]) (rest := []) hF hw (czX2_has l X N he0 h1) he0 (by decide) zC_3 (z_goodV qw_245 qw_246 qw_247 qw_41 qw_248) (by decide +kernel) ⟨Nat.le_of_ble_eq_true rfl, Nat.le_of_ble_eq_true rfl⟩ ⟨rfl, rfl⟩ rfl hl.1 rfl (Nat.le_of_ble_eq_true rfl) dX2_timeAt_2 ⟨Nat.le_of_ble_eq_true rfl, Nat.le_of_ble_eq_true rfl⟩ (fun H locs hw => ?_)
  clear h1
  generalize g1 = g at *
  refine zr_if_eq (tgt := 17) hF h dX2_timeAt_5 (by decide) (fun h => ?_) (fun h => ?_)
  · refine lv_iconst hx hb dX2_timeAt_17 rfl ?_
    exact zr_iret hF hr hw h dX2_timeAt_18
  · refine lv_aload_n hx hb dX2_timeAt_8 rfl (lv_at hl 0 rfl) ?_
    refine zr_get hF hw he0 (by decide) zC_3 1 (by decide) qw_104 rfl dX2_timeAt_9 ?_
    refine lv_iload_n hx hb dX2_timeAt_12 rfl (lv_at hl 1 rfl) ?_
    refine zr_iald hF hw (zE_ln he0).2.1 (by decide) h dX2_timeAt_13 (fun h => ?_)
    refine lv_goto (tgt := 18) hx hb dX2_timeAt_14 (by decide) ?_
    exact zr_iret hF hr hw h dX2_timeAt_18
set_option maxHeartbeats 4000000 in
set_option maxRecDepth 100000 in
theorem czX2_give (l : Launch) (X : zC) (N : zN) {i0 : Nat} {x1 : Int} {x2 : Int} {x3 : Int} {g g' : zG} {r : Int} (he0 : zE N 3 i0) (h : sX2_give i0 x1 x2 x3 g = some (r, g')) : zM l yX2_give cX2_give 4 none { frames := 1, cells := 0, slots := 0, locals := 21 } X N g [z_r N 3 i0, z_v x1, z_v x2, z_v x3] (zQv X N g') := by
  refine z_ofW (own := RX2) (by decide +kernel) rfl (Nat.le_of_ble_eq_true rfl) ?_
  intro p e s m args below meth c ls hF hr hw hl
  have hl : lv_has ls 4 [(0, z_r N 3 i0), (1, z_v x1), (2, z_v x2), (3, z_v x3)] := hl
  have hx := hF.1.1
  have hb := hF.1.2.1
  unfold sX2_give at h
  generalize s.heap = H at hw ⊢
  generalize ([] : List Loc) = locs at hw ⊢
  refine lv_aload_n hx hb dX2_give_0 rfl (lv_at hl 0 rfl) ?_
  refine lv_iload_n hx hb dX2_give_1 rfl (lv_at hl 1 rfl) ?_
  obtain ⟨r1, g1, h1, h⟩ := zbd_some h
  refine zr_callVi (n := 1) (As := [z_v x1]) (rest := []) hF hw (czX2_has l X N he0 h1) he0 (by decide) zC_3 (z_goodV qw_245 qw_246 qw_247 qw_41 qw_248) (by decide +kernel) ⟨Nat.le_of_ble_eq_true rfl, Nat.le_of_ble_eq_true rfl⟩ ⟨rfl, rfl⟩ rfl hl.1 rfl (Nat.le_of_ble_eq_true rfl) dX2_give_2 ⟨Nat.le_of_ble_eq_true rfl, Nat.le_of_ble_eq_true rfl⟩ (fun H locs hw => ?_)
  clear h1
  generalize g1 = g at *
  refine zr_if_eq (tgt := 22) hF h dX2_give_5 (by decide) (fun h => ?_) (fun h => ?_)
  · exact zr_vret hF hr hw h dX2_give_22
  · refine lv_aload_n hx hb dX2_give_8 rfl (lv_at hl 0 rfl) ?_
    refine zr_get hF hw he0 (by decide) zC_3 2 (by decide) qw_105 rfl dX2_give_9 ?_
    refine lv_iload_n hx hb dX2_give_12 rfl (lv_at hl 1 rfl) ?_
    refine lv_iload_n hx hb dX2_give_13 rfl (lv_at hl 2 rfl) ?_
    refine zr_iast hF hw (zE_ln he0).2.2.1 (by decide) h dX2_give_14 (fun g H locs hw h => ?_)
    refine lv_aload_n hx hb dX2_give_15 rfl (lv_at hl 0 rfl) ?_
    refine zr_get hF hw he0 (by decide) zC_3 3 (by decide) qw_106 rfl dX2_give_16 ?_
    refine lv_iload_n hx hb dX2_give_19 rfl (lv_at hl 1 rfl) ?_
    refine lv_iload_n hx hb dX2_give_20 rfl (lv_at hl 3 rfl) ?_
    refine zr_iast hF hw (zE_ln he0).2.2.2 (by decide) h dX2_give_21 (fun g H locs hw h => ?_)
    exact zr_vret hF hr hw h dX2_give_22
set_option maxHeartbeats 4000000 in
set_option maxRecDepth 100000 in
theorem wX2_hasGiven_h2 {p : Program} {l : Launch} {e : Env} {s : State} {m : MethodId} {args : Array Value} {below : List Frame} {meth : Method} {c : Code} {X : zC} {N : zN} {r : Int} {g' : zG} {H : Heap} {locs : List Loc} {ls : Array Slot} (hF : zF p s m args meth c X cX2_hasGiven 3 RX2) (hr : meth.sig.returnType = (some .boolean)) {n : Nat} {K : Nat → Nat → Int → Int → zG → Option (Int × zG)} (hK0 : ∀ (i0 : Nat) (x1 : Int) (x2 : Int) (g : zG) (H : Heap) (locs : List Loc) (ls : Array Slot), zE N 3 i0 → zH X N g s H locs → lv_has ls 3 [(0, z_r N 3 i0), (1, z_v x1), (2, z_v x2)] → K 0 i0 x1 x2 g = some (r, g') → W p l e { frames := 0, cells := 0, slots := 0, locals := 0 } s m args below meth c H locs 0 0 (MQ below (zQi X N r g') args s 0 0 (zA X)) (F0 m 2 ls [])) {i0 : Nat} {x1 : Int} {x2 : Int} {g : zG} (he0 : zE N 3 i0) (hw : zH X N g s H locs) (hl : lv_has ls 3 [(0, z_r N 3 i0), (1, z_v x1), (2, z_v x2)]) (h : sX2_hasGiven_h2 n K i0 x1 x2 g = some (r, g')) : W p l e { frames := 0, cells := 0, slots := 0, locals := 0 } s m args below meth c H locs 0 0 (MQ below (zQi X N r g') args s 0 0 (zA X)) (F0 m 2 ls []) := by
  have hx := hF.1.1
  have hb := hF.1.2.1
  unfold sX2_hasGiven_h2 at h
  refine lv_iload_n hx hb dX2_hasGiven_2 rfl (lv_at hl 2 rfl) ?_
  refine lv_aload_n hx hb dX2_hasGiven_3 rfl (lv_at hl 0 rfl) ?_
  refine zr_get hF hw he0 (by decide) zC_3 4 (by decide) qw_107 rfl dX2_hasGiven_4 ?_
  refine zr_icmp_ge (tgt := 37) hF h dX2_hasGiven_7 (by decide) (fun h => ?_) (fun h => ?_)
  · refine lv_iconst hx hb dX2_hasGiven_37 rfl ?_
    exact zr_zret hF hr hw h dX2_hasGiven_38
  · refine lv_iload_n hx hb dX2_hasGiven_10 rfl (lv_at hl 2 rfl) ?_
    refine lv_aload_n hx hb dX2_hasGiven_11 rfl (lv_at hl 0 rfl) ?_
    refine zr_get hF hw he0 (by decide) zC_3 2 (by decide) qw_105 rfl dX2_hasGiven_12 ?_
    refine zr_alen hF hw (zE_ln he0).2.2.1 (by decide) (v := 24) (by decide) dX2_hasGiven_15 ?_
    refine zr_icmp_ge (tgt := 37) hF h dX2_hasGiven_16 (by decide) (fun h => ?_) (fun h => ?_)
    · refine lv_iconst hx hb dX2_hasGiven_37 rfl ?_
      exact zr_zret hF hr hw h dX2_hasGiven_38
    · refine lv_aload_n hx hb dX2_hasGiven_19 rfl (lv_at hl 0 rfl) ?_
      refine zr_get hF hw he0 (by decide) zC_3 2 (by decide) qw_105 rfl dX2_hasGiven_20 ?_
      refine lv_iload_n hx hb dX2_hasGiven_23 rfl (lv_at hl 2 rfl) ?_
      refine zr_iald hF hw (zE_ln he0).2.2.1 (by decide) h dX2_hasGiven_24 (fun h => ?_)
      refine lv_iload_n hx hb dX2_hasGiven_25 rfl (lv_at hl 1 rfl) ?_
      refine zr_icmp_ne (tgt := 31) hF h dX2_hasGiven_26 (by decide) (fun h => ?_) (fun h => ?_)
      · refine zr_iinc hF (lv' := fun v1 => [(2, z_v v1), (0, z_r N 3 i0), (1, z_v x1)]) h dX2_hasGiven_31 hl (k := 2) rfl (by decide) (fun _ => rfl) (fun v1 ls hl h => ?_)
        refine lv_goto (tgt := 2) hx hb dX2_hasGiven_34 (by decide) ?_
        exact hK0 i0 x1 v1 _ _ _ _ he0 hw (lv_sub hl [1, 2, 0] rfl) h
      · refine lv_iconst hx hb dX2_hasGiven_29 rfl ?_
        exact zr_zret hF hr hw h dX2_hasGiven_30
set_option maxHeartbeats 4000000 in
set_option maxRecDepth 100000 in
theorem wX2_hasGiven_run {p : Program} {l : Launch} {e : Env} {s : State} {m : MethodId} {args : Array Value} {below : List Frame} {meth : Method} {c : Code} {X : zC} {N : zN} {r : Int} {g' : zG} (hF : zF p s m args meth c X cX2_hasGiven 3 RX2) (hr : meth.sig.returnType = (some .boolean)) {n0 : Nat} : ∀ n : Nat, (∀ (i0 : Nat) (x1 : Int) (x2 : Int) (g : zG) (H : Heap) (locs : List Loc) (ls : Array Slot), zE N 3 i0 → zH X N g s H locs → lv_has ls 3 [(0, z_r N 3 i0), (1, z_v x1), (2, z_v x2)] → sX2_hasGiven_run n0 n 0 i0 x1 x2 g = some (r, g') → W p l e { frames := 0, cells := 0, slots := 0, locals := 0 } s m args below meth c H locs 0 0 (MQ below (zQi X N r g') args s 0 0 (zA X)) (F0 m 2 ls [])) := by
  intro n
  induction n with
  | zero => exact fun _ _ _ _ _ _ _ _ _ _  h => by cases h
  | succ n ih => exact fun i0 x1 x2 g H locs ls he0 hw hl h => wX2_hasGiven_h2 hF hr ih he0 hw hl h
set_option maxHeartbeats 4000000 in
set_option maxRecDepth 100000 in
theorem czX2_hasGiven (l : Launch) (X : zC) (N : zN) {n : Nat} {i0 : Nat} {x1 : Int} {g g' : zG} {r : Int} (he0 : zE N 3 i0) (h : sX2_hasGiven n i0 x1 g = some (r, g')) : zM l yX2_hasGiven cX2_hasGiven 3 (some .boolean) { frames := 0, cells := 0, slots := 0, locals := 0 } X N g [z_r N 3 i0, z_v x1] (zQi X N r g') := by
  refine z_ofW (own := RX2) (by decide +kernel) rfl (Nat.le_of_ble_eq_true rfl) ?_
  intro p e s m args below meth c ls hF hr hw hl
  have hl : lv_has ls 3 [(0, z_r N 3 i0), (1, z_v x1)] := hl
  have hx := hF.1.1
  have hb := hF.1.2.1
  have hKK := wX2_hasGiven_run hF hr (r := r) (g' := g') (X := X) (N := N) (n0 := n) (l := l) (e := e) (below := below) n
  have hK0 := hKK
  unfold sX2_hasGiven at h
  generalize s.heap = H at hw ⊢
  generalize ([] : List Loc) = locs at hw ⊢
  refine lv_iconst hx hb dX2_hasGiven_0 rfl ?_
  refine lv_istore_n (lv' := [(2, z_v 0), (0, z_r N 3 i0), (1, z_v x1)]) hx hb dX2_hasGiven_1 rfl hl (by decide) rfl (fun ls hl => ?_)
  exact hK0 i0 x1 0 _ _ _ _ he0 hw (lv_sub hl [1, 2, 0] rfl) h
set_option maxHeartbeats 4000000 in
set_option maxRecDepth 100000 in
theorem wX2_placeOf_h2 {p : Program} {l : Launch} {e : Env} {s : State} {m : MethodId} {args : Array Value} {below : List Frame} {meth : Method} {c : Code} {X : zC} {N : zN} {r : Int} {g' : zG} {H : Heap} {locs : List Loc} {ls : Array Slot} (hF : zF p s m args meth c X cX2_placeOf 3 RX2) (hr : meth.sig.returnType = (some .int)) {n : Nat} {K : Nat → Nat → Int → Int → zG → Option (Int × zG)} (hK0 : ∀ (i0 : Nat) (x1 : Int) (x2 : Int) (g : zG) (H : Heap) (locs : List Loc) (ls : Array Slot), zE N 3 i0 → zH X N g s H locs → lv_has ls 3 [(0, z_r N 3 i0), (1, z_v x1), (2, z_v x2)] → K 0 i0 x1 x2 g = some (r, g') → W p l e { frames := 0, cells := 0, slots := 0, locals := 0 } s m args below meth c H locs 0 0 (MQ below (zQi X N r g') args s 0 0 (zA X)) (F0 m 2 ls [])) {i0 : Nat} {x1 : Int} {x2 : Int} {g : zG} (he0 : zE N 3 i0) (hw : zH X N g s H locs) (hl : lv_has ls 3 [(0, z_r N 3 i0), (1, z_v x1), (2, z_v x2)]) (h : sX2_placeOf_h2 n K i0 x1 x2 g = some (r, g')) : W p l e { frames := 0, cells := 0, slots := 0, locals := 0 } s m args below meth c H locs 0 0 (MQ below (zQi X N r g') args s 0 0 (zA X)) (F0 m 2 ls []) := by
  have hx := hF.1.1
  have hb := hF.1.2.1
  unfold sX2_placeOf_h2 at h
  refine lv_iload_n hx hb dX2_placeOf_2 rfl (lv_at hl 2 rfl) ?_
  refine lv_aload_n hx hb dX2_placeOf_3 rfl (lv_at hl 0 rfl) ?_
  refine zr_get hF hw he0 (by decide) zC_3 4 (by decide) qw_107 rfl dX2_placeOf_4 ?_
  refine zr_icmp_ge (tgt := 37) hF h dX2_placeOf_7 (by decide) (fun h => ?_) (fun h => ?_)
  · refine lv_iconst hx hb dX2_placeOf_37 rfl ?_
    exact zr_iret hF hr hw h dX2_placeOf_38
  · refine lv_iload_n hx hb dX2_placeOf_10 rfl (lv_at hl 2 rfl) ?_
    refine lv_aload_n hx hb dX2_placeOf_11 rfl (lv_at hl 0 rfl) ?_
    refine zr_get hF hw he0 (by decide) zC_3 0 (by decide) qw_103 rfl dX2_placeOf_12 ?_
    refine zr_alen hF hw (zE_ln he0).1 (by decide) (v := 24) (by decide) dX2_placeOf_15 ?_
    refine zr_icmp_ge (tgt := 37) hF h dX2_placeOf_16 (by decide) (fun h => ?_) (fun h => ?_)
    · refine lv_iconst hx hb dX2_placeOf_37 rfl ?_
      exact zr_iret hF hr hw h dX2_placeOf_38
    · refine lv_aload_n hx hb dX2_placeOf_19 rfl (lv_at hl 0 rfl) ?_
      refine zr_get hF hw he0 (by decide) zC_3 0 (by decide) qw_103 rfl dX2_placeOf_20 ?_
      refine lv_iload_n hx hb dX2_placeOf_23 rfl (lv_at hl 2 rfl) ?_
      refine zr_iald hF hw (zE_ln he0).1 (by decide) h dX2_placeOf_24 (fun h => ?_)
      refine lv_iload_n hx hb dX2_placeOf_25 rfl (lv_at hl 1 rfl) ?_
      refine zr_icmp_ne (tgt := 31) hF h dX2_placeOf_26 (by decide) (fun h => ?_) (fun h => ?_)
      · refine zr_iinc hF (lv' := fun v1 => [(2, z_v v1), (0, z_r N 3 i0), (1, z_v x1)]) h dX2_placeOf_31 hl (k := 2) rfl (by decide) (fun _ => rfl) (fun v1 ls hl h => ?_)
        refine lv_goto (tgt := 2) hx hb dX2_placeOf_34 (by decide) ?_
        exact hK0 i0 x1 v1 _ _ _ _ he0 hw (lv_sub hl [1, 2, 0] rfl) h
      · refine lv_iload_n hx hb dX2_placeOf_29 rfl (lv_at hl 2 rfl) ?_
        exact zr_iret hF hr hw h dX2_placeOf_30
set_option maxHeartbeats 4000000 in
set_option maxRecDepth 100000 in
theorem wX2_placeOf_run {p : Program} {l : Launch} {e : Env} {s : State} {m : MethodId} {args : Array Value} {below : List Frame} {meth : Method} {c : Code} {X : zC} {N : zN} {r : Int} {g' : zG} (hF : zF p s m args meth c X cX2_placeOf 3 RX2) (hr : meth.sig.returnType = (some .int)) {n0 : Nat} : ∀ n : Nat, (∀ (i0 : Nat) (x1 : Int) (x2 : Int) (g : zG) (H : Heap) (locs : List Loc) (ls : Array Slot), zE N 3 i0 → zH X N g s H locs → lv_has ls 3 [(0, z_r N 3 i0), (1, z_v x1), (2, z_v x2)] → sX2_placeOf_run n0 n 0 i0 x1 x2 g = some (r, g') → W p l e { frames := 0, cells := 0, slots := 0, locals := 0 } s m args below meth c H locs 0 0 (MQ below (zQi X N r g') args s 0 0 (zA X)) (F0 m 2 ls [])) := by
  intro n
  induction n with
  | zero => exact fun _ _ _ _ _ _ _ _ _ _  h => by cases h
  | succ n ih => exact fun i0 x1 x2 g H locs ls he0 hw hl h => wX2_placeOf_h2 hF hr ih he0 hw hl h
set_option maxHeartbeats 4000000 in
set_option maxRecDepth 100000 in
theorem czX2_placeOf (l : Launch) (X : zC) (N : zN) {n : Nat} {i0 : Nat} {x1 : Int} {g g' : zG} {r : Int} (he0 : zE N 3 i0) (h : sX2_placeOf n i0 x1 g = some (r, g')) : zM l yX2_placeOf cX2_placeOf 3 (some .int) { frames := 0, cells := 0, slots := 0, locals := 0 } X N g [z_r N 3 i0, z_v x1] (zQi X N r g') := by
  refine z_ofW (own := RX2) (by decide +kernel) rfl (Nat.le_of_ble_eq_true rfl) ?_
  intro p e s m args below meth c ls hF hr hw hl
  have hl : lv_has ls 3 [(0, z_r N 3 i0), (1, z_v x1)] := hl
  have hx := hF.1.1
  have hb := hF.1.2.1
  have hKK := wX2_placeOf_run hF hr (r := r) (g' := g') (X := X) (N := N) (n0 := n) (l := l) (e := e) (below := below) n
  have hK0 := hKK
  unfold sX2_placeOf at h
  generalize s.heap = H at hw ⊢
  generalize ([] : List Loc) = locs at hw ⊢
  refine lv_iconst hx hb dX2_placeOf_0 rfl ?_
  refine lv_istore_n (lv' := [(2, z_v 0), (0, z_r N 3 i0), (1, z_v x1)]) hx hb dX2_placeOf_1 rfl hl (by decide) rfl (fun ls hl => ?_)
  exact hK0 i0 x1 0 _ _ _ _ he0 hw (lv_sub hl [1, 2, 0] rfl) h
set_option maxHeartbeats 4000000 in
set_option maxRecDepth 100000 in
theorem czX2_penaltyOf (l : Launch) (X : zC) (N : zN) {n : Nat} {i0 : Nat} {x1 : Int} {g g' : zG} {r : Int} (he0 : zE N 3 i0) (h : sX2_penaltyOf n i0 x1 g = some (r, g')) : zM l yX2_penaltyOf cX2_penaltyOf 3 (some .int) { frames := 1, cells := 0, slots := 0, locals := 22 } X N g [z_r N 3 i0, z_v x1] (zQi X N r g') := by
  refine z_ofW (own := RX2) (by decide +kernel) rfl (Nat.le_of_ble_eq_true rfl) ?_
  intro p e s m args below meth c ls hF hr hw hl
  have hl : lv_has ls 3 [(0, z_r N 3 i0), (1, z_v x1)] := hl
  have hx := hF.1.1
  have hb := hF.1.2.1
  unfold sX2_penaltyOf at h
  generalize s.heap = H at hw ⊢
  generalize ([] : List Loc) = locs at hw ⊢
  refine lv_aload_n hx hb dX2_penaltyOf_0 rfl (lv_at hl 0 rfl) ?_
  refine lv_iload_n hx hb dX2_penaltyOf_1 rfl (lv_at hl 1 rfl) ?_
  obtain ⟨r1, g1, h1, h⟩ := zbd_some h
  refine zr_callVi (n := 1) (As := [z_v x1]) (rest := []) hF hw (czX2_placeOf l X N he0 h1) he0 (by decide) zC_3 (z_goodV qw_276 qw_277 qw_278 qw_41 qw_279) (by decide +kernel) ⟨Nat.le_of_ble_eq_true rfl, Nat.le_of_ble_eq_true rfl⟩ ⟨rfl, rfl⟩ rfl hl.1 rfl (Nat.le_of_ble_eq_true rfl) dX2_penaltyOf_2 ⟨Nat.le_of_ble_eq_true rfl, Nat.le_of_ble_eq_true rfl⟩ (fun H locs hw => ?_)
  clear h1
  generalize g1 = g at *
  refine lv_istore_n (lv' := [(2, z_v r1), (0, z_r N 3 i0), (1, z_v x1)]) hx hb dX2_penaltyOf_5 rfl hl (by decide) rfl (fun ls hl => ?_)
  refine lv_aload_n hx hb dX2_penaltyOf_6 rfl (lv_at hl 1 rfl) ?_
  refine lv_iload_n hx hb dX2_penaltyOf_7 rfl (lv_at hl 0 rfl) ?_
  obtain ⟨r2, g1, h1, h⟩ := zbd_some h
  refine zr_callVi (n := 1) (As := [z_v r1]) (rest := []) hF hw (czX2_has l X N he0 h1) he0 (by decide) zC_3 (z_goodV qw_245 qw_246 qw_247 qw_41 qw_248) (by decide +kernel) ⟨Nat.le_of_ble_eq_true rfl, Nat.le_of_ble_eq_true rfl⟩ ⟨rfl, rfl⟩ rfl hl.1 rfl (Nat.le_of_ble_eq_true rfl) dX2_penaltyOf_8 ⟨Nat.le_of_ble_eq_true rfl, Nat.le_of_ble_eq_true rfl⟩ (fun H locs hw => ?_)
  clear h1
  generalize g1 = g at *
  refine zr_if_eq (tgt := 30) hF h dX2_penaltyOf_11 (by decide) (fun h => ?_) (fun h => ?_)
  · refine lv_iconst hx hb dX2_penaltyOf_30 rfl ?_
    exact zr_iret hF hr hw h dX2_penaltyOf_31
  · refine lv_aload_n hx hb dX2_penaltyOf_14 rfl (lv_at hl 1 rfl) ?_
    refine zr_get hF hw he0 (by decide) zC_3 3 (by decide) qw_106 rfl dX2_penaltyOf_15 ?_
    refine lv_iload_n hx hb dX2_penaltyOf_18 rfl (lv_at hl 0 rfl) ?_
    refine zr_iald hF hw (zE_ln he0).2.2.2 (by decide) h dX2_penaltyOf_19 (fun h => ?_)
    refine lv_aload_n hx hb dX2_penaltyOf_20 rfl (lv_at hl 1 rfl) ?_
    refine zr_get hF hw he0 (by decide) zC_3 1 (by decide) qw_104 rfl dX2_penaltyOf_21 ?_
    refine lv_iload_n hx hb dX2_penaltyOf_24 rfl (lv_at hl 0 rfl) ?_
    refine zr_iald hF hw (zE_ln he0).2.1 (by decide) h dX2_penaltyOf_25 (fun h => ?_)
    refine zr_isub hF dX2_penaltyOf_26 ?_
    refine lv_goto (tgt := 31) hx hb dX2_penaltyOf_27 (by decide) ?_
    exact zr_iret hF hr hw h dX2_penaltyOf_31
set_option maxHeartbeats 4000000 in
set_option maxRecDepth 100000 in
theorem wX2_countAheadOf_h2 {p : Program} {l : Launch} {e : Env} {s : State} {m : MethodId} {args : Array Value} {below : List Frame} {meth : Method} {c : Code} {X : zC} {N : zN} {r : Int} {g' : zG} {H : Heap} {locs : List Loc} {ls : Array Slot} (hF : zF p s m args meth c X cX2_countAheadOf 4 RX2) (hr : meth.sig.returnType = (some .int)) {n : Nat} {K : Nat → Nat → Int → Int → zG → Option (Int × zG)} (hK0 : ∀ (i0 : Nat) (x1 : Int) (x3 : Int) (g : zG) (H : Heap) (locs : List Loc) (ls : Array Slot), zE N 3 i0 → zH X N g s H locs → lv_has ls 4 [(0, z_r N 3 i0), (1, z_v x1), (3, z_v x3)] → K 0 i0 x1 x3 g = some (r, g') → W p l e { frames := 2, cells := 0, slots := 0, locals := 42 } s m args below meth c H locs 0 0 (MQ below (zQi X N r g') args s 0 0 (zA X)) (F0 m 2 ls [])) {i0 : Nat} {x1 : Int} {x3 : Int} {g : zG} (he0 : zE N 3 i0) (hw : zH X N g s H locs) (hl : lv_has ls 4 [(0, z_r N 3 i0), (1, z_v x1), (3, z_v x3)]) (h : sX2_countAheadOf_h2 n K i0 x1 x3 g = some (r, g')) : W p l e { frames := 2, cells := 0, slots := 0, locals := 42 } s m args below meth c H locs 0 0 (MQ below (zQi X N r g') args s 0 0 (zA X)) (F0 m 2 ls []) := by
  have hx := hF.1.1
  have hb := hF.1.2.1
  unfold sX2_countAheadOf_h2 at h
  refine lv_iload_n hx hb dX2_countAheadOf_2 rfl (lv_at hl 2 rfl) ?_
  refine lv_aload_n hx hb dX2_countAheadOf_3 rfl (lv_at hl 0 rfl) ?_
  refine zr_get hF hw he0 (by decide) zC_3 4 (by decide) qw_107 rfl dX2_countAheadOf_4 ?_
  refine zr_icmp_ge (tgt := 25) hF h dX2_countAheadOf_7 (by decide) (fun h => ?_) (fun h => ?_)
  · refine lv_iload_n hx hb dX2_countAheadOf_25 rfl (lv_at hl 2 rfl) ?_
    exact zr_iret hF hr hw h dX2_countAheadOf_26
  · refine lv_aload_n hx hb dX2_countAheadOf_10 rfl (lv_at hl 0 rfl) ?_
    refine lv_iload_n hx hb dX2_countAheadOf_11 rfl (lv_at hl 2 rfl) ?_
    obtain ⟨r1, g1, h1, h⟩ := zbd_some h
    refine zr_callVi (n := 1) (As := [z_v x3]) (rest := []) hF hw (czX2_timeAt l X N he0 h1) he0 (by decide) zC_3 (z_goodV qw_641 qw_242 qw_243 qw_41 qw_244) (by decide +kernel) ⟨Nat.le_of_ble_eq_true rfl, Nat.le_of_ble_eq_true rfl⟩ ⟨rfl, rfl⟩ rfl hl.1 rfl (Nat.le_of_ble_eq_true rfl) dX2_countAheadOf_12 ⟨Nat.le_of_ble_eq_true rfl, Nat.le_of_ble_eq_true rfl⟩ (fun H locs hw => ?_)
    clear h1
    generalize g1 = g at *
    refine lv_iload_n hx hb dX2_countAheadOf_15 rfl (lv_at hl 1 rfl) ?_
    refine zr_icmp_ge (tgt := 25) hF h dX2_countAheadOf_16 (by decide) (fun h => ?_) (fun h => ?_)
    · refine lv_iload_n hx hb dX2_countAheadOf_25 rfl (lv_at hl 2 rfl) ?_
      exact zr_iret hF hr hw h dX2_countAheadOf_26
    · refine zr_iinc hF (lv' := fun v2 => [(3, z_v v2), (0, z_r N 3 i0), (1, z_v x1)]) h dX2_countAheadOf_19 hl (k := 2) rfl (by decide) (fun _ => rfl) (fun v2 ls hl h => ?_)
      refine lv_goto (tgt := 2) hx hb dX2_countAheadOf_22 (by decide) ?_
      exact hK0 i0 x1 v2 _ _ _ _ he0 hw (lv_sub hl [1, 2, 0] rfl) h
set_option maxHeartbeats 4000000 in
set_option maxRecDepth 100000 in
theorem wX2_countAheadOf_run {p : Program} {l : Launch} {e : Env} {s : State} {m : MethodId} {args : Array Value} {below : List Frame} {meth : Method} {c : Code} {X : zC} {N : zN} {r : Int} {g' : zG} (hF : zF p s m args meth c X cX2_countAheadOf 4 RX2) (hr : meth.sig.returnType = (some .int)) {n0 : Nat} : ∀ n : Nat, (∀ (i0 : Nat) (x1 : Int) (x3 : Int) (g : zG) (H : Heap) (locs : List Loc) (ls : Array Slot), zE N 3 i0 → zH X N g s H locs → lv_has ls 4 [(0, z_r N 3 i0), (1, z_v x1), (3, z_v x3)] → sX2_countAheadOf_run n0 n 0 i0 x1 x3 g = some (r, g') → W p l e { frames := 2, cells := 0, slots := 0, locals := 42 } s m args below meth c H locs 0 0 (MQ below (zQi X N r g') args s 0 0 (zA X)) (F0 m 2 ls [])) := by
  intro n
  induction n with
  | zero => exact fun _ _ _ _ _ _ _ _ _ _  h => by cases h
  | succ n ih => exact fun i0 x1 x3 g H locs ls he0 hw hl h => wX2_countAheadOf_h2 hF hr ih he0 hw hl h
set_option maxHeartbeats 4000000 in
set_option maxRecDepth 100000 in
theorem czX2_countAheadOf (l : Launch) (X : zC) (N : zN) {n : Nat} {i0 : Nat} {x1 : Int} {x2 : Int} {g g' : zG} {r : Int} (he0 : zE N 3 i0) (h : sX2_countAheadOf n i0 x1 x2 g = some (r, g')) : zM l yX2_countAheadOf cX2_countAheadOf 4 (some .int) { frames := 2, cells := 0, slots := 0, locals := 42 } X N g [z_r N 3 i0, z_v x1, z_v x2] (zQi X N r g') := by
  refine z_ofW (own := RX2) (by decide +kernel) rfl (Nat.le_of_ble_eq_true rfl) ?_
  intro p e s m args below meth c ls hF hr hw hl
  have hl : lv_has ls 4 [(0, z_r N 3 i0), (1, z_v x1), (2, z_v x2)] := hl
  have hx := hF.1.1
  have hb := hF.1.2.1
  have hKK := wX2_countAheadOf_run hF hr (r := r) (g' := g') (X := X) (N := N) (n0 := n) (l := l) (e := e) (below := below) n
  have hK0 := hKK
  unfold sX2_countAheadOf at h
  generalize s.heap = H at hw ⊢
  generalize ([] : List Loc) = locs at hw ⊢
  refine lv_iload_n hx hb dX2_countAheadOf_0 rfl (lv_at hl 2 rfl) ?_
  refine lv_istore_n (lv' := [(3, z_v x2), (0, z_r N 3 i0), (1, z_v x1), (2, z_v x2)]) hx hb dX2_countAheadOf_1 rfl hl (by decide) rfl (fun ls hl => ?_)
  exact hK0 i0 x1 x2 _ _ _ _ he0 hw (lv_sub hl [1, 2, 0] rfl) h
set_option maxHeartbeats 4000000 in
set_option maxRecDepth 100000 in
theorem czX2_canTake (l : Launch) (X : zC) (N : zN) {i0 : Nat} {x1 : Int} {x2 : Int} {g g' : zG} {r : Int} (he0 : zE N 3 i0) (h : sX2_canTake i0 x1 x2 g = some (r, g')) : zM l yX2_canTake cX2_canTake 3 (some .boolean) { frames := 1, cells := 0, slots := 0, locals := 21 } X N g [z_r N 3 i0, z_v x1, z_v x2] (zQi X N r g') := by
  refine z_ofW (own := RX2) (by decide +kernel) rfl (Nat.le_of_ble_eq_true rfl) ?_
  intro p e s m args below meth c ls hF hr hw hl
  have hl : lv_has ls 3 [(0, z_r N 3 i0), (1, z_v x1), (2, z_v x2)] := hl
  have hx := hF.1.1
  have hb := hF.1.2.1
  unfold sX2_canTake at h
  generalize s.heap = H at hw ⊢
  generalize ([] : List Loc) = locs at hw ⊢
  refine lv_aload_n hx hb dX2_canTake_0 rfl (lv_at hl 0 rfl) ?_
  refine lv_iload_n hx hb dX2_canTake_1 rfl (lv_at hl 1 rfl) ?_
  obtain ⟨r1, g1, h1, h⟩ := zbd_some h
  refine zr_callVi (n := 1) (As := [z_v x1]) (rest := []) hF hw (czX2_has l X N he0 h1) he0 (by decide) zC_3 (z_goodV qw_245 qw_246 qw_247 qw_41 qw_248) (by decide +kernel) ⟨Nat.le_of_ble_eq_true rfl, Nat.le_of_ble_eq_true rfl⟩ ⟨rfl, rfl⟩ rfl hl.1 rfl (Nat.le_of_ble_eq_true rfl) dX2_canTake_2 ⟨Nat.le_of_ble_eq_true rfl, Nat.le_of_ble_eq_true rfl⟩ (fun H locs hw => ?_)
  clear h1
  generalize g1 = g at *
  refine zr_if_eq (tgt := 22) hF h dX2_canTake_5 (by decide) (fun h => ?_) (fun h => ?_)
  · refine lv_iconst hx hb dX2_canTake_22 rfl ?_
    exact zr_zret hF hr hw h dX2_canTake_23
  · refine lv_aload_n hx hb dX2_canTake_8 rfl (lv_at hl 0 rfl) ?_
    refine zr_get hF hw he0 (by decide) zC_3 1 (by decide) qw_104 rfl dX2_canTake_9 ?_
    refine lv_iload_n hx hb dX2_canTake_12 rfl (lv_at hl 1 rfl) ?_
    refine zr_iald hF hw (zE_ln he0).2.1 (by decide) h dX2_canTake_13 (fun h => ?_)
    refine lv_iload_n hx hb dX2_canTake_14 rfl (lv_at hl 2 rfl) ?_
    refine zr_icmp_ge (tgt := 22) hF h dX2_canTake_15 (by decide) (fun h => ?_) (fun h => ?_)
    · refine lv_iconst hx hb dX2_canTake_22 rfl ?_
      exact zr_zret hF hr hw h dX2_canTake_23
    · refine lv_iconst hx hb dX2_canTake_18 rfl ?_
      refine lv_goto (tgt := 23) hx hb dX2_canTake_19 (by decide) ?_
      exact zr_zret hF hr hw h dX2_canTake_23
set_option maxHeartbeats 4000000 in
set_option maxRecDepth 100000 in
theorem czX3_holdsAt (l : Launch) (X : zC) (N : zN) {i0 : Nat} {x1 : Int} {g g' : zG} {r : Int} (he0 : zE N 5 i0) (h : sX3_holdsAt i0 x1 g = some (r, g')) : zM l yX3_holdsAt cX3_holdsAt 2 (some .boolean) { frames := 0, cells := 0, slots := 0, locals := 0 } X N g [z_r N 5 i0, z_v x1] (zQi X N r g') := by
  refine z_ofW (own := RX3) (by decide +kernel) rfl (Nat.le_of_ble_eq_true rfl) ?_
  intro p e s m args below meth c ls hF hr hw hl
  have hl : lv_has ls 2 [(0, z_r N 5 i0), (1, z_v x1)] := hl
  have hx := hF.1.1
  have hb := hF.1.2.1
  unfold sX3_holdsAt at h
  generalize s.heap = H at hw ⊢
  generalize ([] : List Loc) = locs at hw ⊢
  refine lv_iload_n hx hb dX3_holdsAt_0 rfl (lv_at hl 1 rfl) ?_
  refine lv_aload_n hx hb dX3_holdsAt_1 rfl (lv_at hl 0 rfl) ?_
  refine zr_get hF hw he0 (by decide) zC_5 1 (by decide) qw_669 rfl dX3_holdsAt_2 ?_
  refine zr_icmp_lt (tgt := 20) hF h dX3_holdsAt_5 (by decide) (fun h => ?_) (fun h => ?_)
  · refine lv_iconst hx hb dX3_holdsAt_20 rfl ?_
    exact zr_zret hF hr hw h dX3_holdsAt_21
  · refine lv_iload_n hx hb dX3_holdsAt_8 rfl (lv_at hl 1 rfl) ?_
    refine lv_aload_n hx hb dX3_holdsAt_9 rfl (lv_at hl 0 rfl) ?_
    refine zr_get hF hw he0 (by decide) zC_5 2 (by decide) qw_670 rfl dX3_holdsAt_10 ?_
    refine zr_icmp_ge (tgt := 20) hF h dX3_holdsAt_13 (by decide) (fun h => ?_) (fun h => ?_)
    · refine lv_iconst hx hb dX3_holdsAt_20 rfl ?_
      exact zr_zret hF hr hw h dX3_holdsAt_21
    · refine lv_iconst hx hb dX3_holdsAt_16 rfl ?_
      refine lv_goto (tgt := 21) hx hb dX3_holdsAt_17 (by decide) ?_
      exact zr_zret hF hr hw h dX3_holdsAt_21
set_option maxHeartbeats 4000000 in
set_option maxRecDepth 100000 in
theorem czX3_slotCount (l : Launch) (X : zC) (N : zN) {i0 : Nat} {g g' : zG} {r : Int} (he0 : zE N 5 i0) (h : sX3_slotCount i0 g = some (r, g')) : zM l yX3_slotCount cX3_slotCount 1 (some .int) { frames := 0, cells := 0, slots := 0, locals := 0 } X N g [z_r N 5 i0] (zQi X N r g') := by
  refine z_ofW (own := RX3) (by decide +kernel) rfl (Nat.le_of_ble_eq_true rfl) ?_
  intro p e s m args below meth c ls hF hr hw hl
  have hl : lv_has ls 1 [(0, z_r N 5 i0)] := hl
  have hx := hF.1.1
  have hb := hF.1.2.1
  unfold sX3_slotCount at h
  generalize s.heap = H at hw ⊢
  generalize ([] : List Loc) = locs at hw ⊢
  refine lv_aload_n hx hb dX3_slotCount_0 rfl (lv_at hl 0 rfl) ?_
  refine zr_get hF hw he0 (by decide) zC_5 4 (by decide) qw_674 rfl dX3_slotCount_1 ?_
  refine zr_if_eq (tgt := 11) hF h dX3_slotCount_4 (by decide) (fun h => ?_) (fun h => ?_)
  · refine lv_aload_n hx hb dX3_slotCount_11 rfl (lv_at hl 0 rfl) ?_
    refine zr_get hF hw he0 (by decide) zC_5 2 (by decide) qw_670 rfl dX3_slotCount_12 ?_
    refine lv_aload_n hx hb dX3_slotCount_15 rfl (lv_at hl 0 rfl) ?_
    refine zr_get hF hw he0 (by decide) zC_5 1 (by decide) qw_669 rfl dX3_slotCount_16 ?_
    refine zr_isub hF dX3_slotCount_19 ?_
    refine lv_aload_n hx hb dX3_slotCount_20 rfl (lv_at hl 0 rfl) ?_
    refine zr_get hF hw he0 (by decide) zC_5 3 (by decide) qw_672 rfl dX3_slotCount_21 ?_
    refine zr_imul hF dX3_slotCount_24 ?_
    refine lv_bipush (v := Int32.ofInt (60)) hx hb dX3_slotCount_25 (by decide) ?_
    refine zr_iadd hF dX3_slotCount_27 ?_
    refine lv_iconst hx hb dX3_slotCount_28 rfl ?_
    refine zr_isub hF dX3_slotCount_29 ?_
    refine lv_bipush (v := Int32.ofInt (60)) hx hb dX3_slotCount_30 (by decide) ?_
    refine zr_idiv hF h dX3_slotCount_32 (fun h => ?_)
    exact zr_iret hF hr hw h dX3_slotCount_33
  · refine lv_iconst hx hb dX3_slotCount_7 rfl ?_
    refine lv_goto (tgt := 33) hx hb dX3_slotCount_8 (by decide) ?_
    exact zr_iret hF hr hw h dX3_slotCount_33
set_option maxHeartbeats 4000000 in
set_option maxRecDepth 100000 in
theorem czX3_slotBegin (l : Launch) (X : zC) (N : zN) {i0 : Nat} {x1 : Int} {g g' : zG} {r : Int} (he0 : zE N 5 i0) (h : sX3_slotBegin i0 x1 g = some (r, g')) : zM l yX3_slotBegin cX3_slotBegin 2 (some .int) { frames := 0, cells := 0, slots := 0, locals := 0 } X N g [z_r N 5 i0, z_v x1] (zQi X N r g') := by
  refine z_ofW (own := RX3) (by decide +kernel) rfl (Nat.le_of_ble_eq_true rfl) ?_
  intro p e s m args below meth c ls hF hr hw hl
  have hl : lv_has ls 2 [(0, z_r N 5 i0), (1, z_v x1)] := hl
  have hx := hF.1.1
  have hb := hF.1.2.1
  unfold sX3_slotBegin at h
  generalize s.heap = H at hw ⊢
  generalize ([] : List Loc) = locs at hw ⊢
  refine lv_aload_n hx hb dX3_slotBegin_0 rfl (lv_at hl 0 rfl) ?_
  refine zr_get hF hw he0 (by decide) zC_5 3 (by decide) qw_672 rfl dX3_slotBegin_1 ?_
  refine zr_if_le (tgt := 24) hF h dX3_slotBegin_4 (by decide) (fun h => ?_) (fun h => ?_)
  · refine lv_aload_n hx hb dX3_slotBegin_24 rfl (lv_at hl 0 rfl) ?_
    refine zr_get hF hw he0 (by decide) zC_5 2 (by decide) qw_670 rfl dX3_slotBegin_25 ?_
    exact zr_iret hF hr hw h dX3_slotBegin_28
  · refine lv_aload_n hx hb dX3_slotBegin_7 rfl (lv_at hl 0 rfl) ?_
    refine zr_get hF hw he0 (by decide) zC_5 1 (by decide) qw_669 rfl dX3_slotBegin_8 ?_
    refine lv_bipush (v := Int32.ofInt (60)) hx hb dX3_slotBegin_11 (by decide) ?_
    refine lv_iload_n hx hb dX3_slotBegin_13 rfl (lv_at hl 1 rfl) ?_
    refine zr_imul hF dX3_slotBegin_14 ?_
    refine lv_aload_n hx hb dX3_slotBegin_15 rfl (lv_at hl 0 rfl) ?_
    refine zr_get hF hw he0 (by decide) zC_5 3 (by decide) qw_672 rfl dX3_slotBegin_16 ?_
    refine zr_idiv hF h dX3_slotBegin_19 (fun h => ?_)
    refine zr_iadd hF dX3_slotBegin_20 ?_
    refine lv_goto (tgt := 28) hx hb dX3_slotBegin_21 (by decide) ?_
    exact zr_iret hF hr hw h dX3_slotBegin_28
set_option maxHeartbeats 4000000 in
set_option maxRecDepth 100000 in
theorem czX3_slotEnd (l : Launch) (X : zC) (N : zN) {i0 : Nat} {x1 : Int} {g g' : zG} {r : Int} (he0 : zE N 5 i0) (h : sX3_slotEnd i0 x1 g = some (r, g')) : zM l yX3_slotEnd cX3_slotEnd 2 (some .int) { frames := 1, cells := 0, slots := 0, locals := 21 } X N g [z_r N 5 i0, z_v x1] (zQi X N r g') := by
  refine z_ofW (own := RX3) (by decide +kernel) rfl (Nat.le_of_ble_eq_true rfl) ?_
  intro p e s m args below meth c ls hF hr hw hl
  have hl : lv_has ls 2 [(0, z_r N 5 i0), (1, z_v x1)] := hl
  have hx := hF.1.1
  have hb := hF.1.2.1
  unfold sX3_slotEnd at h
  generalize s.heap = H at hw ⊢
  generalize ([] : List Loc) = locs at hw ⊢
  refine lv_aload_n hx hb dX3_slotEnd_0 rfl (lv_at hl 0 rfl) ?_
  refine lv_iload_n hx hb dX3_slotEnd_1 rfl (lv_at hl 1 rfl) ?_
  refine lv_iconst hx hb dX3_slotEnd_2 rfl ?_
  refine zr_iadd hF dX3_slotEnd_3 ?_
  obtain ⟨r1, g1, h1, h⟩ := zbd_some h
  refine zr_callVi (n := 1) (As := [z_v (x1 + 1)]) (rest := []) hF hw (czX3_slotBegin l X N he0 h1) he0 (by decide) zC_5 (z_goodV qw_253 qw_254 qw_255 qw_56 qw_256) (by decide +kernel) ⟨Nat.le_of_ble_eq_true rfl, Nat.le_of_ble_eq_true rfl⟩ ⟨rfl, rfl⟩ rfl hl.1 rfl (Nat.le_of_ble_eq_true rfl) dX3_slotEnd_4 ⟨Nat.le_of_ble_eq_true rfl, Nat.le_of_ble_eq_true rfl⟩ (fun H locs hw => ?_)
  clear h1
  generalize g1 = g at *
  refine lv_aload_n hx hb dX3_slotEnd_7 rfl (lv_at hl 0 rfl) ?_
  refine zr_get hF hw he0 (by decide) zC_5 2 (by decide) qw_670 rfl dX3_slotEnd_8 ?_
  refine zr_min hF hl.1 qw_257 h dX3_slotEnd_11 ⟨Nat.le_of_ble_eq_true rfl, Nat.le_of_ble_eq_true rfl⟩ (Nat.le_of_ble_eq_true rfl) ⟨Nat.le_of_ble_eq_true rfl, Nat.le_of_ble_eq_true rfl⟩ (fun h => ?_)
  exact zr_iret hF hr hw h dX3_slotEnd_14
end

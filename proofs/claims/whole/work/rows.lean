section
-- ===== PART A: goes FIRST, ahead of the names: the tables' words, and 'selects' of the private methods out of them =====
/-- a private method of a class that the tables say can be made, by its rows of tables_1 -/
def lw_okq (q : MethodName × Nat) : Prop := (q.1.cls ≠ "java/lang/invoke/MethodHandle" ∧ q.1.cls ≠ "java/lang/invoke/VarHandle") ∧ Cond.instantiable q.1.cls q.2 ∈ tables_1 ∧ Cond.privateMethod q.1 ∈ tables_1 ∧ Cond.instanceMethod q.1 ∈ tables_1
theorem lw_p0 : lw_okq (⟨"BellHush", "priceNow", "(I)I"⟩, 10) := ⟨⟨by decide +kernel, by decide +kernel⟩, List.mem_of_getElem? (i := 12) (by decide +kernel), List.mem_of_getElem? (i := 66) (by decide +kernel), List.mem_of_getElem? (i := 67) (by decide +kernel)⟩
theorem lw_p1 : lw_okq (⟨"BellHush", "dovesNow", "(I)I"⟩, 10) := ⟨⟨by decide +kernel, by decide +kernel⟩, List.mem_of_getElem? (i := 12) (by decide +kernel), List.mem_of_getElem? (i := 70) (by decide +kernel), List.mem_of_getElem? (i := 71) (by decide +kernel)⟩
theorem lw_p2 : lw_okq (⟨"BellHush", "worthBehind", "(II)I"⟩, 10) := ⟨⟨by decide +kernel, by decide +kernel⟩, List.mem_of_getElem? (i := 12) (by decide +kernel), List.mem_of_getElem? (i := 95) (by decide +kernel), List.mem_of_getElem? (i := 96) (by decide +kernel)⟩
theorem lw_p3 : lw_okq (⟨"BellHush", "closing", "(I)I"⟩, 10) := ⟨⟨by decide +kernel, by decide +kernel⟩, List.mem_of_getElem? (i := 12) (by decide +kernel), List.mem_of_getElem? (i := 99) (by decide +kernel), List.mem_of_getElem? (i := 100) (by decide +kernel)⟩
theorem lw_p4 : lw_okq (⟨"BellHush", "closingWith", "(II)I"⟩, 10) := ⟨⟨by decide +kernel, by decide +kernel⟩, List.mem_of_getElem? (i := 12) (by decide +kernel), List.mem_of_getElem? (i := 103) (by decide +kernel), List.mem_of_getElem? (i := 104) (by decide +kernel)⟩
theorem lw_p5 : lw_okq (⟨"BellHush", "priceBehind", "(II)I"⟩, 10) := ⟨⟨by decide +kernel, by decide +kernel⟩, List.mem_of_getElem? (i := 12) (by decide +kernel), List.mem_of_getElem? (i := 107) (by decide +kernel), List.mem_of_getElem? (i := 108) (by decide +kernel)⟩
theorem lw_p6 : lw_okq (⟨"BellHush", "riseUntilStroke", "(I)I"⟩, 10) := ⟨⟨by decide +kernel, by decide +kernel⟩, List.mem_of_getElem? (i := 12) (by decide +kernel), List.mem_of_getElem? (i := 119) (by decide +kernel), List.mem_of_getElem? (i := 120) (by decide +kernel)⟩
theorem lw_p7 : lw_okq (⟨"BellHush", "mixedTower", "(JI)J"⟩, 10) := ⟨⟨by decide +kernel, by decide +kernel⟩, List.mem_of_getElem? (i := 12) (by decide +kernel), List.mem_of_getElem? (i := 141) (by decide +kernel), List.mem_of_getElem? (i := 142) (by decide +kernel)⟩
theorem lw_p8 : lw_okq (⟨"BellHush", "heldByAll", "(I)I"⟩, 10) := ⟨⟨by decide +kernel, by decide +kernel⟩, List.mem_of_getElem? (i := 12) (by decide +kernel), List.mem_of_getElem? (i := 145) (by decide +kernel), List.mem_of_getElem? (i := 146) (by decide +kernel)⟩
theorem lw_p9 : lw_okq (⟨"BellHush", "mixedTrader", "(JI)J"⟩, 10) := ⟨⟨by decide +kernel, by decide +kernel⟩, List.mem_of_getElem? (i := 12) (by decide +kernel), List.mem_of_getElem? (i := 149) (by decide +kernel), List.mem_of_getElem? (i := 150) (by decide +kernel)⟩
theorem lw_p10 : lw_okq (⟨"BellHush", "shortTowers", "(I)I"⟩, 10) := ⟨⟨by decide +kernel, by decide +kernel⟩, List.mem_of_getElem? (i := 12) (by decide +kernel), List.mem_of_getElem? (i := 153) (by decide +kernel), List.mem_of_getElem? (i := 154) (by decide +kernel)⟩
theorem lw_p11 : lw_okq (⟨"java/lang/Throwable", "fillInStackTrace", "(I)Ljava/lang/Throwable;"⟩, 6) := ⟨⟨by decide +kernel, by decide +kernel⟩, List.mem_of_getElem? (i := 204) (by decide +kernel), List.mem_of_getElem? (i := 202) (by decide +kernel), List.mem_of_getElem? (i := 203) (by decide +kernel)⟩
theorem lw_p12 : lw_okq (⟨"BellHush", "requireTrader", "(I)V"⟩, 10) := ⟨⟨by decide +kernel, by decide +kernel⟩, List.mem_of_getElem? (i := 12) (by decide +kernel), List.mem_of_getElem? (i := 271) (by decide +kernel), List.mem_of_getElem? (i := 272) (by decide +kernel)⟩
theorem lw_p13 : lw_okq (⟨"BellHush", "requireTower", "(I)V"⟩, 10) := ⟨⟨by decide +kernel, by decide +kernel⟩, List.mem_of_getElem? (i := 12) (by decide +kernel), List.mem_of_getElem? (i := 291) (by decide +kernel), List.mem_of_getElem? (i := 292) (by decide +kernel)⟩
theorem lw_p14 : lw_okq (⟨"BellHush", "goOneSecond", "()I"⟩, 10) := ⟨⟨by decide +kernel, by decide +kernel⟩, List.mem_of_getElem? (i := 12) (by decide +kernel), List.mem_of_getElem? (i := 321) (by decide +kernel), List.mem_of_getElem? (i := 322) (by decide +kernel)⟩
theorem lw_p15 : lw_okq (⟨"BellHush", "strike", "(I)V"⟩, 10) := ⟨⟨by decide +kernel, by decide +kernel⟩, List.mem_of_getElem? (i := 12) (by decide +kernel), List.mem_of_getElem? (i := 325) (by decide +kernel), List.mem_of_getElem? (i := 326) (by decide +kernel)⟩
def lw_privs_1 : List (MethodName × Nat) := [(⟨"BellHush", "priceNow", "(I)I"⟩, 10), (⟨"BellHush", "dovesNow", "(I)I"⟩, 10), (⟨"BellHush", "worthBehind", "(II)I"⟩, 10), (⟨"BellHush", "closing", "(I)I"⟩, 10), (⟨"BellHush", "closingWith", "(II)I"⟩, 10), (⟨"BellHush", "priceBehind", "(II)I"⟩, 10), (⟨"BellHush", "riseUntilStroke", "(I)I"⟩, 10), (⟨"BellHush", "mixedTower", "(JI)J"⟩, 10), (⟨"BellHush", "heldByAll", "(I)I"⟩, 10), (⟨"BellHush", "mixedTrader", "(JI)J"⟩, 10), (⟨"BellHush", "shortTowers", "(I)I"⟩, 10), (⟨"java/lang/Throwable", "fillInStackTrace", "(I)Ljava/lang/Throwable;"⟩, 6), (⟨"BellHush", "requireTrader", "(I)V"⟩, 10), (⟨"BellHush", "requireTower", "(I)V"⟩, 10), (⟨"BellHush", "goOneSecond", "()I"⟩, 10), (⟨"BellHush", "strike", "(I)V"⟩, 10)]
theorem lw_r1 : ∀ q ∈ lw_privs_1, lw_okq q := List.forall_mem_cons.mpr ⟨lw_p0, List.forall_mem_cons.mpr ⟨lw_p1, List.forall_mem_cons.mpr ⟨lw_p2, List.forall_mem_cons.mpr ⟨lw_p3, List.forall_mem_cons.mpr ⟨lw_p4, List.forall_mem_cons.mpr ⟨lw_p5, List.forall_mem_cons.mpr ⟨lw_p6, List.forall_mem_cons.mpr ⟨lw_p7, List.forall_mem_cons.mpr ⟨lw_p8, List.forall_mem_cons.mpr ⟨lw_p9, List.forall_mem_cons.mpr ⟨lw_p10, List.forall_mem_cons.mpr ⟨lw_p11, List.forall_mem_cons.mpr ⟨lw_p12, List.forall_mem_cons.mpr ⟨lw_p13, List.forall_mem_cons.mpr ⟨lw_p14, List.forall_mem_cons.mpr ⟨lw_p15, fun _ h => absurd h List.not_mem_nil⟩⟩⟩⟩⟩⟩⟩⟩⟩⟩⟩⟩⟩⟩⟩⟩
theorem lw_p16 : lw_okq (⟨"BellHush", "yieldOfSelling", "(III)I"⟩, 10) := ⟨⟨by decide +kernel, by decide +kernel⟩, List.mem_of_getElem? (i := 12) (by decide +kernel), List.mem_of_getElem? (i := 430) (by decide +kernel), List.mem_of_getElem? (i := 431) (by decide +kernel)⟩
theorem lw_p17 : lw_okq (⟨"BellHush", "closedIn", "(II)I"⟩, 10) := ⟨⟨by decide +kernel, by decide +kernel⟩, List.mem_of_getElem? (i := 12) (by decide +kernel), List.mem_of_getElem? (i := 441) (by decide +kernel), List.mem_of_getElem? (i := 442) (by decide +kernel)⟩
theorem lw_p18 : lw_okq (⟨"BellHushModel", "fail", "(I)I"⟩, 8) := ⟨⟨by decide +kernel, by decide +kernel⟩, List.mem_of_getElem? (i := 445) (by decide +kernel), List.mem_of_getElem? (i := 487) (by decide +kernel), List.mem_of_getElem? (i := 488) (by decide +kernel)⟩
theorem lw_p19 : lw_okq (⟨"BellHushModel", "can", "(III)Z"⟩, 8) := ⟨⟨by decide +kernel, by decide +kernel⟩, List.mem_of_getElem? (i := 445) (by decide +kernel), List.mem_of_getElem? (i := 499) (by decide +kernel), List.mem_of_getElem? (i := 500) (by decide +kernel)⟩
theorem lw_p20 : lw_okq (⟨"BellHushModel", "isTrader", "(I)Z"⟩, 8) := ⟨⟨by decide +kernel, by decide +kernel⟩, List.mem_of_getElem? (i := 445) (by decide +kernel), List.mem_of_getElem? (i := 503) (by decide +kernel), List.mem_of_getElem? (i := 504) (by decide +kernel)⟩
theorem lw_p21 : lw_okq (⟨"BellHushModel", "isTower", "(I)Z"⟩, 8) := ⟨⟨by decide +kernel, by decide +kernel⟩, List.mem_of_getElem? (i := 445) (by decide +kernel), List.mem_of_getElem? (i := 507) (by decide +kernel), List.mem_of_getElem? (i := 508) (by decide +kernel)⟩
theorem lw_p22 : lw_okq (⟨"BellHushModel", "price", "(I)I"⟩, 8) := ⟨⟨by decide +kernel, by decide +kernel⟩, List.mem_of_getElem? (i := 445) (by decide +kernel), List.mem_of_getElem? (i := 511) (by decide +kernel), List.mem_of_getElem? (i := 512) (by decide +kernel)⟩
theorem lw_p23 : lw_okq (⟨"BellHushModel", "priceBehind", "(II)I"⟩, 8) := ⟨⟨by decide +kernel, by decide +kernel⟩, List.mem_of_getElem? (i := 445) (by decide +kernel), List.mem_of_getElem? (i := 515) (by decide +kernel), List.mem_of_getElem? (i := 516) (by decide +kernel)⟩
theorem lw_p24 : lw_okq (⟨"BellHushModel", "doves", "(I)I"⟩, 8) := ⟨⟨by decide +kernel, by decide +kernel⟩, List.mem_of_getElem? (i := 445) (by decide +kernel), List.mem_of_getElem? (i := 519) (by decide +kernel), List.mem_of_getElem? (i := 520) (by decide +kernel)⟩
theorem lw_p25 : lw_okq (⟨"BellHushModel", "sold", "(III)I"⟩, 8) := ⟨⟨by decide +kernel, by decide +kernel⟩, List.mem_of_getElem? (i := 445) (by decide +kernel), List.mem_of_getElem? (i := 531) (by decide +kernel), List.mem_of_getElem? (i := 532) (by decide +kernel)⟩
theorem lw_p26 : lw_okq (⟨"BellHushModel", "secondsOn", "(I)I"⟩, 8) := ⟨⟨by decide +kernel, by decide +kernel⟩, List.mem_of_getElem? (i := 445) (by decide +kernel), List.mem_of_getElem? (i := 539) (by decide +kernel), List.mem_of_getElem? (i := 540) (by decide +kernel)⟩
theorem lw_p27 : lw_okq (⟨"BellHushModel", "secondOn", "()I"⟩, 8) := ⟨⟨by decide +kernel, by decide +kernel⟩, List.mem_of_getElem? (i := 445) (by decide +kernel), List.mem_of_getElem? (i := 543) (by decide +kernel), List.mem_of_getElem? (i := 544) (by decide +kernel)⟩
theorem lw_p28 : lw_okq (⟨"BellHushModel", "told", "(I)I"⟩, 8) := ⟨⟨by decide +kernel, by decide +kernel⟩, List.mem_of_getElem? (i := 445) (by decide +kernel), List.mem_of_getElem? (i := 551) (by decide +kernel), List.mem_of_getElem? (i := 552) (by decide +kernel)⟩
theorem lw_p29 : lw_okq (⟨"BellHushModel", "until", "(I)I"⟩, 8) := ⟨⟨by decide +kernel, by decide +kernel⟩, List.mem_of_getElem? (i := 445) (by decide +kernel), List.mem_of_getElem? (i := 575) (by decide +kernel), List.mem_of_getElem? (i := 576) (by decide +kernel)⟩
theorem lw_p30 : lw_okq (⟨"BellHushModel", "open", "(I)I"⟩, 8) := ⟨⟨by decide +kernel, by decide +kernel⟩, List.mem_of_getElem? (i := 445) (by decide +kernel), List.mem_of_getElem? (i := 587) (by decide +kernel), List.mem_of_getElem? (i := 588) (by decide +kernel)⟩
theorem lw_p31 : lw_okq (⟨"BellHushModel", "dear", "()I"⟩, 8) := ⟨⟨by decide +kernel, by decide +kernel⟩, List.mem_of_getElem? (i := 445) (by decide +kernel), List.mem_of_getElem? (i := 595) (by decide +kernel), List.mem_of_getElem? (i := 596) (by decide +kernel)⟩
def lw_privs_2 : List (MethodName × Nat) := [(⟨"BellHush", "yieldOfSelling", "(III)I"⟩, 10), (⟨"BellHush", "closedIn", "(II)I"⟩, 10), (⟨"BellHushModel", "fail", "(I)I"⟩, 8), (⟨"BellHushModel", "can", "(III)Z"⟩, 8), (⟨"BellHushModel", "isTrader", "(I)Z"⟩, 8), (⟨"BellHushModel", "isTower", "(I)Z"⟩, 8), (⟨"BellHushModel", "price", "(I)I"⟩, 8), (⟨"BellHushModel", "priceBehind", "(II)I"⟩, 8), (⟨"BellHushModel", "doves", "(I)I"⟩, 8), (⟨"BellHushModel", "sold", "(III)I"⟩, 8), (⟨"BellHushModel", "secondsOn", "(I)I"⟩, 8), (⟨"BellHushModel", "secondOn", "()I"⟩, 8), (⟨"BellHushModel", "told", "(I)I"⟩, 8), (⟨"BellHushModel", "until", "(I)I"⟩, 8), (⟨"BellHushModel", "open", "(I)I"⟩, 8), (⟨"BellHushModel", "dear", "()I"⟩, 8)]
theorem lw_r2 : ∀ q ∈ lw_privs_2, lw_okq q := List.forall_mem_cons.mpr ⟨lw_p16, List.forall_mem_cons.mpr ⟨lw_p17, List.forall_mem_cons.mpr ⟨lw_p18, List.forall_mem_cons.mpr ⟨lw_p19, List.forall_mem_cons.mpr ⟨lw_p20, List.forall_mem_cons.mpr ⟨lw_p21, List.forall_mem_cons.mpr ⟨lw_p22, List.forall_mem_cons.mpr ⟨lw_p23, List.forall_mem_cons.mpr ⟨lw_p24, List.forall_mem_cons.mpr ⟨lw_p25, List.forall_mem_cons.mpr ⟨lw_p26, List.forall_mem_cons.mpr ⟨lw_p27, List.forall_mem_cons.mpr ⟨lw_p28, List.forall_mem_cons.mpr ⟨lw_p29, List.forall_mem_cons.mpr ⟨lw_p30, List.forall_mem_cons.mpr ⟨lw_p31, fun _ h => absurd h List.not_mem_nil⟩⟩⟩⟩⟩⟩⟩⟩⟩⟩⟩⟩⟩⟩⟩⟩
theorem lw_p32 : lw_okq (⟨"BellHushModel", "next", "()I"⟩, 8) := ⟨⟨by decide +kernel, by decide +kernel⟩, List.mem_of_getElem? (i := 445) (by decide +kernel), List.mem_of_getElem? (i := 603) (by decide +kernel), List.mem_of_getElem? (i := 604) (by decide +kernel)⟩
theorem lw_p33 : lw_okq (⟨"BellHushModel", "worth", "(I)I"⟩, 8) := ⟨⟨by decide +kernel, by decide +kernel⟩, List.mem_of_getElem? (i := 445) (by decide +kernel), List.mem_of_getElem? (i := 623) (by decide +kernel), List.mem_of_getElem? (i := 624) (by decide +kernel)⟩
theorem lw_p34 : lw_okq (⟨"BellHushModel", "rich", "()I"⟩, 8) := ⟨⟨by decide +kernel, by decide +kernel⟩, List.mem_of_getElem? (i := 445) (by decide +kernel), List.mem_of_getElem? (i := 631) (by decide +kernel), List.mem_of_getElem? (i := 632) (by decide +kernel)⟩
theorem lw_p35 : lw_okq (⟨"BellHushModel", "shorts", "(I)I"⟩, 8) := ⟨⟨by decide +kernel, by decide +kernel⟩, List.mem_of_getElem? (i := 445) (by decide +kernel), List.mem_of_getElem? (i := 639) (by decide +kernel), List.mem_of_getElem? (i := 640) (by decide +kernel)⟩
theorem lw_p36 : lw_okq (⟨"BellHushModel", "owing", "()I"⟩, 8) := ⟨⟨by decide +kernel, by decide +kernel⟩, List.mem_of_getElem? (i := 445) (by decide +kernel), List.mem_of_getElem? (i := 647) (by decide +kernel), List.mem_of_getElem? (i := 648) (by decide +kernel)⟩
theorem lw_p37 : lw_okq (⟨"BellHushModel", "closing", "(I)I"⟩, 8) := ⟨⟨by decide +kernel, by decide +kernel⟩, List.mem_of_getElem? (i := 445) (by decide +kernel), List.mem_of_getElem? (i := 655) (by decide +kernel), List.mem_of_getElem? (i := 656) (by decide +kernel)⟩
theorem lw_p38 : lw_okq (⟨"BellHushModel", "keep", "()V"⟩, 8) := ⟨⟨by decide +kernel, by decide +kernel⟩, List.mem_of_getElem? (i := 445) (by decide +kernel), List.mem_of_getElem? (i := 663) (by decide +kernel), List.mem_of_getElem? (i := 664) (by decide +kernel)⟩
theorem lw_p39 : lw_okq (⟨"BellHushModel", "bringBack", "()V"⟩, 8) := ⟨⟨by decide +kernel, by decide +kernel⟩, List.mem_of_getElem? (i := 445) (by decide +kernel), List.mem_of_getElem? (i := 670) (by decide +kernel), List.mem_of_getElem? (i := 671) (by decide +kernel)⟩
theorem lw_p40 : lw_okq (⟨"BellHushModel", "toBuy", "()I"⟩, 8) := ⟨⟨by decide +kernel, by decide +kernel⟩, List.mem_of_getElem? (i := 445) (by decide +kernel), List.mem_of_getElem? (i := 682) (by decide +kernel), List.mem_of_getElem? (i := 683) (by decide +kernel)⟩
def lw_privs_3 : List (MethodName × Nat) := [(⟨"BellHushModel", "next", "()I"⟩, 8), (⟨"BellHushModel", "worth", "(I)I"⟩, 8), (⟨"BellHushModel", "rich", "()I"⟩, 8), (⟨"BellHushModel", "shorts", "(I)I"⟩, 8), (⟨"BellHushModel", "owing", "()I"⟩, 8), (⟨"BellHushModel", "closing", "(I)I"⟩, 8), (⟨"BellHushModel", "keep", "()V"⟩, 8), (⟨"BellHushModel", "bringBack", "()V"⟩, 8), (⟨"BellHushModel", "toBuy", "()I"⟩, 8)]
theorem lw_r3 : ∀ q ∈ lw_privs_3, lw_okq q := List.forall_mem_cons.mpr ⟨lw_p32, List.forall_mem_cons.mpr ⟨lw_p33, List.forall_mem_cons.mpr ⟨lw_p34, List.forall_mem_cons.mpr ⟨lw_p35, List.forall_mem_cons.mpr ⟨lw_p36, List.forall_mem_cons.mpr ⟨lw_p37, List.forall_mem_cons.mpr ⟨lw_p38, List.forall_mem_cons.mpr ⟨lw_p39, List.forall_mem_cons.mpr ⟨lw_p40, fun _ h => absurd h List.not_mem_nil⟩⟩⟩⟩⟩⟩⟩⟩⟩
def lw_privs : List (MethodName × Nat) := lw_privs_1 ++ (lw_privs_2 ++ (lw_privs_3))
def lw_tbl : List Cond := k2_sels lw_privs ++ tables_1
theorem lw_privs_ok : ∀ q ∈ lw_privs, lw_okq q := by
  show ∀ q ∈ lw_privs_1 ++ (lw_privs_2 ++ (lw_privs_3)), lw_okq q
  exact List.forall_mem_append.mpr ⟨lw_r1, List.forall_mem_append.mpr ⟨lw_r2, lw_r3⟩⟩
/-- the streams that the claim lets the run draw from -/
abbrev lw_cs : List Choice := [Jvm.Choice.named "NaN.bits"]
theorem lw_bits : nanBits ∈ lw_cs := by first | decide | exact List.mem_cons_self | simp [lw_cs, nanBits]
/-! ===== BEGIN words of one list among another's, by their places ===== -/
theorem goodIn_r {big : List Cond} (ws : List Cond) (ps : List Nat) (hp : ws = ps.filterMap (fun i => big[i]?)) (h : ws.all goodWord = true) : GoodIn big ws := by
  intro w hw
  have h1 := List.all_eq_true.mp h w hw
  rw [hp] at hw
  obtain ⟨i, -, hi⟩ := List.mem_filterMap.mp hw
  have hm : w ∈ big := by first | exact List.mem_of_getElem? hi | exact List.getElem?_mem hi
  exact ⟨hm, good_of_word h1⟩
theorem goodIn_app {big a b : List Cond} (ha : GoodIn big a) (hb : GoodIn big b) : GoodIn big (a ++ b) := fun w h => (List.mem_append.mp h).elim (ha w) (hb w)
theorem goodIn_ca {big a b : List Cond} {c : Cond} (ha : GoodIn big (c :: a)) (hb : GoodIn big b) : GoodIn big (c :: (a ++ b)) := fun w h => (List.mem_cons.mp h).elim (fun e => ha w (List.mem_cons.mpr (Or.inl e))) (fun h => (List.mem_append.mp h).elim (fun h => ha w (List.mem_cons.mpr (Or.inr h))) (hb w))
theorem goodIn_sub {big ws : List Cond} (hm : ∀ w ∈ ws, w ∈ big) (h : ws.all goodWord = true) : GoodIn big ws := fun w hw => ⟨hm w hw, good_of_word (List.all_eq_true.mp h w hw)⟩
/-! ===== END ===== -/

/-! ===== BEGIN new T[n][m]: the outer array a place, the inner ones among the pooled ===== -/
/-- f, but v at every address of l -/
def vr_up {α : Type} (f : Nat → α) (l : List Nat) (v : α) : Nat → α := fun a => if a ∈ l then v else f a
theorem vr_up_in {α : Type} {f : Nat → α} {l : List Nat} {v : α} {a : Nat} (h : a ∈ l) : vr_up f l v a = v := if_pos h
theorem vr_up_ne {α : Type} {f : Nat → α} {l : List Nat} {v : α} {a : Nat} (h : a ∉ l) : vr_up f l v a = f a := if_neg h
theorem vr_rows {L l : List Nat} {f : Nat → va_E} {e : va_E} (h : ∀ a, a ∈ l → a ∉ L) : va_pl L f ++ l.map (fun a => (a, e)) = va_pl (L ++ l) (vr_up f l e) := by
  unfold va_pl
  rw [List.map_append]
  congr 1
  · apply List.map_congr_left
    intro a ha
    rw [vr_up_ne (fun q => h a q ha)]
  · apply List.map_congr_left
    intro a ha
    rw [vr_up_in ha]
theorem vr_lay {X rows : va_W} {x : Nat × va_E} {pl : va_W} {D : va_G} {cl : List vw_C} {H : Heap} (hP : va_P D cl (((X ++ pl) ++ [x]) ++ rows) H) : va_P D cl ((X ++ [x]) ++ (pl ++ rows)) H := by
  rw [List.append_assoc (X ++ pl)] at hP
  have h := va_P.swap hP
  rw [← List.append_assoc X] at h
  have h2 := va_P.swap h
  rw [List.append_assoc (X ++ [x])] at h2
  exact h2
theorem vr_layD {X rows : va_W} {x : Nat × va_E} {pl : va_W} {A : Nat → Prop} (hD : va_D A (((X ++ pl) ++ [x]) ++ rows)) : va_D A ((X ++ [x]) ++ (pl ++ rows)) := by
  rw [List.append_assoc (X ++ pl)] at hD
  have h := va_D.swap hD
  rw [← List.append_assoc X] at h
  have h2 := va_D.swap h
  rw [List.append_assoc (X ++ [x])] at h2
  exact h2
theorem vr_outer (c : ClassId) (N h0 : Nat) : ∀ i : Nat, Jvm.Free.Multi.outerC c N h0 i = arrV c N (fun j => va_rf (if j < i then some (h0 + 1 + j) else none))
  | 0 => by
    show ({ cls := c, slots := Array.replicate N .null, vm := .none } : Cell) = _
    rw [arrV_new]
    refine congrArg (arrV c N) (funext fun j => ?_)
    simp [va_rf]
  | i + 1 => by
    show (Jvm.Free.Multi.outerC c N h0 i).setSlot i (.ref (h0 + 1 + i)) = _
    rw [vr_outer c N h0 i, arrV_store]
    refine congrArg (arrV c N) (funext fun j => ?_)
    by_cases e : j = i
    · subst e
      simp [updV, va_rf]
    · by_cases h : j < i
      · simp [updV, e, h, Nat.lt_succ_of_lt h]
      · simp [updV, e, h, show ¬ j < i + 1 by omega]
/-- an array class's component is an array class: by the tables -/
def va_AOA (ty : FieldType) (U : State) : Prop := (Cond.arrayOver (.array ty)).before #[] U = true
theorem va_AOA.use {ty : FieldType} {A : Array Value} {U : State} (h : va_AOA ty U) : (Cond.arrayOver (.array ty)).before A U = true := h
section VGM
variable {p : Program} {l : Launch} {e : Env} {R : Room} {s : State} {m : MethodId} {args : Array Value} {below : List Frame} {meth : Method} {c : Code} {H : Heap} {locs : List Loc} {cells slots : Nat} {Q : State → Prop}
variable {cc : ByteArray} {pc : Nat} {ls : Array Slot} {rest : List Value} {D : va_G} {cl : List vw_C} {A : Nat → Prop} {a : Nat} {tys : List (ClassId × FieldType)} {ws : va_W} {H0 : Heap}
theorem va_mna {X : va_W} {L : List Nat} {f : Nat → va_E} {cc : ByteArray} (hexec : p.tables.exec = Jvm.exec) (hb : c.code = cc) {own : String} {index : Nat} {ty : FieldType} {cy : ClassId} (hown : s.vm.findClass own = some m.cls) (hclink : (Cond.classLink own index ("[" ++ (FieldType.array ty).toString)).before args s = true) (hover : va_AOA ty s) (harr : (Cond.arrayClass ty).before args s = true) (hcy : s.vm.findClass (FieldType.array ty).toString = some cy)
    (hK : va_K D cl tys s) (hP : va_P D cl (X ++ va_pl L f) H) (hD : va_D A (X ++ va_pl L f)) (hS : va_S A H0 H locs) (hA : ∀ q, H0.size ≤ q → A q) {n k : Int32} {N' K' : Nat} {z : vp_A} (hn : ¬ n < 0) (hk : ¬ k < 0) (hN : n.toNatClampNeg = N') (hM : k.toNatClampNeg = K')
    (hb1 : N' * 4 ≤ 536870912) (hb2 : K' * componentBytes ty ≤ 536870912) (hb3 : K' ≤ 536870912) (hdf : fits ty (defaultValue ty) = true) (hdd : (defaultValue ty).isDefault = true) (hcells : cells + (1 + N') ≤ R.cells) (hslots : slots + (N' + N' * K') ≤ R.slots) (hz : ∀ c : ClassId, Jvm.Free.Multi.innerC c K' (defaultValue ty) = vp_cell c z) (hdg : decode cc pc = .ok (.multianewarray index 2, 4))
    (kk : ∀ (q : Nat) (r : Nat → Nat) (cA : ClassId) (H1 : Heap), (∀ i j : Nat, i < N' → j < N' → r i = r j → i = j) → (∀ i : Nat, i < N' → r i ∉ L) → va_K D cl (tys ++ [(cA, .array ty)]) s →
      va_P D cl ((X ++ [(q, .inl (cA, N', .inr (.inr (.inr (.inr (fun i => if i < N' then some (r i) else none))))))]) ++ va_pl (L ++ (List.range N').map r) (vr_up f ((List.range N').map r) (.inl (cy, z)))) H1 → va_D A ((X ++ [(q, .inl (cA, N', .inr (.inr (.inr (.inr (fun i => if i < N' then some (r i) else none))))))]) ++ va_pl (L ++ (List.range N').map r) (vr_up f ((List.range N').map r) (.inl (cy, z)))) → va_S A H0 H1 locs →
      W p l e R s m args below meth c H1 locs (cells + 1 + N') (slots + N' + N' * K') Q (F0 m (pc + 4) ls (.ref q :: rest))) : W p l e R s m args below meth c H locs cells slots Q (F0 m pc ls (.int k :: .int n :: rest)) := by
  subst hN
  subst hM
  intro T hT Xs
  obtain ⟨vm₁, cA, comp, -, fA, fC, hO, -, X', step⟩ := Xs.multianewarray2F hexec hown hclink (va_AOA.use hover) harr (g := F0 m pc ls (.int k :: .int n :: rest)) rfl (by rw [hb]; exact hdg) rfl hn hk hb1 hb2 hb3 hdf hdd hcells hslots
  have ec : some cy = some comp := hcy.symm.trans fC
  cases ec
  generalize hF : Jvm.Free.Multi.fill (T.setVm vm₁) cA cy n.toNatClampNeg k.toNatClampNeg (defaultValue ty) n.toNatClampNeg = F at X' step
  have hTh : (T.setVm vm₁).heap = H := hT
  obtain ⟨f1, f2, -, -⟩ := Jvm.Free.Multi.fill_facts (T.setVm vm₁) cA cy n.toNatClampNeg k.toNatClampNeg (defaultValue ty) n.toNatClampNeg
  rw [hF, hTh] at f1 f2
  have hold : ∀ x : Nat, x < H.size → F.heap[x]? = H[x]? := fun x hx => by
    have := Jvm.Free.Multi.fill_old (T.setVm vm₁) cA cy n.toNatClampNeg k.toNatClampNeg (defaultValue ty) (a := x) (by rw [hTh]; exact hx) n.toNatClampNeg
    rw [hF, hTh] at this
    exact this
  have hrow : ∀ j : Nat, j < n.toNatClampNeg → F.heap[H.size + 1 + j]? = some (vp_cell cy z) := fun j hj => by
    have := Jvm.Free.Multi.fill_inner (T.setVm vm₁) cA cy n.toNatClampNeg k.toNatClampNeg (defaultValue ty) n.toNatClampNeg j hj
    rw [hF, hTh, hz] at this
    exact this
  have hout : Jvm.Free.Multi.outerC cA n.toNatClampNeg H.size n.toNatClampNeg = vp_cell cA (n.toNatClampNeg, .inr (.inr (.inr (.inr (fun i => if i < n.toNatClampNeg then some (H.size + 1 + i) else none))))) := by
    rw [vp_cell_q]
    exact vr_outer cA n.toNatClampNeg H.size n.toNatClampNeg
  rw [hout] at f2
  have hlt : ∀ a, a ∈ L → a < H.size := fun a ha => by
    obtain ⟨k9, hk9⟩ := va_pl_get (X := X) (f := f) ha
    exact (hP k9 _ hk9).lt
  have hnl : ∀ i : Nat, i < n.toNatClampNeg → H.size + 1 + i ∉ L := fun i _ h => by
    have := hlt _ h
    omega
  have hnm : ∀ a, a ∈ (List.range n.toNatClampNeg).map (fun i => H.size + 1 + i) → a ∉ L := fun a ha h => by
    obtain ⟨i, -, rfl⟩ := List.mem_map.mp ha
    have := hlt _ h
    omega
  have hP0 : va_P D cl (X ++ va_pl L f) F.heap := hP.kept (fun k9 x hx => hold x.1 ((hP k9 x hx).lt))
  have hP1 : va_P D cl ((X ++ va_pl L f) ++ [(H.size, .inl (cA, n.toNatClampNeg, .inr (.inr (.inr (.inr (fun i => if i < n.toNatClampNeg then some (H.size + 1 + i) else none))))))]) F.heap := hP0.app (fun k9 x hx => by
    have h0 : k9 < 1 := (List.getElem?_eq_some_iff.mp hx).1
    rw [show k9 = 0 by omega] at hx
    cases hx
    exact f2)
  have hP2 : va_P D cl (((X ++ va_pl L f) ++ [(H.size, .inl (cA, n.toNatClampNeg, .inr (.inr (.inr (.inr (fun i => if i < n.toNatClampNeg then some (H.size + 1 + i) else none))))))]) ++ ((List.range n.toNatClampNeg).map (fun i => H.size + 1 + i)).map (fun a => (a, .inl (cy, z)))) F.heap := hP1.app (fun k9 x hx => by
    obtain ⟨a, ha, rfl⟩ := List.mem_map.mp (List.mem_of_getElem? hx)
    obtain ⟨i, hi, rfl⟩ := List.mem_map.mp ha
    exact hrow i (List.mem_range.mp hi))
  have hD2 : va_D A (((X ++ va_pl L f) ++ [(H.size, .inl (cA, n.toNatClampNeg, .inr (.inr (.inr (.inr (fun i => if i < n.toNatClampNeg then some (H.size + 1 + i) else none))))))]) ++ ((List.range n.toNatClampNeg).map (fun i => H.size + 1 + i)).map (fun a => (a, .inl (cy, z)))) := by
    have hD1 := hD.push (e := .inl (cA, n.toNatClampNeg, .inr (.inr (.inr (.inr (fun i => if i < n.toNatClampNeg then some (H.size + 1 + i) else none)))))) hP rfl (hA _ hS.1)
    generalize hW1 : (X ++ va_pl L f) ++ [(H.size, .inl (cA, n.toNatClampNeg, .inr (.inr (.inr (.inr (fun i => if i < n.toNatClampNeg then some (H.size + 1 + i) else none))))))] = W1 at hD1 hP1 ⊢
    have hle : ∀ (k9 : Nat) (x : Nat × va_E), W1[k9]? = some x → x.1 ≤ H.size := fun k9 x hx => by
      rw [← hW1] at hx
      by_cases hl : k9 < (X ++ va_pl L f).length
      · rw [List.getElem?_append_left hl] at hx
        exact Nat.le_of_lt ((hP k9 x hx).lt)
      · rw [List.getElem?_append_right (by omega)] at hx
        have h0 : k9 - (X ++ va_pl L f).length < 1 := (List.getElem?_eq_some_iff.mp hx).1
        rw [show k9 - (X ++ va_pl L f).length = 0 by omega] at hx
        cases hx
        exact Nat.le_refl _
    have hr : ∀ (k9 : Nat) (x : Nat × va_E), (((List.range n.toNatClampNeg).map (fun i => H.size + 1 + i)).map (fun a => ((a, .inl (cy, z)) : Nat × va_E)))[k9]? = some x → x.1 = H.size + 1 + k9 := fun k9 x hx => by
      rw [List.getElem?_map, List.getElem?_map] at hx
      by_cases h9 : k9 < n.toNatClampNeg
      · rw [List.getElem?_range h9] at hx
        cases hx
        rfl
      · have hn0 : (List.range n.toNatClampNeg)[k9]? = none := List.getElem?_eq_none (by rw [List.length_range]; omega)
        rw [hn0] at hx
        cases hx
    refine ⟨fun i j x y hi hj hxy => ?_, fun k9 x hx => ?_⟩
    · by_cases h1 : i < W1.length <;> by_cases h2 : j < W1.length
      · rw [List.getElem?_append_left h1] at hi
        rw [List.getElem?_append_left h2] at hj
        exact hD1.1 i j x y hi hj hxy
      · rw [List.getElem?_append_left h1] at hi
        rw [List.getElem?_append_right (by omega)] at hj
        have := hle _ _ hi
        have := hr _ _ hj
        omega
      · rw [List.getElem?_append_right (by omega)] at hi
        rw [List.getElem?_append_left h2] at hj
        have := hle _ _ hj
        have := hr _ _ hi
        omega
      · rw [List.getElem?_append_right (by omega)] at hi hj
        have := hr _ _ hi
        have := hr _ _ hj
        omega
    · by_cases h1 : k9 < W1.length
      · rw [List.getElem?_append_left h1] at hx
        exact hD1.2 k9 x hx
      · rw [List.getElem?_append_right (by omega)] at hx
        have := hr _ _ hx
        exact hA _ (by have := hS.1; omega)
  have hAr : ArrOfT s cA (.array ty) := fun N9 z9 => by
    obtain ⟨-, k9, hk9, cm9, hkk9⟩ := (hO 0 0 0).1
    exact ⟨(fun q hq => by cases hq), k9, hk9, cm9, hkk9⟩
  have hK2 : va_K D cl (tys ++ [(cA, .array ty)]) s := ⟨hK.1, fun k9 x hx => by
    by_cases hl : k9 < tys.length
    · rw [List.getElem?_append_left hl] at hx
      exact hK.2 k9 x hx
    · rw [List.getElem?_append_right (by omega)] at hx
      have h0 : k9 - tys.length < 1 := (List.getElem?_eq_some_iff.mp hx).1
      rw [show k9 - tys.length = 0 by omega] at hx
      cases hx
      exact ⟨hAr, fA⟩⟩
  obtain ⟨t, a1, b1⟩ := kk H.size (fun i => H.size + 1 + i) cA F.heap (fun i j _ _ h => by have h9 : H.size + 1 + i = H.size + 1 + j := h; omega) hnl hK2 (by rw [← vr_rows hnm]; exact vr_lay hP2) (by rw [← vr_rows hnm]; exact vr_layD hD2) ⟨by rw [f1]; have := hS.1; omega, fun x h1 h2 => (hold x (Nat.lt_of_lt_of_le h1 hS.1)).trans (hS.2.1 x h1 h2), hS.2.2⟩ F rfl X'
  refine ⟨t, step t ?_, b1⟩
  have e : T.heap.size = H.size := by rw [hT]
  rw [e]
  exact a1
end VGM
/-! ===== END ===== -/

/-! ===== BEGIN exceptions that leave a method, and their catching by the caller (launches without stack traces) ===== -/
section VXA
/-! The laws vx_back, vx_callV, vx_callS, vx_callSW, vx_throw0, vx_throwS follow proofs of the library, with one case more: JvmDerived/Free/Laws.lean (Back.of_free), Shelf42/LK1.lean (callV, callS), Shelf/KitTraced.lean (throwNew0V, throwNewS). -/
/-- where a method has thrown q: the class by its name, the cell, what was written, the world -/
def vx_T (XC : String → State → State → Prop) (st : State) (q : Addr) (t : State) (mc ms : Nat) (free : Addr → Prop) : Prop :=
  ∃ (E : String) (ce : Cell) (L : List Loc), XC E st t ∧ t.heap[q]? = some ce ∧ ce.vm = .none ∧ st.vm.findClass E = some ce.cls ∧ st.WarmedH t.vm ∧ st.sameButNew ({ t with vm := st.vm } : State) L mc ms ∧ ∀ z ∈ L, free z.base
def vx_Q (Qc : Array Value → State → Outcome → State → Prop) (XC : String → State → State → Prop) (mc ms : Nat) (free : Addr → Prop) : Array Value → State → Outcome → State → Prop := fun a st o t =>
  (Qc a st o t ∧ ∃ L, FrameEnd st o t L mc ms ∧ ∀ q ∈ L, free q.base) ∨ ∃ q, o = .threw q ∧ vx_T XC st q t mc ms free
/-- a callee that returns or throws -/
def vx_Met (l : Launch) (y : MethodName) (ws : List Cond) (rm : Room) (Pc : Array Value → State → Prop) (Qc : Array Value → State → Outcome → State → Prop) (XC : String → State → State → Prop) (mc ms : Nat) (free : Addr → Prop) : Prop :=
  MetFree l y (headSpec ws rm) Pc (fun _ _ _ _ _ => True) (vx_Q Qc XC mc ms free)
def vx_Post (XC : String → State → State → Prop) (mc ms : Nat) (free : Addr → Prop) : Pt → Array Value → Addr → Pt → Prop := fun A a q B =>
  ∃ (g : JFrame) (mk : MethodId) (t : State) (L : List Loc) (E : String) (ce : Cell), B.U.heap = t.heap ∧ B.U.vm = t.vm ∧ XC E (A.U.calling g mk a) t ∧ t.heap[q]? = some ce ∧ ce.vm = .none ∧ A.U.vm.findClass E = some ce.cls ∧ B.locs = A.locs ++ L ∧ (∀ z ∈ L, free z.base) ∧ B.cells = A.cells + mc ∧ B.slots = A.slots + ms
def vx_Back (l : Launch) (R : Room) (p : Program) (e : Env) (below : List Frame) (s : State) (sargs : Array Value) (y : MethodName) (len W9 : Nat)
    (Pre : Pt → Array Value → Prop) (Post : Pt → Array Value → Option Value → Pt → Prop) (PostX : Pt → Array Value → Addr → Pt → Prop) : Prop :=
  ∀ (m : MethodId) (meth : Method) (c : Code) (A : Pt) (g : JFrame) (ig : Instr) (mk : MethodId) (a : Array Value),
    Stand p l e R s m sargs below meth c A.U A.locs A.cells A.slots → g.method = m → g.locals.size = c.maxLocals → decode c.code g.pc = .ok (ig, len) →
    2 * g.monitorRoom + (g.stack.map fun v => v.category).sum ≤ W9 → A.U.methodNamed? y = some mk → Pre A a →
    (∃ (v : Option Value) (B : Pt), Stand p l e R s m sargs below meth c B.U B.locs B.cells B.slots ∧ Post A a v B ∧
      Steps p.tables e below (doInvoke e (A.U.setTop g) [] mk a).1 (B.U.setTop { g with pc := g.pc + len, stack := v.toList ++ g.stack })) ∨
    (∃ (q : Addr) (B : Pt), Stand p l e R s m sargs below meth c B.U B.locs B.cells B.slots ∧ PostX A a q B ∧
      Steps p.tables e below (doInvoke e (A.U.setTop g) [] mk a).1 ((B.U.setTop g).pushFrame (.throwing q)))
section Payer
variable {l : Launch} {R : Room} {p : Program} {e : Env} {below : List Frame} {s : State} {sargs : Array Value} {y : MethodName} {len W9 : Nat}
theorem vx_back {ws : List Cond} {rm : Room} {Pc : Array Value → State → Prop} {Qc : Array Value → State → Outcome → State → Prop} {XC : String → State → State → Prop} {mc ms : Nat} {free : Addr → Prop} {bytes : ByteArray} {maxL : Nat} {ret : Option FieldType}
    (hM : vx_Met l y ws rm Pc Qc XC mc ms free) (hblind : FrameBlind Pc) (hrc : rm.cells = mc) (hrs : rm.slots = ms)
    (hframes : rm.frames + 1 ≤ R.frames) (hlocals : W9 + (maxL + 11) + rm.locals ≤ R.locals)
    (hws : ∀ w ∈ ws, ∀ a' U, s.WarmedH U.vm → w.before a' U = true) (hcode : Cond.code y bytes maxL ret ∈ ws) (hinit : ∀ a' U, s.WarmedH U.vm → (Cond.initialized y.cls).before a' U = true) :
    vx_Back l R p e below s sargs y len W9 (PreOf R mc ms Pc) (PostOf Qc mc ms free) (vx_Post XC mc ms free) := by
  intro m meth c A g ig mk a X hg hsize hdg hW hn hp
  have h1 : (headSpec ws rm).pre.before a A.U = true := atoms_intro fun w hw => hws w hw _ _ X.warmed
  have h2 : (Cond.code y bytes maxL ret).before a A.U = true := hws _ hcode _ _ X.warmed
  have h3 : (Cond.initialized y.cls).before a A.U = true := hinit _ _ X.warmed
  have h4 : A.cells + (headSpec ws rm).room.cells ≤ R.cells := by rw [show (headSpec ws rm).room.cells = mc from hrc]; exact hp.1
  have h5 : A.slots + (headSpec ws rm).room.slots ≤ R.slots := by rw [show (headSpec ws rm).room.slots = ms from hrs]; exact hp.2.1
  have hPc : Pc a (A.U.calling g mk a) := hblind _ _ _ _ hp.2.2
  obtain ⟨U, Ls, c0, s0⟩ := A
  dsimp only [Pt.U, Pt.locs, Pt.cells, Pt.slots] at h1 h2 h3 h4 h5 X hn hPc ⊢
  obtain ⟨methY, cY, hmY, hcY, -, hlY, -, -, -, -⟩ := Cond.code_spec hn h2
  obtain ⟨kY, hkY, -⟩ := className_of_methodNamed hn
  have hinitY : kY.init = .initialized := Cond.initialized_spec (findClass_of_methodNamed hn) hkY h3
  have h : At U g.method c below := by rw [hg]; exact X.here
  have hlocals9 : W9 + (maxL + 11) + (headSpec ws rm).room.locals ≤ R.locals := hlocals
  have happ : (headSpec ws rm).appliesLoose y e.platform (U.calling g mk a) = true :=
    Spec.appliesLoose_calling (g := g) h hdg hn hkY hinitY
      (X.room_calling (g := g) (R' := (headSpec ws rm).room) hsize hmY hcY hframes (by rw [hlY]; omega) h4 h5) h1
  obtain ⟨mid, hmid⟩ := h.above
  have hfr : (U.setTop g).frames = (.java g :: mid) ++ below := by rw [State.frames_setTop' g h.top, hmid]; rfl
  obtain ⟨o, s₂, hsteps, -, hend, hq⟩ := Steps.callFree hM p X.admits X.cas X.clock (acts := []) hfr happ hPc trivial
  have hq' : vx_Q Qc XC mc ms free a (U.calling g mk a) o s₂ := hq
  rw [State.frames_setTop' g h.top] at hend
  obtain ⟨g₀, hg0⟩ := Option.isSome_iff_exists.mp h.top
  obtain ⟨r, hr⟩ := State.topJava?_eq_some.mp hg0
  have hr' : (({ U with heap := s₂.heap, slotsUsed := s₂.slotsUsed } : State).setVm s₂.vm).frames = .java g₀ :: r := hr
  rcases hq' with ⟨hqc, L, hfe, hL⟩ | ⟨q, rfl, E, ce, L, hx, hce, hcv, hcl, hW₂, hsm, hL⟩
  · obtain ⟨⟨v, rfl⟩, hW₂, e2, q2, q3, q4, q5, q6⟩ := id hfe
    have e3 : s₂ = ({ (U.calling g mk a).setFrames s₂.frames with heap := s₂.heap, slotsUsed := s₂.slotsUsed } : State).setVm s₂.vm := by
      have : s₂ = ({ s₂ with vm := (U.calling g mk a).vm } : State).setVm s₂.vm := rfl
      rw [e2] at this
      exact this
    obtain ⟨c₂, i₂, len₂, hc₂, hd₂, hf₂⟩ := hend
    have hW' : U.WarmedH s₂.vm := hW₂
    have hcc : c₂ = c := by
      have h1 : s₂.code? g.method = U.code? g.method := by
        rw [State.code?_eq, State.code?_eq, hW'.alike.method?]
      exact Option.some.inj (hc₂.symm.trans (h1.trans h.code))
    subst hcc
    have hlen : len₂ = len := by rw [hdg] at hd₂; cases hd₂; rfl
    subst hlen
    have hs₂ : s₂ = (({ U with heap := s₂.heap, slotsUsed := s₂.slotsUsed } : State).setVm s₂.vm).setTop { g with pc := g.pc + len₂, stack := v.toList ++ g.stack } := by
      refine e3.trans ?_
      rw [hf₂, State.calling_eq h.top, State.setFrames_setFrames, State.setTop_of_frames _ hr', hr]
      rfl
    have hsame : U.sameButNew ({ U with heap := s₂.heap, slotsUsed := s₂.slotsUsed } : State) L mc ms := by
      refine ⟨?_, q2, q3, q4, q5, q6⟩
      obtain ⟨t, ht, -⟩ := State.frames_cons hr
      show ({ U with heap := s₂.heap, slotsUsed := s₂.slotsUsed } : State) = { U.setFrames U.frames with heap := s₂.heap, slotsUsed := s₂.slotsUsed }
      rw [State.setFrames_self ht]
    subst hg
    refine Or.inl ⟨v, ⟨(({ U with heap := s₂.heap, slotsUsed := s₂.slotsUsed } : State).setVm s₂.vm), Ls ++ L, c0 + mc, s0 + ms⟩,
      ⟨X.admits, X.cas, X.clock, X.frames, X.room, X.hears, X.method, X.code, (X.here.setHeapUsed s₂.heap s₂.slotsUsed).setVm hW'.alike, X.tail, State.WarmedH.trans X.warmed hW', X.limits, X.bytes, X.same.trans (hsame.setVm s.vm)⟩,
      ⟨g, mk, s₂, L, rfl, rfl, hqc, rfl, hL, rfl, rfl⟩, ?_⟩
    show Steps p.tables e below _ ((({ U with heap := s₂.heap, slotsUsed := s₂.slotsUsed } : State).setVm s₂.vm).setTop { g with pc := g.pc + len₂, stack := v.toList ++ g.stack })
    rw [← hs₂]
    exact hsteps
  · obtain ⟨e2, q2, q3, q4, q5, q6⟩ := id hsm
    have e3 : s₂ = ({ (U.calling g mk a).setFrames s₂.frames with heap := s₂.heap, slotsUsed := s₂.slotsUsed } : State).setVm s₂.vm := by
      have : s₂ = ({ s₂ with vm := (U.calling g mk a).vm } : State).setVm s₂.vm := rfl
      rw [e2] at this
      exact this
    have hf₂ : s₂.frames = .throwing q :: .java g :: U.frames.tail := hend
    have hW' : U.WarmedH s₂.vm := hW₂
    have hs₂ : s₂ = ((({ U with heap := s₂.heap, slotsUsed := s₂.slotsUsed } : State).setVm s₂.vm).setTop g).pushFrame (.throwing q) := by
      refine e3.trans ?_
      rw [hf₂, State.calling_eq h.top, State.setFrames_setFrames, State.pushFrame, State.frames_setTop _ hr', State.setTop_of_frames _ hr', State.setFrames_setFrames, hr]
      rfl
    have hsame : U.sameButNew ({ U with heap := s₂.heap, slotsUsed := s₂.slotsUsed } : State) L mc ms := by
      refine ⟨?_, q2, q3, q4, q5, q6⟩
      obtain ⟨t, ht, -⟩ := State.frames_cons hr
      show ({ U with heap := s₂.heap, slotsUsed := s₂.slotsUsed } : State) = { U.setFrames U.frames with heap := s₂.heap, slotsUsed := s₂.slotsUsed }
      rw [State.setFrames_self ht]
    subst hg
    refine Or.inr ⟨q, ⟨(({ U with heap := s₂.heap, slotsUsed := s₂.slotsUsed } : State).setVm s₂.vm), Ls ++ L, c0 + mc, s0 + ms⟩,
      ⟨X.admits, X.cas, X.clock, X.frames, X.room, X.hears, X.method, X.code, (X.here.setHeapUsed s₂.heap s₂.slotsUsed).setVm hW'.alike, X.tail, State.WarmedH.trans X.warmed hW', X.limits, X.bytes, X.same.trans (hsame.setVm s.vm)⟩,
      ⟨g, mk, s₂, L, E, ce, rfl, rfl, hx, hce, hcv, hcl, rfl, hL, rfl, rfl⟩, ?_⟩
    show Steps p.tables e below _ (((({ U with heap := s₂.heap, slotsUsed := s₂.slotsUsed } : State).setVm s₂.vm).setTop g).pushFrame (.throwing q))
    rw [← hs₂]
    exact hsteps
end Payer
section Calls
variable {p : Program} {l : Launch} {e : Env} {R : Room} {s : State} {m : MethodId} {args : Array Value} {below : List Frame} {meth : Method} {c : Code} {T : State} {locs : List Loc} {cells slots : Nat}
theorem vx_callV (X : Stand p l e R s m args below meth c T locs cells slots) (hexec : p.tables.exec = Jvm.exec) {own C : String} {index : Nat} {y : MethodName} {bytes : ByteArray} {maxL : Nat} {ret : Option FieldType}
    (hown : s.vm.findClass own = some m.cls) (hlink : (Cond.methodLink own index y).before args s = true) (hinst : (Cond.instanceMethod y).before args s = true) (hsel : (Cond.selects C y y).before args s = true)
    (hcode : (Cond.code y bytes maxL ret).before args s = true) (hy : y.cls ≠ "java/lang/invoke/MethodHandle" ∧ y.cls ≠ "java/lang/invoke/VarHandle")
    {W9 : Nat} {Pre : Pt → Array Value → Prop} {Post : Pt → Array Value → Option Value → Pt → Prop} {PostX : Pt → Array Value → Addr → Pt → Prop} (hK : vx_Back l R p e below s args y 3 W9 Pre Post PostX)
    {b : Addr} {cellB : Cell} (hcell : T.heap[b]? = some cellB) (hobj : cellB.vm.isStatics = false) (hcls : s.vm.findClass C = some cellB.cls)
    {g : JFrame} (hg : g.method = m) (hsize : g.locals.size = c.maxLocals) {argsL rest : List Value} (hlen : ∀ sig, parseMethodDescriptor y.desc = some sig → argsL.length = sig.parameters.length)
    (hstack : g.stack = argsL.reverse ++ .ref b :: rest) (hW : 2 * g.monitorRoom + (rest.map fun v => v.category).sum ≤ W9) (hdg : decode c.code g.pc = .ok (.invokevirtual index, 3))
    (hpre : ∀ vm₁, s.WarmedH vm₁ → Pre ⟨T.setVm vm₁, locs, cells, slots⟩ (Value.ref b :: argsL).toArray) :
    (∃ (v : Option Value) (vm₁ : Vm) (B : Pt), s.WarmedH vm₁ ∧ Stand p l e R s m args below meth c B.U B.locs B.cells B.slots ∧ Post ⟨T.setVm vm₁, locs, cells, slots⟩ (Value.ref b :: argsL).toArray v B ∧
      ∀ target, Steps p.tables e below (B.U.setTop { g with pc := g.pc + 3, stack := v.toList ++ rest }) target → Steps p.tables e below (T.setTop g) target) ∨
    (∃ (q : Addr) (vm₁ : Vm) (B : Pt), s.WarmedH vm₁ ∧ Stand p l e R s m args below meth c B.U B.locs B.cells B.slots ∧ PostX ⟨T.setVm vm₁, locs, cells, slots⟩ (Value.ref b :: argsL).toArray q B ∧
      Steps p.tables e below (T.setTop g) ((B.U.setTop { g with stack := rest }).pushFrame (.throwing q))) := by
  obtain ⟨mk, methM, hnamed, hmethM, hstM, habM⟩ := Cond.instanceMethod_spec hinst
  obtain ⟨methM', cM, hmethM', -, -, -, -, -, -, hsigM⟩ := Cond.code_spec hnamed hcode
  cases hmethM.symm.trans hmethM'
  obtain ⟨c2, r2, m2, q1, q2, q3, q4, kP, hkP, hkPi⟩ := Cond.selects_spec hsel
  cases hcls.symm.trans q1
  cases (State.methodFound?_of_named hnamed hy).symm.trans q2
  cases hnamed.symm.trans q3
  have hselP : selectMethod e.platform s.vm cellB.cls mk = .method mk := by rw [Launch.admits_selectMethod X.admits]; exact q4
  obtain ⟨vm₁, X₁, hstep₁⟩ := X.invokevirtual hexec hown hlink hnamed hmethM hstM hkP hkPi hy (a := b) (cell := cellB) hcell
    (fun z h => by rw [h] at hobj; cases hobj) hselP hmethM habM hkP hkPi (g := g) hg (argsL := argsL) (rest := rest) (hlen _ hsigM) hstack hdg
  rcases hK m meth c ⟨T.setVm vm₁, locs, cells, slots⟩ { g with stack := rest } (.invokevirtual index) mk (Value.ref b :: argsL).toArray X₁ hg hsize hdg hW (X₁.named hnamed) (hpre vm₁ X₁.warmed) with ⟨v, B, X', hpost, hsteps⟩ | ⟨q, B, X', hpost, hsteps⟩
  · exact Or.inl ⟨v, vm₁, B, X₁.warmed, X', hpost, fun target h => hstep₁ _ fun acts => by rw [doInvoke_state]; exact hsteps.trans h⟩
  · exact Or.inr ⟨q, vm₁, B, X₁.warmed, X', hpost, hstep₁ _ fun acts => by rw [doInvoke_state]; exact hsteps⟩
theorem vx_callS (X : Stand p l e R s m args below meth c T locs cells slots) (hexec : p.tables.exec = Jvm.exec) {own : String} {index : Nat} {y : MethodName} {bytes : ByteArray} {maxL : Nat} {ret : Option FieldType}
    (hown : s.vm.findClass own = some m.cls) (hlink : (Cond.methodLink own index y).before args s = true) (hstat : (Cond.static y).before args s = true) (hinit : (Cond.initialized y.cls).before args s = true)
    (hcode : (Cond.code y bytes maxL ret).before args s = true) (hy : y.cls ≠ "java/lang/invoke/MethodHandle" ∧ y.cls ≠ "java/lang/invoke/VarHandle")
    {W9 : Nat} {Pre : Pt → Array Value → Prop} {Post : Pt → Array Value → Option Value → Pt → Prop} {PostX : Pt → Array Value → Addr → Pt → Prop} (hK : vx_Back l R p e below s args y 3 W9 Pre Post PostX)
    {g : JFrame} (hg : g.method = m) (hsize : g.locals.size = c.maxLocals) {argsL rest : List Value} (hlen : ∀ sig, parseMethodDescriptor y.desc = some sig → argsL.length = sig.parameters.length)
    (hstack : g.stack = argsL.reverse ++ rest) (hW : 2 * g.monitorRoom + (rest.map fun v => v.category).sum ≤ W9) (hdg : decode c.code g.pc = .ok (.invokestatic index, 3))
    (hpre : ∀ vm₁, s.WarmedH vm₁ → Pre ⟨T.setVm vm₁, locs, cells, slots⟩ argsL.toArray) :
    (∃ (v : Option Value) (vm₁ : Vm) (B : Pt), s.WarmedH vm₁ ∧ Stand p l e R s m args below meth c B.U B.locs B.cells B.slots ∧ Post ⟨T.setVm vm₁, locs, cells, slots⟩ argsL.toArray v B ∧
      ∀ target, Steps p.tables e below (B.U.setTop { g with pc := g.pc + 3, stack := v.toList ++ rest }) target → Steps p.tables e below (T.setTop g) target) ∨
    (∃ (q : Addr) (vm₁ : Vm) (B : Pt), s.WarmedH vm₁ ∧ Stand p l e R s m args below meth c B.U B.locs B.cells B.slots ∧ PostX ⟨T.setVm vm₁, locs, cells, slots⟩ argsL.toArray q B ∧
      Steps p.tables e below (T.setTop g) ((B.U.setTop { g with stack := rest }).pushFrame (.throwing q))) := by
  obtain ⟨mk, hnamed⟩ := Cond.code_named hcode
  obtain ⟨methM, cM, hmethM, -, -, -, -, -, -, hsigM⟩ := Cond.code_spec hnamed hcode
  have hstatic : methM.isStatic = true := Cond.static_spec hnamed hmethM hstat
  obtain ⟨kP, hkP, -⟩ := className_of_methodNamed hnamed
  have hinitP : kP.init = .initialized := Cond.initialized_spec (findClass_of_methodNamed hnamed) hkP hinit
  obtain ⟨vm₁, X₁, hstep₁⟩ := X.invokestatic hexec hown hlink hnamed hmethM hstatic hkP hinitP hy (g := g) hg (argsL := argsL) (rest := rest) (hlen _ hsigM) hstack hdg
  rcases hK m meth c ⟨T.setVm vm₁, locs, cells, slots⟩ { g with stack := rest } (.invokestatic index) mk argsL.toArray X₁ hg hsize hdg hW (X₁.named hnamed) (hpre vm₁ X₁.warmed) with ⟨v, B, X', hpost, hsteps⟩ | ⟨q, B, X', hpost, hsteps⟩
  · exact Or.inl ⟨v, vm₁, B, X₁.warmed, X', hpost, fun target h => hstep₁ _ fun acts => by rw [doInvoke_state]; exact hsteps.trans h⟩
  · exact Or.inr ⟨q, vm₁, B, X₁.warmed, X', hpost, hstep₁ _ fun acts => by rw [doInvoke_state]; exact hsteps⟩
end Calls
theorem vx_cls {s : State} {T : State} {vm₁ : Vm} {E : String} {k : ClassId} (hW : s.WarmedH vm₁) (h : (T.setVm vm₁).vm.findClass E = some k) : s.vm.findClass E = some k := by
  have h1 : vm₁.findClass E = some k := h
  rw [hW.alike.findClass] at h1
  exact h1
/-- the method's frame g, with q thrown over it -/
def vx_W (p : Program) (l : Launch) (e : Env) (R : Room) (s : State) (m : MethodId) (args : Array Value) (below : List Frame) (meth : Method) (c : Code) (H : Heap) (locs : List Loc) (cells slots : Nat) (Q : State → Prop) (g : JFrame) (q : Addr) : Prop :=
  ∀ T : State, T.heap = H → Stand p l e R s m args below meth c T locs cells slots → ∃ t, Steps p.tables e below ((T.setTop g).pushFrame (.throwing q)) t ∧ Q t
def vx_Run (p : Program) (l : Launch) (e : Env) (R : Room) (s : State) (m : MethodId) (args : Array Value) (below : List Frame) (meth : Method) (c : Code) (H : Heap) (locs : List Loc) (cells slots mc ms : Nat) (g : JFrame) (rest : List Value) (Qa : State → Outcome → State → Prop) (XC : String → State → State → Prop) (free : Addr → Prop) : Prop :=
  ∀ T : State, T.heap = H → Stand p l e R s m args below meth c T locs cells slots →
    (∃ (v : Option Value) (st₀ t T' : State) (L : List Loc), st₀.heap = H ∧ Stand p l e R s m args below meth c T' (locs ++ L) (cells + mc) (slots + ms) ∧ (∀ q ∈ L, free q.base) ∧ T'.heap = t.heap ∧ T'.vm = t.vm ∧ Qa st₀ (.returned v) t ∧
      Goes p e below T g T' { g with pc := g.pc + 3, stack := v.toList ++ rest }) ∨
    (∃ (q : Addr) (st₀ t T' : State) (L : List Loc) (E : String) (ce : Cell), st₀.heap = H ∧ Stand p l e R s m args below meth c T' (locs ++ L) (cells + mc) (slots + ms) ∧ (∀ z ∈ L, free z.base) ∧ T'.heap = t.heap ∧ T'.vm = t.vm ∧ XC E st₀ t ∧ t.heap[q]? = some ce ∧ ce.vm = .none ∧ s.vm.findClass E = some ce.cls ∧
      Steps p.tables e below (T.setTop g) ((T'.setTop { g with stack := rest }).pushFrame (.throwing q)))
def vx_X {S : Type} (px : S → Prop) (B : String → S → State → Prop) (A : Nat → Prop) : String → State → State → Prop := fun E st t => ∃ u : S, px u ∧ B E u t ∧ va_F A st t
section Runs
variable {p : Program} {l : Launch} {e : Env} {R : Room} {s : State} {m : MethodId} {args : Array Value} {below : List Frame} {meth : Method} {c : Code} {H : Heap} {locs : List Loc} {cells slots : Nat}
variable {y : MethodName} {bytes cc : ByteArray} {maxL nL mc ms n index : Nat} {ret : Option FieldType} {ws : List Cond} {rm : Room} {Pc : Array Value → State → Prop} {Qc : Array Value → State → Outcome → State → Prop} {XC : String → State → State → Prop} {free : Addr → Prop} {Ts : List Cond} {own C : String} {b : Addr} {As rest : List Value} {g : JFrame}
theorem vx_callBack (cb : CallB R s args own index y bytes maxL ret ws rm mc ms n) (hM : vx_Met l y ws rm Pc Qc XC mc ms free) (hbl : FrameBlind Pc) : vx_Back l R p e below s args y 3 8 (PreOf R mc ms Pc) (PostOf Qc mc ms free) (vx_Post XC mc ms free) := by
  obtain ⟨hrc, hrs, hfr, hlo, hws, hcw, -, hini, -⟩ := cb
  exact vx_back (bytes := bytes) (maxL := maxL) (ret := ret) hM hbl hrc hrs hfr hlo hws hcw (fun a' U hW => word_at hW (Or.inl (by first | rfl | simp [Cond.onTables, Cond.keeps, Cond.steady])) hini)
theorem vx_runV (S : CallFix p m c cc nL s args Ts own) (hM : vx_Met l y ws rm Pc Qc XC mc ms free) (cw : CallW R s args own C index y bytes maxL ret ws rm mc ms n) (hp : PreV s H C b Pc As)
    (hg : g.method = m) (hn : As.length = n) (hsize : g.locals.size = nL) (hstack : g.stack = As.reverse ++ .ref b :: rest) (hW : 2 * g.monitorRoom + (rest.map fun v => v.category).sum ≤ 8) (hdg : decode cc g.pc = .ok (.invokevirtual index, 3)) (hf : cells + mc ≤ R.cells ∧ slots + ms ≤ R.slots) :
    vx_Run p l e R s m args below meth c H locs cells slots mc ms g rest (Qc (Value.ref b :: As).toArray) XC free := by
  have hK : vx_Back l R p e below s args y 3 8 (PreOf R mc ms Pc) (PostOf Qc mc ms free) (vx_Post XC mc ms free) := vx_callBack cw.1 hM hp.1
  obtain ⟨⟨-, -, -, -, -, -, hcode, -, hy, hlen, hl⟩, hin, hse⟩ := cw
  obtain ⟨hx, hb, hml, ho, -⟩ := S
  obtain ⟨-, ⟨cellB, hcB, hoB, hclB⟩, hPc⟩ := hp
  intro T hT X
  rcases vx_callV X hx (C := C) (bytes := bytes) (maxL := maxL) (ret := ret) ho hl hin hse hcode hy hK (by rw [hT]; exact hcB) hoB hclB hg (hsize.trans hml.symm) (argsL := As) (rest := rest) (fun sig h => hn.trans (hlen sig h)) hstack hW (by rw [hb]; exact hdg)
    (fun vm₁ hW₁ => ⟨hf.1, hf.2, hPc (T.setVm vm₁) hT hW₁⟩) with ⟨v, vm₁, ⟨U', l2, c2, s2⟩, hW₁, X', ⟨g', mk, t, L, e1, e2, hq, h1, hL, h2, h3⟩, st⟩ | ⟨q, vm₁, ⟨U', l2, c2, s2⟩, hW₁, X', ⟨g', mk, t, L, E, ce, e1, e2, hq, hce, hcv, hcl, h1, hL, h2, h3⟩, st⟩
  · dsimp only [Pt.U, Pt.locs, Pt.cells, Pt.slots] at X' e1 e2 h1 h2 h3 st
    subst h1; subst h2; subst h3
    exact Or.inl ⟨v, (T.setVm vm₁).calling g' mk (Value.ref b :: As).toArray, t, U', L, hT, X', hL, e1, e2, hq, st⟩
  · dsimp only [Pt.U, Pt.locs, Pt.cells, Pt.slots] at X' e1 e2 h1 h2 h3 st hcl
    subst h1; subst h2; subst h3
    exact Or.inr ⟨q, (T.setVm vm₁).calling g' mk (Value.ref b :: As).toArray, t, U', L, E, ce, hT, X', hL, e1, e2, hq, hce, hcv, vx_cls hW₁ hcl, st⟩
theorem vx_runS (S : CallFix p m c cc nL s args Ts own) (hM : vx_Met l y ws rm Pc Qc XC mc ms free) (cw : CallB R s args own index y bytes maxL ret ws rm mc ms n ∧ (Cond.static y).before args s = true) (hp : PreS s H Pc As)
    (hg : g.method = m) (hn : As.length = n) (hsize : g.locals.size = nL) (hstack : g.stack = As.reverse ++ rest) (hW : 2 * g.monitorRoom + (rest.map fun v => v.category).sum ≤ 8) (hdg : decode cc g.pc = .ok (.invokestatic index, 3)) (hf : cells + mc ≤ R.cells ∧ slots + ms ≤ R.slots) :
    vx_Run p l e R s m args below meth c H locs cells slots mc ms g rest (Qc As.toArray) XC free := by
  have hK : vx_Back l R p e below s args y 3 8 (PreOf R mc ms Pc) (PostOf Qc mc ms free) (vx_Post XC mc ms free) := vx_callBack cw.1 hM hp.1
  obtain ⟨⟨-, -, -, -, -, -, hcode, hini, hy, hlen, hl⟩, hstt⟩ := cw
  obtain ⟨hx, hb, hml, ho, -⟩ := S
  intro T hT X
  rcases vx_callS X hx (bytes := bytes) (maxL := maxL) (ret := ret) ho hl hstt hini hcode hy hK hg (hsize.trans hml.symm) (argsL := As) (rest := rest) (fun sig h => hn.trans (hlen sig h)) hstack hW (by rw [hb]; exact hdg)
    (fun vm₁ hW₁ => ⟨hf.1, hf.2, hp.2 (T.setVm vm₁) hT hW₁⟩) with ⟨v, vm₁, ⟨U', l2, c2, s2⟩, hW₁, X', ⟨g', mk, t, L, e1, e2, hq, h1, hL, h2, h3⟩, st⟩ | ⟨q, vm₁, ⟨U', l2, c2, s2⟩, hW₁, X', ⟨g', mk, t, L, E, ce, e1, e2, hq, hce, hcv, hcl, h1, hL, h2, h3⟩, st⟩
  · dsimp only [Pt.U, Pt.locs, Pt.cells, Pt.slots] at X' e1 e2 h1 h2 h3 st
    subst h1; subst h2; subst h3
    exact Or.inl ⟨v, (T.setVm vm₁).calling g' mk As.toArray, t, U', L, hT, X', hL, e1, e2, hq, st⟩
  · dsimp only [Pt.U, Pt.locs, Pt.cells, Pt.slots] at X' e1 e2 h1 h2 h3 st hcl
    subst h1; subst h2; subst h3
    exact Or.inr ⟨q, (T.setVm vm₁).calling g' mk As.toArray, t, U', L, E, ce, hT, X', hL, e1, e2, hq, hce, hcv, vx_cls hW₁ hcl, st⟩
end Runs
section Rows
variable {p : Program} {l : Launch} {e : Env} {R : Room} {s : State} {m : MethodId} {args : Array Value} {below : List Frame} {meth : Method} {c : Code} {H : Heap} {locs : List Loc} {cells slots : Nat} {Q : State → Prop}
variable {mc ms : Nat} {free : Addr → Prop} {A0 A1 : Nat → Prop} {H0 : Heap} {a : Array Value} {pc : Nat} {ls : Array Slot} {st0 rest : List Value}
theorem vx_keep {st₀ t T' : State} {L : List Loc} (h0 : st₀.heap = H) (e1 : T'.heap = t.heap) (hS : va_S A0 H0 H locs) (hA : ∀ q, q < H.size → A1 q → A0 q) (hf : ∀ q, free q → A0 q) (hL : ∀ q ∈ L, free q.base) (hF : va_F A1 st₀ t) :
    H.size ≤ T'.heap.size ∧ (∀ q : Nat, q < H.size → ¬ A1 q → T'.heap[q]? = H[q]?) ∧ va_S A0 H0 T'.heap (locs ++ L) := by
  obtain ⟨hz, hk⟩ := hF
  rw [h0] at hz hk
  exact ⟨by rw [e1]; exact hz, fun q h1 h2 => by rw [e1]; exact hk q h1 h2,
    ⟨Nat.le_trans hS.1 (by rw [e1]; exact hz), fun q h1 h2 => by rw [e1, hk q (Nat.lt_of_lt_of_le h1 hS.1) (fun z => h2 (hA q (Nat.lt_of_lt_of_le h1 hS.1) z))]; exact hS.2.1 q h1 h2, fun q hq => by
      rcases List.mem_append.mp hq with h | h
      · exact hS.2.2 q h
      · exact hf _ (hL q h)⟩⟩
theorem vx_calli {S SX : Type} {post : Int32 → S → Prop} {px : SX → Prop} {B : S → State → Prop} {BX : String → SX → State → Prop} {AX : Nat → Prop} (hr : vx_Run p l e R s m args below meth c H locs cells slots mc ms (F0 m pc ls st0) rest (va_Qi post B A1 a) (vx_X px BX AX) free) (hS : va_S A0 H0 H locs) (hA : ∀ q, q < H.size → A1 q → A0 q) (hf : ∀ q, free q → A0 q) (hAX : ∀ q, q < H.size → AX q → A0 q)
    (kx : ∀ (E : String) (ce : Cell) (q9 : Addr) (u : SX) (t : State) (H1 : Heap) (locs1 : List Loc), t.heap = H1 → s.vm.Alike t.vm → px u → BX E u t → H.size ≤ H1.size → (∀ q : Nat, q < H.size → ¬ AX q → H1[q]? = H[q]?) → va_S A0 H0 H1 locs1 → H1[q9]? = some ce → ce.vm = .none → s.vm.findClass E = some ce.cls → vx_W p l e R s m args below meth c H1 locs1 (cells + mc) (slots + ms) Q (F0 m pc ls rest) q9)
    (kk : ∀ (r : Int32) (u : S) (t : State) (H1 : Heap) (locs1 : List Loc), t.heap = H1 → s.vm.Alike t.vm → post r u → B u t → H.size ≤ H1.size → (∀ q : Nat, q < H.size → ¬ A1 q → H1[q]? = H[q]?) → va_S A0 H0 H1 locs1 → W p l e R s m args below meth c H1 locs1 (cells + mc) (slots + ms) Q (F0 m (pc + 3) ls (.int r :: rest))) : W p l e R s m args below meth c H locs cells slots Q (F0 m pc ls st0) := by
  intro T hT X
  rcases hr T hT X with ⟨v, st₀, t, T', L, h0, X', hL, e1, e2, ⟨⟨r, u, hv, hp, hb⟩, hF⟩, st⟩ | ⟨q, st₀, t, T', L, E, ce, h0, X', hL, e1, e2, ⟨u, hp, hb, hF⟩, hce, hcv, hcl, st⟩
  · cases hv
    obtain ⟨k1, k2, k3⟩ := vx_keep h0 e1 hS hA hf hL hF
    obtain ⟨t2, a1, b1⟩ := kk r u t T'.heap (locs ++ L) e1.symm (by rw [← e2]; exact X'.warmed.alike) hp hb k1 k2 k3 T' rfl X'
    exact ⟨t2, st t2 a1, b1⟩
  · obtain ⟨k1, k2, k3⟩ := vx_keep h0 e1 hS hAX hf hL hF
    obtain ⟨t2, a1, b1⟩ := kx E ce q u t T'.heap (locs ++ L) e1.symm (by rw [← e2]; exact X'.warmed.alike) hp hb k1 k2 k3 (by rw [e1]; exact hce) hcv hcl T' rfl X'
    exact ⟨t2, st.trans a1, b1⟩
theorem vx_calll {S SX : Type} {post : Int64 → S → Prop} {px : SX → Prop} {B : S → State → Prop} {BX : String → SX → State → Prop} {AX : Nat → Prop} (hr : vx_Run p l e R s m args below meth c H locs cells slots mc ms (F0 m pc ls st0) rest (va_Ql post B A1 a) (vx_X px BX AX) free) (hS : va_S A0 H0 H locs) (hA : ∀ q, q < H.size → A1 q → A0 q) (hf : ∀ q, free q → A0 q) (hAX : ∀ q, q < H.size → AX q → A0 q)
    (kx : ∀ (E : String) (ce : Cell) (q9 : Addr) (u : SX) (t : State) (H1 : Heap) (locs1 : List Loc), t.heap = H1 → s.vm.Alike t.vm → px u → BX E u t → H.size ≤ H1.size → (∀ q : Nat, q < H.size → ¬ AX q → H1[q]? = H[q]?) → va_S A0 H0 H1 locs1 → H1[q9]? = some ce → ce.vm = .none → s.vm.findClass E = some ce.cls → vx_W p l e R s m args below meth c H1 locs1 (cells + mc) (slots + ms) Q (F0 m pc ls rest) q9)
    (kk : ∀ (r : Int64) (u : S) (t : State) (H1 : Heap) (locs1 : List Loc), t.heap = H1 → s.vm.Alike t.vm → post r u → B u t → H.size ≤ H1.size → (∀ q : Nat, q < H.size → ¬ A1 q → H1[q]? = H[q]?) → va_S A0 H0 H1 locs1 → W p l e R s m args below meth c H1 locs1 (cells + mc) (slots + ms) Q (F0 m (pc + 3) ls (.long r :: rest))) : W p l e R s m args below meth c H locs cells slots Q (F0 m pc ls st0) := by
  intro T hT X
  rcases hr T hT X with ⟨v, st₀, t, T', L, h0, X', hL, e1, e2, ⟨⟨r, u, hv, hp, hb⟩, hF⟩, st⟩ | ⟨q, st₀, t, T', L, E, ce, h0, X', hL, e1, e2, ⟨u, hp, hb, hF⟩, hce, hcv, hcl, st⟩
  · cases hv
    obtain ⟨k1, k2, k3⟩ := vx_keep h0 e1 hS hA hf hL hF
    obtain ⟨t2, a1, b1⟩ := kk r u t T'.heap (locs ++ L) e1.symm (by rw [← e2]; exact X'.warmed.alike) hp hb k1 k2 k3 T' rfl X'
    exact ⟨t2, st t2 a1, b1⟩
  · obtain ⟨k1, k2, k3⟩ := vx_keep h0 e1 hS hAX hf hL hF
    obtain ⟨t2, a1, b1⟩ := kx E ce q u t T'.heap (locs ++ L) e1.symm (by rw [← e2]; exact X'.warmed.alike) hp hb k1 k2 k3 (by rw [e1]; exact hce) hcv hcl T' rfl X'
    exact ⟨t2, st.trans a1, b1⟩
theorem vx_callf {S SX : Type} {post : UInt32 → S → Prop} {px : SX → Prop} {B : S → State → Prop} {BX : String → SX → State → Prop} {AX : Nat → Prop} (hr : vx_Run p l e R s m args below meth c H locs cells slots mc ms (F0 m pc ls st0) rest (va_Qf post B A1 a) (vx_X px BX AX) free) (hS : va_S A0 H0 H locs) (hA : ∀ q, q < H.size → A1 q → A0 q) (hf : ∀ q, free q → A0 q) (hAX : ∀ q, q < H.size → AX q → A0 q)
    (kx : ∀ (E : String) (ce : Cell) (q9 : Addr) (u : SX) (t : State) (H1 : Heap) (locs1 : List Loc), t.heap = H1 → s.vm.Alike t.vm → px u → BX E u t → H.size ≤ H1.size → (∀ q : Nat, q < H.size → ¬ AX q → H1[q]? = H[q]?) → va_S A0 H0 H1 locs1 → H1[q9]? = some ce → ce.vm = .none → s.vm.findClass E = some ce.cls → vx_W p l e R s m args below meth c H1 locs1 (cells + mc) (slots + ms) Q (F0 m pc ls rest) q9)
    (kk : ∀ (r : UInt32) (u : S) (t : State) (H1 : Heap) (locs1 : List Loc), t.heap = H1 → s.vm.Alike t.vm → post r u → B u t → H.size ≤ H1.size → (∀ q : Nat, q < H.size → ¬ A1 q → H1[q]? = H[q]?) → va_S A0 H0 H1 locs1 → W p l e R s m args below meth c H1 locs1 (cells + mc) (slots + ms) Q (F0 m (pc + 3) ls (.float r :: rest))) : W p l e R s m args below meth c H locs cells slots Q (F0 m pc ls st0) := by
  intro T hT X
  rcases hr T hT X with ⟨v, st₀, t, T', L, h0, X', hL, e1, e2, ⟨⟨r, u, hv, hp, hb⟩, hF⟩, st⟩ | ⟨q, st₀, t, T', L, E, ce, h0, X', hL, e1, e2, ⟨u, hp, hb, hF⟩, hce, hcv, hcl, st⟩
  · cases hv
    obtain ⟨k1, k2, k3⟩ := vx_keep h0 e1 hS hA hf hL hF
    obtain ⟨t2, a1, b1⟩ := kk r u t T'.heap (locs ++ L) e1.symm (by rw [← e2]; exact X'.warmed.alike) hp hb k1 k2 k3 T' rfl X'
    exact ⟨t2, st t2 a1, b1⟩
  · obtain ⟨k1, k2, k3⟩ := vx_keep h0 e1 hS hAX hf hL hF
    obtain ⟨t2, a1, b1⟩ := kx E ce q u t T'.heap (locs ++ L) e1.symm (by rw [← e2]; exact X'.warmed.alike) hp hb k1 k2 k3 (by rw [e1]; exact hce) hcv hcl T' rfl X'
    exact ⟨t2, st.trans a1, b1⟩
theorem vx_calld {S SX : Type} {post : UInt64 → S → Prop} {px : SX → Prop} {B : S → State → Prop} {BX : String → SX → State → Prop} {AX : Nat → Prop} (hr : vx_Run p l e R s m args below meth c H locs cells slots mc ms (F0 m pc ls st0) rest (va_Qd post B A1 a) (vx_X px BX AX) free) (hS : va_S A0 H0 H locs) (hA : ∀ q, q < H.size → A1 q → A0 q) (hf : ∀ q, free q → A0 q) (hAX : ∀ q, q < H.size → AX q → A0 q)
    (kx : ∀ (E : String) (ce : Cell) (q9 : Addr) (u : SX) (t : State) (H1 : Heap) (locs1 : List Loc), t.heap = H1 → s.vm.Alike t.vm → px u → BX E u t → H.size ≤ H1.size → (∀ q : Nat, q < H.size → ¬ AX q → H1[q]? = H[q]?) → va_S A0 H0 H1 locs1 → H1[q9]? = some ce → ce.vm = .none → s.vm.findClass E = some ce.cls → vx_W p l e R s m args below meth c H1 locs1 (cells + mc) (slots + ms) Q (F0 m pc ls rest) q9)
    (kk : ∀ (r : UInt64) (u : S) (t : State) (H1 : Heap) (locs1 : List Loc), t.heap = H1 → s.vm.Alike t.vm → post r u → B u t → H.size ≤ H1.size → (∀ q : Nat, q < H.size → ¬ A1 q → H1[q]? = H[q]?) → va_S A0 H0 H1 locs1 → W p l e R s m args below meth c H1 locs1 (cells + mc) (slots + ms) Q (F0 m (pc + 3) ls (.double r :: rest))) : W p l e R s m args below meth c H locs cells slots Q (F0 m pc ls st0) := by
  intro T hT X
  rcases hr T hT X with ⟨v, st₀, t, T', L, h0, X', hL, e1, e2, ⟨⟨r, u, hv, hp, hb⟩, hF⟩, st⟩ | ⟨q, st₀, t, T', L, E, ce, h0, X', hL, e1, e2, ⟨u, hp, hb, hF⟩, hce, hcv, hcl, st⟩
  · cases hv
    obtain ⟨k1, k2, k3⟩ := vx_keep h0 e1 hS hA hf hL hF
    obtain ⟨t2, a1, b1⟩ := kk r u t T'.heap (locs ++ L) e1.symm (by rw [← e2]; exact X'.warmed.alike) hp hb k1 k2 k3 T' rfl X'
    exact ⟨t2, st t2 a1, b1⟩
  · obtain ⟨k1, k2, k3⟩ := vx_keep h0 e1 hS hAX hf hL hF
    obtain ⟨t2, a1, b1⟩ := kx E ce q u t T'.heap (locs ++ L) e1.symm (by rw [← e2]; exact X'.warmed.alike) hp hb k1 k2 k3 (by rw [e1]; exact hce) hcv hcl T' rfl X'
    exact ⟨t2, st.trans a1, b1⟩
theorem vx_callv {S SX : Type} {post : S → Prop} {px : SX → Prop} {B : S → State → Prop} {BX : String → SX → State → Prop} {AX : Nat → Prop} (hr : vx_Run p l e R s m args below meth c H locs cells slots mc ms (F0 m pc ls st0) rest (va_Qv post B A1 a) (vx_X px BX AX) free) (hS : va_S A0 H0 H locs) (hA : ∀ q, q < H.size → A1 q → A0 q) (hf : ∀ q, free q → A0 q) (hAX : ∀ q, q < H.size → AX q → A0 q)
    (kx : ∀ (E : String) (ce : Cell) (q9 : Addr) (u : SX) (t : State) (H1 : Heap) (locs1 : List Loc), t.heap = H1 → s.vm.Alike t.vm → px u → BX E u t → H.size ≤ H1.size → (∀ q : Nat, q < H.size → ¬ AX q → H1[q]? = H[q]?) → va_S A0 H0 H1 locs1 → H1[q9]? = some ce → ce.vm = .none → s.vm.findClass E = some ce.cls → vx_W p l e R s m args below meth c H1 locs1 (cells + mc) (slots + ms) Q (F0 m pc ls rest) q9)
    (kk : ∀ (u : S) (t : State) (H1 : Heap) (locs1 : List Loc), t.heap = H1 → s.vm.Alike t.vm → post u → B u t → H.size ≤ H1.size → (∀ q : Nat, q < H.size → ¬ A1 q → H1[q]? = H[q]?) → va_S A0 H0 H1 locs1 → W p l e R s m args below meth c H1 locs1 (cells + mc) (slots + ms) Q (F0 m (pc + 3) ls (rest))) : W p l e R s m args below meth c H locs cells slots Q (F0 m pc ls st0) := by
  intro T hT X
  rcases hr T hT X with ⟨v, st₀, t, T', L, h0, X', hL, e1, e2, ⟨⟨u, hv, hp, hb⟩, hF⟩, st⟩ | ⟨q, st₀, t, T', L, E, ce, h0, X', hL, e1, e2, ⟨u, hp, hb, hF⟩, hce, hcv, hcl, st⟩
  · cases hv
    obtain ⟨k1, k2, k3⟩ := vx_keep h0 e1 hS hA hf hL hF
    obtain ⟨t2, a1, b1⟩ := kk u t T'.heap (locs ++ L) e1.symm (by rw [← e2]; exact X'.warmed.alike) hp hb k1 k2 k3 T' rfl X'
    exact ⟨t2, st t2 a1, b1⟩
  · obtain ⟨k1, k2, k3⟩ := vx_keep h0 e1 hS hAX hf hL hF
    obtain ⟨t2, a1, b1⟩ := kx E ce q u t T'.heap (locs ++ L) e1.symm (by rw [← e2]; exact X'.warmed.alike) hp hb k1 k2 k3 (by rw [e1]; exact hce) hcv hcl T' rfl X'
    exact ⟨t2, st.trans a1, b1⟩
/-- caught by the row x of this method's table; the rows ahead don't take it -/
theorem vx_catch {own name : String} {E : String} {ce : Cell} {q : Addr} (hown : s.vm.findClass own = some m.cls) (pre : List ExceptionTableEntry) (x : ExceptionTableEntry) (suf : List ExceptionTableEntry) (hsplit : c.exceptionTable.toList = pre ++ x :: suf)
    (hpass : ∀ z ∈ pre, covers z pc = false ∨ (z.catchType ≠ 0 ∧ ∃ nm : String, (Cond.classLink own z.catchType nm).before args s = true ∧ va_Nc E nm s)) (hx : covers x pc = true) (h0 : x.catchType ≠ 0)
    (hlink : (Cond.classLink own x.catchType name).before args s = true) (hcast : (Cond.castable E name).before args s = true) (hcell : H[q]? = some ce) (hv : ce.vm = .none) (hcl : s.vm.findClass E = some ce.cls)
    (kk : W p l e R s m args below meth c H locs cells slots Q (F0 m x.handlerPc ls [.ref q])) : vx_W p l e R s m args below meth c H locs cells slots Q (F0 m pc ls rest) q := by
  intro T hT X
  have hpl : e.platform.magicAccessors = ({} : Platform).magicAccessors := by rw [X.admits.platform]
  obtain ⟨c3, c4, hc3, hc4, hasg⟩ := Cond.castable_spec hcast
  cases Option.some.inj (hc3.symm.trans hcl)
  obtain ⟨c5, hc5, hcl5⟩ := Cond.classLink_spec hown hlink e.platform hpl
  cases Option.some.inj (hc4.symm.trans hc5)
  obtain ⟨vm', X', st⟩ := X.thenCaughtThrough q (g := F0 m pc ls rest) rfl (Steps.refl _) (by rw [hT]; exact hcell) (by rw [hv]; rfl) (by obtain ⟨k9, h9, -⟩ := Vm.findClass_spec hcl; exact ⟨k9, h9⟩) pre x suf hsplit
    (fun z hz => by
      rcases hpass z hz with h | ⟨hz0, nm, hl1, hn1⟩
      · exact Or.inl h
      · obtain ⟨c6, hc6, hcl6⟩ := Cond.classLink_spec hown hl1 e.platform hpl
        obtain ⟨a8, b8, h1, h2, h3⟩ := hn1
        cases Option.some.inj (h1.symm.trans hcl)
        cases Option.some.inj (h2.symm.trans hc6)
        exact Or.inr ⟨hz0, _, hcl6, h3⟩) hx (Or.inr ⟨h0, c4, hcl5, hasg⟩)
  obtain ⟨t, a1, b1⟩ := kk (T.setVm vm') hT X'
  exact ⟨t, st.trans a1, b1⟩
end Rows
section Ends
variable {p : Program} {l : Launch} {e : Env} {R : Room} {s : State} {m : MethodId} {args : Array Value} {below : List Frame} {meth : Method} {c : Code} {H : Heap} {locs : List Loc} {cells slots : Nat} {Q : State → Prop}
variable {mc ms : Nat} {free : Addr → Prop} {A0 A1 : Nat → Prop} {H0 : Heap} {a : Array Value} {ls : Array Slot} {st0 rest : List Value}
variable {Qc : Array Value → State → Outcome → State → Prop} {XC : String → State → State → Prop}
/-- what a body that may throw owes at its end -/
def vx_MQ (below : List Frame) (Qc : Array Value → State → Outcome → State → Prop) (XC : String → State → State → Prop) (a : Array Value) (s : State) (mc ms : Nat) (free : Addr → Prop) : State → Prop := fun t =>
  ∃ o, t.status = .running ∧ Ended t below o ∧ vx_Q Qc XC mc ms free a s o t
theorem vx_ret {g : JFrame} {mc ms : Nat} (k : W p l e R s m args below meth c H locs cells slots (MQ below Qc args s mc ms free) g) : W p l e R s m args below meth c H locs cells slots (vx_MQ below Qc XC args s mc ms free) g := by
  intro T hT X
  obtain ⟨t, a1, o, b1, b2, b3, b4⟩ := k T hT X
  exact ⟨t, a1, o, b1, b2, Or.inl ⟨b3, b4⟩⟩
/-- not caught here: it goes on to the caller -/
theorem vx_widen {g : JFrame} {q : Addr} {k n : Nat} (h1 : cells ≤ k) (h2 : slots ≤ n) (kk : vx_W p l e R s m args below meth c H locs k n Q g q) : vx_W p l e R s m args below meth c H locs cells slots Q g q := fun T hT X => kk T hT (stand_widen X h1 h2)
theorem vx_out {pc : Nat} {E : String} {ce : Cell} {q : Addr} {mc ms : Nat} (hout : ∀ x ∈ c.exceptionTable.toList, covers x pc = false) (hlocks : meth.locks = false) (hcell : H[q]? = some ce) (hv : ce.vm = .none) (hcl : s.vm.findClass E = some ce.cls)
    (hx : ∀ t : State, t.heap = H → s.vm.Alike t.vm → XC E s t) (hf : ∀ z ∈ locs, free z.base) (hc : cells ≤ mc) (hs : slots ≤ ms) :
    vx_W p l e R s m args below meth c H locs cells slots (vx_MQ below Qc XC args s mc ms free) (F0 m pc ls rest) q := by
  intro T hT X
  obtain ⟨st1, hrun, hend, hW, hsm⟩ := X.leaveThrown q (g := F0 m pc ls rest) rfl rfl rfl hout hlocks
  have hcell9 : (T.setFrames (.throwing q :: below)).heap[q]? = some ce := by
    show T.heap[q]? = some ce
    rw [hT]; exact hcell
  exact ⟨_, st1, .threw q, hrun, hend, Or.inr ⟨q, rfl, E, ce, locs, hx _ hT hW.alike, hcell9, hv, hcl, hW, hsm.mono hc hs, hf⟩⟩
theorem vx_frame {U : State} {k n : Nat} (h : s.sameButNew ({ U with vm := s.vm } : State) locs k n) : s.heap.size ≤ U.heap.size ∧ ∀ q : Nat, q < s.heap.size → (∀ z ∈ locs, z.base ≠ q) → U.heap[q]? = s.heap[q]? := by
  obtain ⟨-, h2, -, -, -, h6⟩ := h
  refine ⟨h2, fun q hq hz => ?_⟩
  obtain ⟨c9, e1, e2, e3, e4⟩ := h6 q _ (Array.getElem?_eq_getElem hq)
  have hs : c9.slots = (s.heap[q]).slots := Array.ext_getElem? fun i => e4 i fun hm => hz _ hm rfl
  have h9 : c9 = s.heap[q] := by
    rw [hs] at e2
    exact e2
  have e5 : U.heap[q]? = some c9 := e1
  rw [e5, h9, Array.getElem?_eq_getElem hq]
/-- the words of a throw but the four that speak of the heap -/
def vx_no (w : Cond) : Bool := decide (w ≠ .isRef (.static Bundle.tN "UNASSIGNED_STACK" Bundle.steD)) && decide (w ≠ .isRef (.static Bundle.tN "SUPPRESSED_SENTINEL" Bundle.listD)) && decide (w ≠ .laysStatic Bundle.tN "UNASSIGNED_STACK" Bundle.steD) && decide (w ≠ .laysStatic Bundle.tN "SUPPRESSED_SENTINEL" Bundle.listD)
def vx_at0 (own : String) (ic : Nat) (X : String) (names : List String) : List Cond := (Bundle.ownAtoms0 own ic X names).filter vx_no
def vx_atS (own : String) (ic : Nat) (X : String) (names : List String) : List Cond := (Bundle.ownAtoms own ic X names).filter vx_no
/-- a word that the tables alone decide, or a good one -/
def vx_ot (w : Cond) : Bool := w.onTables || goodWord w
theorem vx_ot_at {args a' : Array Value} {s U : State} {w : Cond} (hW : s.WarmedH U.vm) (hvm : s.vm = U.vm) (hg : vx_ot w = true) (h : w.before args s = true) : w.before a' U = true := by
  simp only [vx_ot, Bool.or_eq_true] at hg
  rcases hg with hg | hg
  · exact va_tabs hg hvm h
  · exact word_at hW (good_of_word hg) h
/-- a list's words: the good ones out of the method's own list, the others by premises of their own -/
theorem vx_hat {args : Array Value} {s : State} {L B : List Cond} (h1 : ∀ w ∈ L.filter goodWord, w.before args s = true) (h2 : ∀ w ∈ L.filter (fun w => !goodWord w), w ∈ B) (h3 : ∀ w ∈ B, w.before args s = true) : ∀ w ∈ L, w.before args s = true := by
  intro w hw
  by_cases g : goodWord w = true
  · exact h1 w (List.mem_filter.mpr ⟨hw, g⟩)
  · refine h3 w (h2 w (List.mem_filter.mpr ⟨hw, ?_⟩))
    show (!goodWord w) = true
    cases hgw : goodWord w
    · rfl
    · exact absurd hgw g
theorem vx_c {args : Array Value} {s : State} {w : Cond} {B : List Cond} (h : w.before args s = true) (t : ∀ w ∈ B, w.before args s = true) : ∀ w' ∈ w :: B, w'.before args s = true := fun w' h' => (List.mem_cons.mp h').elim (fun e => by rw [e]; exact h) (t w')
theorem vx_n {args : Array Value} {s : State} : ∀ w ∈ ([] : List Cond), w.before args s = true := fun _ h => nomatch h
theorem vx_own {args : Array Value} {s : State} {L : List Cond} (h1 : ∀ w ∈ L.filter vx_no, w.before args s = true)
    (hU : (Cond.isRef (.static Bundle.tN "UNASSIGNED_STACK" Bundle.steD)).before args s = true) (hN : (Cond.isRef (.static Bundle.tN "SUPPRESSED_SENTINEL" Bundle.listD)).before args s = true)
    (lU : (Cond.laysStatic Bundle.tN "UNASSIGNED_STACK" Bundle.steD).before args s = true) (lN : (Cond.laysStatic Bundle.tN "SUPPRESSED_SENTINEL" Bundle.listD).before args s = true) : ∀ w ∈ L, w.before args s = true := by
  intro w hw
  by_cases e1 : w = .isRef (.static Bundle.tN "UNASSIGNED_STACK" Bundle.steD)
  · rw [e1]; exact hU
  · by_cases e2 : w = .isRef (.static Bundle.tN "SUPPRESSED_SENTINEL" Bundle.listD)
    · rw [e2]; exact hN
    · by_cases e3 : w = .laysStatic Bundle.tN "UNASSIGNED_STACK" Bundle.steD
      · rw [e3]; exact lU
      · by_cases e4 : w = .laysStatic Bundle.tN "SUPPRESSED_SENTINEL" Bundle.listD
        · rw [e4]; exact lN
        · exact h1 w (List.mem_filter.mpr ⟨hw, by unfold vx_no; rw [decide_eq_true e1, decide_eq_true e2, decide_eq_true e3, decide_eq_true e4]; rfl⟩)
/-- where a static field lies, its class's statics cell in H -/
def vx_L (C n d : String) (A : Nat → Prop) (U : State) (H : Heap) : Prop := ∃ (c : ClassId) (k : Class) (i : Nat) (f : Field) (a : Nat) (cell : Cell), U.vm.findClass C = some c ∧ U.fieldFound? C n d = some (c, k, i, f) ∧ f.isStatic = true ∧ k.statics = some a ∧ H[a]? = some cell ∧ cell.vm.isStatics = true ∧ cell.cls = c ∧ f.slot < cell.slots.size ∧ k.staticTypes[f.slot]? = some f.type ∧ ¬ A a
theorem vx_L.moved {C n d : String} {A : Nat → Prop} {u U : State} {H : Heap} (hvm : u.vm.Alike U.vm) (h : vx_L C n d A u H) : vx_L C n d A U H := by
  obtain ⟨c, k, i, f, a, cell, h1, h2, h3, h4, h5, h6, h7, h8, h9, h10⟩ := h
  obtain ⟨k', hi', he⟩ := State.fieldFound?_setVm hvm h2
  exact ⟨c, k', i, f, a, cell, by rw [hvm.findClass]; exact h1, hi', h3, by rw [he]; exact h4, h5, h6, h7, h8, by rw [he]; exact h9, h10⟩
theorem vx_L.kept {C n d : String} {A : Nat → Prop} {U : State} {H H1 : Heap} (h : vx_L C n d A U H) (hq : ∀ a : Nat, a < H.size → ¬ A a → H1[a]? = H[a]?) : vx_L C n d A U H1 := by
  obtain ⟨c, k, i, f, a, cell, h1, h2, h3, h4, h5, h6, h7, h8, h9, h10⟩ := h
  exact ⟨c, k, i, f, a, cell, h1, h2, h3, h4, by rw [hq a (Array.getElem?_eq_some_iff.mp h5).1 h10]; exact h5, h6, h7, h8, h9, h10⟩
theorem vx_L.narrow {C n d : String} {A B : Nat → Prop} {U : State} {H : Heap} (h : vx_L C n d A U H) (hAB : ∀ q, B q → A q) : vx_L C n d B U H := by
  obtain ⟨c, k, i, f, a, cell, h1, h2, h3, h4, h5, h6, h7, h8, h9, h10⟩ := h
  exact ⟨c, k, i, f, a, cell, h1, h2, h3, h4, h5, h6, h7, h8, h9, fun z => h10 (hAB _ z)⟩
theorem vx_L.word {C n d : String} {A : Nat → Prop} {s : State} {args : Array Value} (h : vx_L C n d A s s.heap) : (Cond.laysStatic C n d).before args s = true := by
  obtain ⟨c, k, i, f, a, cell, h1, h2, h3, h4, h5, h6, h7, h8, h9, -⟩ := h
  show (Cond.laysStatic C n d).holds args s none s [] = true
  exact Cond.laysStatic_of h1 h2 h3 h4 h5 h6 h7 h8 h9
/-- .. and what it holds: null or some reference -/
def vx_Zq (C n d : String) (A : Nat → Prop) (U : State) (H : Heap) : Prop := va_Zq C n d A U H ∧ vx_L C n d A U H
theorem vx_Zq.moved {C n d : String} {A : Nat → Prop} {u U : State} {H : Heap} (hvm : u.vm.Alike U.vm) (h : vx_Zq C n d A u H) : vx_Zq C n d A U H := ⟨va_Zq.moved hvm h.1, vx_L.moved hvm h.2⟩
theorem vx_Zq.kept {C n d : String} {A : Nat → Prop} {U : State} {H H1 : Heap} (h : vx_Zq C n d A U H) (hq : ∀ a : Nat, a < H.size → ¬ A a → H1[a]? = H[a]?) : vx_Zq C n d A U H1 := ⟨va_Zq.kept h.1 hq, vx_L.kept h.2 hq⟩
theorem vx_Zq.narrow {C n d : String} {A B : Nat → Prop} {U : State} {H : Heap} (h : vx_Zq C n d A U H) (hAB : ∀ q, B q → A q) : vx_Zq C n d B U H := ⟨va_Zq.narrow h.1 hAB, vx_L.narrow h.2 hAB⟩
theorem vx_Zqof {args : Array Value} {s : State} {C n d : String} {A : Nat → Prop} (hl : (Cond.laysStatic C n d).before args s = true) (hini : (Cond.initialized C).before args s = true) (h : (Cond.isRef (.static C n d)).before args s = true) (hA : ∀ a : Nat, a < s.heap.size → ¬ A a) : vx_Zq C n d A s s.heap := by
  refine ⟨va_Zqof hl hini h hA, ?_⟩
  obtain ⟨c, k, i, f, a, cell, h1, h2, h3, h4, h5, h6, h7, h8, h9⟩ := Cond.laysStatic_spec hl
  exact ⟨c, k, i, f, a, cell, h1, h2, h3, h4, h5, h6, h7, h8, h9, hA a (Array.getElem?_eq_some_iff.mp h5).1⟩
theorem vx_isRef {C n d : String} {v : Value} {A : Nat → Prop} {s : State} {args : Array Value} (h : va_Z C n d v A s s.heap) (hv : v.isRef = true) : (Cond.isRef (.static C n d)).before args s = true := by
  obtain ⟨cf, kf, fi, f, a, cell, h1, h2, h3, h4, h5, h6, h7, -⟩ := h
  have he : (Term.static C n d).eval args s none [] s = some v := by
    simp [Term.eval, State.fieldNamed?, h1, h2, h4, h5, h6, h7]
  simp only [Cond.before, Cond.holds, Cond.value, he]
  cases v <;> simp_all [Value.isRef]
theorem vx_isRefq {C n d : String} {A : Nat → Prop} {s : State} {args : Array Value} (h : va_Zq C n d A s s.heap) : (Cond.isRef (.static C n d)).before args s = true := by
  rcases h with h | ⟨t, h⟩
  · exact vx_isRef h rfl
  · exact vx_isRef h rfl
/-- the same frame, seen from here: as if the method were called anew in this heap -/
theorem vx_rebase {T : State} (X : Stand p l e R s m args below meth c T locs cells slots) {R' : Room} (hf : R'.frames ≤ R.frames) (hl : R'.locals ≤ R.locals) (hc : cells + R'.cells ≤ R.cells) (hs : slots + R'.slots ≤ R.slots) :
    Stand p l e R' ((T.setVm s.vm).setFrames (.invoking m args :: below)) m args below meth c T [] 0 0 := by
  have htop : (T.setVm s.vm).topJava?.isSome := X.here.top
  have hF : ((T.setVm s.vm).setFrames (.invoking m args :: below)).frames = .invoking m args :: below := State.frames_setFrames _ (State.cur_lt_of_top htop)
  obtain ⟨g₀, hg0⟩ := Option.isSome_iff_exists.mp htop
  obtain ⟨r, hr⟩ := State.topJava?_eq_some.mp hg0
  have hl9 : e.platform.stackLimits (T.setVm s.vm).me = e.platform.stackLimits s.me := X.limits
  have hb9 : (T.setVm s.vm).me.stackBytes = s.me.stackBytes := X.bytes
  refine ⟨X.admits, X.cas, X.clock, hF, ?_, X.hears, X.method, X.code, X.here, X.tail, X.warmed, ?_, ?_, ?_⟩
  · have h := X.room
    have hU : ((T.setVm s.vm).setFrames (.invoking m args :: below)).localsInUse = s.localsInUse := by
      rw [State.localsInUse_invoking hF (meth := meth) (c := c) X.method X.code, State.localsInUse_invoking X.frames X.method X.code]
    simp only [State.hasRoom, Bool.and_eq_true, decide_eq_true_eq] at h ⊢
    obtain ⟨⟨⟨⟨h1, h2, h3, h4, h5, h6⟩, h7⟩, h8⟩, h9⟩ := h
    rw [X.frames, List.length_cons] at h2 h3
    have q1 := X.heapSize
    have q2 := X.used
    simp only [hF, hU, List.length_cons, State.stackLimits_setFrames, State.stackBytes_setFrames, hl9, hb9]
    refine ⟨⟨⟨⟨by omega, by omega, by omega, by omega, by omega, h6⟩, ?_⟩, ?_⟩, X.book⟩
    · show T.heap.size + R'.cells ≤ e.platform.maxCells
      omega
    · show T.slotsUsed + R'.slots ≤ e.platform.maxSlots
      omega
  · rw [State.stackLimits_setFrames]; rfl
  · rw [State.stackBytes_setFrames]; rfl
  · refine ⟨?_, Nat.le_refl _, Nat.le_refl _, ?_, ?_, fun a c9 h9 => ⟨c9, h9, rfl, rfl, fun _ _ => rfl⟩⟩
    · obtain ⟨t, ht, -⟩ := State.frames_cons hr
      show T.setVm s.vm = { ((T.setVm s.vm).setFrames (.invoking m args :: below)).setFrames (T.setVm s.vm).frames with heap := T.heap, slotsUsed := T.slotsUsed }
      rw [State.setFrames_setFrames, State.setFrames_self ht]
      rfl
    · show T.slotsUsed = T.slotsUsed + ((T.heap.toList.drop T.heap.size).map (·.slots.size)).sum
      rw [List.drop_eq_nil_of_le (Nat.le_of_eq Array.length_toList)]
      rfl
    · show ((T.heap.toList.drop T.heap.size).map (·.slots.size)).sum ≤ 0
      rw [List.drop_eq_nil_of_le (Nat.le_of_eq Array.length_toList)]
      exact Nat.le_refl _
/-- 'throw new E()': new; dup; invokespecial; athrow -/
theorem vx_throw0 {cc : ByteArray} {pc : Nat} (hexec : p.tables.exec = Jvm.exec) (hb : c.code = cc) (hl : l.stackTraces = false) {own cls : String} {names : List String} {ik ic mc ms : Nat} {A : Nat → Prop}
    (hown : s.vm.findClass own = some m.cls) (hcls : Bundle.fit cls = true) (hnames : ∀ n ∈ names, Bundle.fit n = true)
    (hk : (Cond.classLink own ik cls).before args s = true) (hini : (Cond.initialized cls).before args s = true) (hat : ∀ w ∈ vx_at0 own ic cls names, w.before args s = true)
    (hgood : ∀ w ∈ Cond.classLink own ik cls :: Cond.initialized cls :: vx_at0 own ic cls names, vx_ot w = true)
    (hU : vx_Zq Bundle.tN "UNASSIGNED_STACK" Bundle.steD A s s.heap) (hN : vx_Zq Bundle.tN "SUPPRESSED_SENTINEL" Bundle.listD A s s.heap) (hS : va_S A s.heap H locs) (hsize : ls.size = c.maxLocals)
    (d0 : decode cc pc = .ok (.new ik, 3)) (d3 : decode cc (pc + 3) = .ok (.dup, 1)) (d4 : decode cc (pc + 4) = .ok (.invokespecial ic, 3)) (d7 : decode cc (pc + 7) = .ok (.athrow, 1))
    (hout : ∀ x ∈ c.exceptionTable.toList, covers x (pc + 7) = false)
    (hRframes : names.length + 3 < R.frames) (hRlocals : (rest.map fun v => v.category).sum + (13 * (names.length + 1) + 42) ≤ R.locals) (hRcells : cells + 1 ≤ R.cells) (hRslots : slots + 6 ≤ R.slots) (hlocks : meth.locks = false)
    (hx : ∀ t : State, s.vm.Alike t.vm → H.size ≤ t.heap.size → (∀ q : Nat, q < H.size → t.heap[q]? = H[q]?) → XC cls s t)
    (hf : ∀ z ∈ locs, free z.base) (hc : cells + 1 ≤ mc) (hs : slots + 6 ≤ ms) :
    W p l e R s m args below meth c H locs cells slots (vx_MQ below Qc XC args s mc ms free) (F0 m pc ls rest) := by
  intro T hT X
  have htr : e.platform.stackTraces = false := (show e.platform.stackTraces = l.stackTraces by rw [X.admits.platform]).trans hl
  have Y := vx_rebase X (R' := { frames := R.frames, locals := R.locals, cells := 1, slots := 6 }) (Nat.le_refl _) (Nat.le_refl _) hRcells hRslots
  obtain ⟨s', hA⟩ : ∃ z, z = (T.setVm s.vm).setFrames (.invoking m args :: below) := ⟨_, rfl⟩
  rw [← hA] at Y
  have hvm : s'.vm = s.vm := by rw [hA]; rfl
  have hhp : s'.heap = H := by rw [hA]; exact hT
  have hW0 : s.WarmedH s'.vm := by rw [hvm]; exact State.WarmedH.refl s
  have hat' : ∀ w ∈ vx_at0 own ic cls names, w.before args s' = true := fun w hw => vx_ot_at hW0 hvm.symm (hgood w (List.mem_cons_of_mem _ (List.mem_cons_of_mem _ hw))) (hat w hw)
  have hk' : (Cond.classLink own ik cls).before args s' = true := vx_ot_at hW0 hvm.symm (hgood _ List.mem_cons_self) hk
  have hini' : (Cond.initialized cls).before args s' = true := vx_ot_at hW0 hvm.symm (hgood _ (List.mem_cons_of_mem _ List.mem_cons_self)) hini
  have hU' : vx_Zq Bundle.tN "UNASSIGNED_STACK" Bundle.steD A s' s'.heap := by rw [hhp]; exact vx_Zq.moved hW0.alike (hU.kept hS.2.1)
  have hN' : vx_Zq Bundle.tN "SUPPRESSED_SENTINEL" Bundle.listD A s' s'.heap := by rw [hhp]; exact vx_Zq.moved hW0.alike (hN.kept hS.2.1)
  have h : ∀ w ∈ Bundle.ownAtoms0 own ic cls names, w.before args s' = true := vx_own hat' (vx_isRefq hU'.1) (vx_isRefq hN'.1) hU'.2.word hN'.2.word
  have hown' : s'.vm.findClass own = some m.cls := by rw [hvm]; exact hown
  have hins : (Cond.instantiable cls 6).before args s' = true := h _ (by simp [Bundle.ownAtoms0])
  obtain ⟨vm₁, cX, kX, hfX, hkX, -, -, X₁, st1⟩ := Y.newCold hexec (own := own) (C := cls) (index := ik) (n := 6) hown' hk' hins hini'
    (g := F0 m pc ls rest) rfl (by rw [hb]; exact d0) (Nat.le_refl _) (Nat.le_refl _)
  generalize hT1 : (T.setVm vm₁).pushCell { cls := cX, slots := kX.instanceTypes.map defaultValue, vm := .none } = T1 at X₁ st1
  have hcat : (Value.ref T.heap.size).category = 1 := rfl
  have hcellA : T1.heap[T.heap.size]? = some (freshCell cX kX) := by rw [← hT1]; exact State.heap_pushCell_size _ _
  have d3' : decode c.code (pc + 3) = .ok (.dup, 1) := by rw [hb]; exact d3
  obtain ⟨U, hsteps, hrun, hend, hW, hsame, ce, hce, hO⟩ := X₁.ctorThrow0 hexec htr (own := own) (cls := cls) (names := names) (ic := ic) hown' hcls hnames h (fun x hx => nomatch hx) hfX hkX hcellA (by rw [hhp, hT]; exact Nat.le_refl _)
    (g := { method := m, pc := pc + 4, locals := ls, stack := .ref T.heap.size :: .ref T.heap.size :: rest, locked := none }) rfl hsize rfl rfl (rest := rest) rfl
    (by rw [hb]; exact d4) (by rw [hb]; exact d7) hout hRframes (by simp only [List.map_cons, List.sum_cons, hcat]; omega) hlocks
  obtain ⟨f1, f2⟩ := vx_frame hsame
  rw [hhp] at f1 f2
  have hWs : s.WarmedH U.vm := State.WarmedH.trans hW0 hW
  have hcl : s.vm.findClass cls = some ce.cls := by
    have h9 := hO.cls
    rw [hvm] at h9
    exact h9
  have hall : s.sameButNew ({ U with vm := s.vm } : State) locs mc ms := by
    subst hA
    obtain ⟨e1, e2⟩ := hsame
    rw [State.setFrames_setFrames] at e1
    have h2 : (T.setVm s.vm).sameButNew ({ U with vm := s.vm } : State) [] (0 + 1) (0 + 6) := ⟨e1, e2⟩
    have h3 := X.same.trans h2
    rw [List.append_nil] at h3
    exact h3.mono hc hs
  refine ⟨U, ?_, .threw T.heap.size, hrun, hend, Or.inr ⟨T.heap.size, rfl, cls, ce, locs, hx U hWs.alike f1 (fun q hq => f2 q hq (fun z hz => nomatch hz)), hce, hO.vm, hcl, hWs, hall, hf⟩⟩
  refine st1 _ ?_
  show Steps p.tables e below (T1.setTop { method := m, pc := pc + 3, locals := ls, stack := .ref T.heap.size :: rest, locked := none }) _
  jvm_step X₁.here [X₁.here.top, hexec, d3', Value.category]
  exact hsteps
/-- 'throw new E("text")': new; dup; ldc; invokespecial; athrow -/
theorem vx_throwS {cc : ByteArray} {pc : Nat} (hexec : p.tables.exec = Jvm.exec) (hb : c.code = cc) (hl : l.stackTraces = false) {own cls text : String} {names : List String} {ik is ic mc ms sa : Nat} {A : Nat → Prop}
    (hown : s.vm.findClass own = some m.cls) (hcls : Bundle.fit cls = true) (hnames : ∀ n ∈ names, Bundle.fit n = true)
    (hk : (Cond.classLink own ik cls).before args s = true) (hini : (Cond.initialized cls).before args s = true) (hstr : vk_R own is text sa s) (hat : ∀ w ∈ vx_atS own ic cls names, w.before args s = true)
    (hgood : ∀ w ∈ Cond.classLink own ik cls :: Cond.initialized cls :: vx_atS own ic cls names, vx_ot w = true)
    (hU : vx_Zq Bundle.tN "UNASSIGNED_STACK" Bundle.steD A s s.heap) (hN : vx_Zq Bundle.tN "SUPPRESSED_SENTINEL" Bundle.listD A s s.heap) (hS : va_S A s.heap H locs) (hsize : ls.size = c.maxLocals)
    (d0 : decode cc pc = .ok (.new ik, 3)) (d3 : decode cc (pc + 3) = .ok (.dup, 1)) (d4 : decode cc (pc + 4) = .ok (.ldc is, 2)) (d6 : decode cc (pc + 6) = .ok (.invokespecial ic, 3)) (d9 : decode cc (pc + 9) = .ok (.athrow, 1))
    (hout : ∀ x ∈ c.exceptionTable.toList, covers x (pc + 9) = false)
    (hRframes : names.length + 3 < R.frames) (hRlocals : (rest.map fun v => v.category).sum + (13 * (names.length + 1) + 43) ≤ R.locals) (hRcells : cells + 1 ≤ R.cells) (hRslots : slots + 6 ≤ R.slots) (hlocks : meth.locks = false)
    (hx : ∀ t : State, s.vm.Alike t.vm → H.size ≤ t.heap.size → (∀ q : Nat, q < H.size → t.heap[q]? = H[q]?) → XC cls s t)
    (hf : ∀ z ∈ locs, free z.base) (hc : cells + 1 ≤ mc) (hs : slots + 6 ≤ ms) :
    W p l e R s m args below meth c H locs cells slots (vx_MQ below Qc XC args s mc ms free) (F0 m pc ls rest) := by
  intro T hT X
  have htr : e.platform.stackTraces = false := (show e.platform.stackTraces = l.stackTraces by rw [X.admits.platform]).trans hl
  have Y := vx_rebase X (R' := { frames := R.frames, locals := R.locals, cells := 1, slots := 6 }) (Nat.le_refl _) (Nat.le_refl _) hRcells hRslots
  obtain ⟨s', hA⟩ : ∃ z, z = (T.setVm s.vm).setFrames (.invoking m args :: below) := ⟨_, rfl⟩
  rw [← hA] at Y
  have hvm : s'.vm = s.vm := by rw [hA]; rfl
  have hhp : s'.heap = H := by rw [hA]; exact hT
  have hW0 : s.WarmedH s'.vm := by rw [hvm]; exact State.WarmedH.refl s
  have hat' : ∀ w ∈ vx_atS own ic cls names, w.before args s' = true := fun w hw => vx_ot_at hW0 hvm.symm (hgood w (List.mem_cons_of_mem _ (List.mem_cons_of_mem _ hw))) (hat w hw)
  have hk' : (Cond.classLink own ik cls).before args s' = true := vx_ot_at hW0 hvm.symm (hgood _ List.mem_cons_self) hk
  have hini' : (Cond.initialized cls).before args s' = true := vx_ot_at hW0 hvm.symm (hgood _ (List.mem_cons_of_mem _ List.mem_cons_self)) hini
  have hU' : vx_Zq Bundle.tN "UNASSIGNED_STACK" Bundle.steD A s' s'.heap := by rw [hhp]; exact vx_Zq.moved hW0.alike (hU.kept hS.2.1)
  have hN' : vx_Zq Bundle.tN "SUPPRESSED_SENTINEL" Bundle.listD A s' s'.heap := by rw [hhp]; exact vx_Zq.moved hW0.alike (hN.kept hS.2.1)
  have h : ∀ w ∈ Bundle.ownAtoms own ic cls names, w.before args s' = true := vx_own hat' (vx_isRefq hU'.1) (vx_isRefq hN'.1) hU'.2.word hN'.2.word
  have hown' : s'.vm.findClass own = some m.cls := by rw [hvm]; exact hown
  have hins : (Cond.instantiable cls 6).before args s' = true := h _ (by simp [Bundle.ownAtoms])
  obtain ⟨vm₁, cX, kX, hfX, hkX, -, -, X₁, st1⟩ := Y.newCold hexec (own := own) (C := cls) (index := ik) (n := 6) hown' hk' hins hini'
    (g := F0 m pc ls rest) rfl (by rw [hb]; exact d0) (Nat.le_refl _) (Nat.le_refl _)
  generalize hT1 : (T.setVm vm₁).pushCell { cls := cX, slots := kX.instanceTypes.map defaultValue, vm := .none } = T1 at X₁ st1
  have hcat : (Value.ref T.heap.size).category = 1 := rfl
  have hcellA : T1.heap[T.heap.size]? = some (freshCell cX kX) := by rw [← hT1]; exact State.heap_pushCell_size _ _
  have d3' : decode c.code (pc + 3) = .ok (.dup, 1) := by rw [hb]; exact d3
  have d4' : decode c.code (pc + 4) = .ok (.ldc is, 2) := by rw [hb]; exact d4
  have hstr' : vk_R own is text sa s' := vk_R.warm hW0 hstr
  obtain ⟨U, hsteps, hrun, hend, hW, hsame, ce, hce, hO⟩ := X₁.ctorThrowS hexec htr (own := own) (cls := cls) (names := names) (ic := ic) hown' hcls hnames h (fun x hx => nomatch hx) hfX hkX hcellA (by rw [hhp, hT]; exact Nat.le_refl _) (msg := .ref sa) rfl
    (g := { method := m, pc := pc + 6, locals := ls, stack := .ref sa :: .ref T.heap.size :: .ref T.heap.size :: rest, locked := none }) rfl hsize rfl rfl (rest := rest) rfl
    (by rw [hb]; exact d6) (by rw [hb]; exact d9) hout hRframes (by simp only [List.map_cons, List.sum_cons, hcat]; omega) hlocks
  obtain ⟨f1, f2⟩ := vx_frame hsame
  rw [hhp] at f1 f2
  have hWs : s.WarmedH U.vm := State.WarmedH.trans hW0 hW
  have hcl : s.vm.findClass cls = some ce.cls := by
    have h9 := hO.cls
    rw [hvm] at h9
    exact h9
  have hall : s.sameButNew ({ U with vm := s.vm } : State) locs mc ms := by
    subst hA
    obtain ⟨e1, e2⟩ := hsame
    rw [State.setFrames_setFrames] at e1
    have h2 : (T.setVm s.vm).sameButNew ({ U with vm := s.vm } : State) [] (0 + 1) (0 + 6) := ⟨e1, e2⟩
    have h3 := X.same.trans h2
    rw [List.append_nil] at h3
    exact h3.mono hc hs
  refine ⟨U, ?_, .threw T.heap.size, hrun, hend, Or.inr ⟨T.heap.size, rfl, cls, ce, locs, hx U hWs.alike f1 (fun q hq => f2 q hq (fun z hz => nomatch hz)), hce, hO.vm, hcl, hWs, hall, hf⟩⟩
  refine st1 _ ?_
  show Steps p.tables e below (T1.setTop { method := m, pc := pc + 3, locals := ls, stack := .ref T.heap.size :: rest, locked := none }) _
  jvm_step X₁.here [X₁.here.top, hexec, d3', Value.category]
  exact X₁.ldcString hexec (own := own) (text := text) (index := is) (a := sa) hown' hstr'.1 hstr'.2
    (g := { method := m, pc := pc + 4, locals := ls, stack := .ref T.heap.size :: .ref T.heap.size :: rest, locked := none }) rfl d4' _ hsteps
/-- 'throw new E("text")', the text by a wide index -/
theorem vx_throwSW {cc : ByteArray} {pc : Nat} (hexec : p.tables.exec = Jvm.exec) (hb : c.code = cc) (hl : l.stackTraces = false) {own cls text : String} {names : List String} {ik is ic mc ms sa : Nat} {A : Nat → Prop}
    (hown : s.vm.findClass own = some m.cls) (hcls : Bundle.fit cls = true) (hnames : ∀ n ∈ names, Bundle.fit n = true)
    (hk : (Cond.classLink own ik cls).before args s = true) (hini : (Cond.initialized cls).before args s = true) (hstr : vk_R own is text sa s) (hat : ∀ w ∈ vx_atS own ic cls names, w.before args s = true)
    (hgood : ∀ w ∈ Cond.classLink own ik cls :: Cond.initialized cls :: vx_atS own ic cls names, vx_ot w = true)
    (hU : vx_Zq Bundle.tN "UNASSIGNED_STACK" Bundle.steD A s s.heap) (hN : vx_Zq Bundle.tN "SUPPRESSED_SENTINEL" Bundle.listD A s s.heap) (hS : va_S A s.heap H locs) (hsize : ls.size = c.maxLocals)
    (d0 : decode cc pc = .ok (.new ik, 3)) (d3 : decode cc (pc + 3) = .ok (.dup, 1)) (d4 : decode cc (pc + 4) = .ok (.ldc_w is, 3)) (d7 : decode cc (pc + 7) = .ok (.invokespecial ic, 3)) (d10 : decode cc (pc + 10) = .ok (.athrow, 1))
    (hout : ∀ x ∈ c.exceptionTable.toList, covers x (pc + 10) = false)
    (hRframes : names.length + 3 < R.frames) (hRlocals : (rest.map fun v => v.category).sum + (13 * (names.length + 1) + 43) ≤ R.locals) (hRcells : cells + 1 ≤ R.cells) (hRslots : slots + 6 ≤ R.slots) (hlocks : meth.locks = false)
    (hx : ∀ t : State, s.vm.Alike t.vm → H.size ≤ t.heap.size → (∀ q : Nat, q < H.size → t.heap[q]? = H[q]?) → XC cls s t)
    (hf : ∀ z ∈ locs, free z.base) (hc : cells + 1 ≤ mc) (hs : slots + 6 ≤ ms) :
    W p l e R s m args below meth c H locs cells slots (vx_MQ below Qc XC args s mc ms free) (F0 m pc ls rest) := by
  intro T hT X
  have htr : e.platform.stackTraces = false := (show e.platform.stackTraces = l.stackTraces by rw [X.admits.platform]).trans hl
  have Y := vx_rebase X (R' := { frames := R.frames, locals := R.locals, cells := 1, slots := 6 }) (Nat.le_refl _) (Nat.le_refl _) hRcells hRslots
  obtain ⟨s', hA⟩ : ∃ z, z = (T.setVm s.vm).setFrames (.invoking m args :: below) := ⟨_, rfl⟩
  rw [← hA] at Y
  have hvm : s'.vm = s.vm := by rw [hA]; rfl
  have hhp : s'.heap = H := by rw [hA]; exact hT
  have hW0 : s.WarmedH s'.vm := by rw [hvm]; exact State.WarmedH.refl s
  have hat' : ∀ w ∈ vx_atS own ic cls names, w.before args s' = true := fun w hw => vx_ot_at hW0 hvm.symm (hgood w (List.mem_cons_of_mem _ (List.mem_cons_of_mem _ hw))) (hat w hw)
  have hk' : (Cond.classLink own ik cls).before args s' = true := vx_ot_at hW0 hvm.symm (hgood _ List.mem_cons_self) hk
  have hini' : (Cond.initialized cls).before args s' = true := vx_ot_at hW0 hvm.symm (hgood _ (List.mem_cons_of_mem _ List.mem_cons_self)) hini
  have hU' : vx_Zq Bundle.tN "UNASSIGNED_STACK" Bundle.steD A s' s'.heap := by rw [hhp]; exact vx_Zq.moved hW0.alike (hU.kept hS.2.1)
  have hN' : vx_Zq Bundle.tN "SUPPRESSED_SENTINEL" Bundle.listD A s' s'.heap := by rw [hhp]; exact vx_Zq.moved hW0.alike (hN.kept hS.2.1)
  have h : ∀ w ∈ Bundle.ownAtoms own ic cls names, w.before args s' = true := vx_own hat' (vx_isRefq hU'.1) (vx_isRefq hN'.1) hU'.2.word hN'.2.word
  have hown' : s'.vm.findClass own = some m.cls := by rw [hvm]; exact hown
  have hins : (Cond.instantiable cls 6).before args s' = true := h _ (by simp [Bundle.ownAtoms])
  obtain ⟨vm₁, cX, kX, hfX, hkX, -, -, X₁, st1⟩ := Y.newCold hexec (own := own) (C := cls) (index := ik) (n := 6) hown' hk' hins hini'
    (g := F0 m pc ls rest) rfl (by rw [hb]; exact d0) (Nat.le_refl _) (Nat.le_refl _)
  generalize hT1 : (T.setVm vm₁).pushCell { cls := cX, slots := kX.instanceTypes.map defaultValue, vm := .none } = T1 at X₁ st1
  have hcat : (Value.ref T.heap.size).category = 1 := rfl
  have hcellA : T1.heap[T.heap.size]? = some (freshCell cX kX) := by rw [← hT1]; exact State.heap_pushCell_size _ _
  have d3' : decode c.code (pc + 3) = .ok (.dup, 1) := by rw [hb]; exact d3
  have d4' : decode c.code (pc + 4) = .ok (.ldc_w is, 3) := by rw [hb]; exact d4
  have hstr' : vk_R own is text sa s' := vk_R.warm hW0 hstr
  obtain ⟨U, hsteps, hrun, hend, hW, hsame, ce, hce, hO⟩ := X₁.ctorThrowS hexec htr (own := own) (cls := cls) (names := names) (ic := ic) hown' hcls hnames h (fun x hx => nomatch hx) hfX hkX hcellA (by rw [hhp, hT]; exact Nat.le_refl _) (msg := .ref sa) rfl
    (g := { method := m, pc := pc + 7, locals := ls, stack := .ref sa :: .ref T.heap.size :: .ref T.heap.size :: rest, locked := none }) rfl hsize rfl rfl (rest := rest) rfl
    (by rw [hb]; exact d7) (by rw [hb]; exact d10) hout hRframes (by simp only [List.map_cons, List.sum_cons, hcat]; omega) hlocks
  obtain ⟨f1, f2⟩ := vx_frame hsame
  rw [hhp] at f1 f2
  have hWs : s.WarmedH U.vm := State.WarmedH.trans hW0 hW
  have hcl : s.vm.findClass cls = some ce.cls := by
    have h9 := hO.cls
    rw [hvm] at h9
    exact h9
  have hall : s.sameButNew ({ U with vm := s.vm } : State) locs mc ms := by
    subst hA
    obtain ⟨e1, e2⟩ := hsame
    rw [State.setFrames_setFrames] at e1
    have h2 : (T.setVm s.vm).sameButNew ({ U with vm := s.vm } : State) [] (0 + 1) (0 + 6) := ⟨e1, e2⟩
    have h3 := X.same.trans h2
    rw [List.append_nil] at h3
    exact h3.mono hc hs
  refine ⟨U, ?_, .threw T.heap.size, hrun, hend, Or.inr ⟨T.heap.size, rfl, cls, ce, locs, hx U hWs.alike f1 (fun q hq => f2 q hq (fun z hz => nomatch hz)), hce, hO.vm, hcl, hWs, hall, hf⟩⟩
  refine st1 _ ?_
  show Steps p.tables e below (T1.setTop { method := m, pc := pc + 3, locals := ls, stack := .ref T.heap.size :: rest, locked := none }) _
  jvm_step X₁.here [X₁.here.top, hexec, d3', Value.category]
  exact X₁.ldcStringW hexec (own := own) (text := text) (index := is) (a := sa) hown' hstr'.1 hstr'.2
    (g := { method := m, pc := pc + 4, locals := ls, stack := .ref T.heap.size :: .ref T.heap.size :: rest, locked := none }) rfl d4' _ hsteps
end Ends
section Bodies
variable {l : Launch}
theorem vx_ofW {y : MethodName} {ws ws' : List Cond} {rm : Room} {Pc : Array Value → State → Prop} {Qc : Array Value → State → Outcome → State → Prop} {XC : String → State → State → Prop} {mc ms : Nat} {free : Addr → Prop} {cc : ByteArray} {maxL : Nat} {ret : Option FieldType}
    (hy : plainName y.cls = true) (hw : ws = Cond.code y cc maxL ret :: ws')
    (body : ∀ p e s m args below meth c s₁, BodyLoose p l y (headSpec ws rm) cc maxL ret e s m args below meth c s₁ → c.maxLocals = maxL → (∀ x ∈ c.exceptionTable.toList, False) → Pc args s →
      W p l e (headSpec ws rm).room s m args below meth c s.heap [] 0 0 (vx_MQ below Qc XC args s mc ms free) (entryFrame m args maxL)) : vx_Met l y ws rm Pc Qc XC mc ms free := by
  refine MetFree.of_bodyS (code := cc) (maxLocals := maxL) (ret := ret) hy ?_ ?_
  · intro args s m h hn
    obtain ⟨meth, c, h1, h2, h3, h4, h5, h6, -, -⟩ := Cond.code_spec hn (atoms_spec (ws := ws) h _ (by rw [hw]; exact List.mem_cons_self))
    exact ⟨meth, c, h1, h2, h3, h4, h5, h6⟩
  · intro p e s m args below meth c s₁ B hml hP _
    have hh0 : s₁.heap = s.heap := by rw [B.state]; rfl
    have ht : ∀ x ∈ c.exceptionTable.toList, False := by
      obtain ⟨meth9, c9, h1, h2, -, -, -, -, h7, -⟩ := Cond.code_spec B.named (atoms_spec (ws := ws) B.pre _ (by rw [hw]; exact List.mem_cons_self))
      cases Option.some.inj (h1.symm.trans B.method)
      cases Option.some.inj (h2.symm.trans (Stand.of_body B).code)
      intro x hx
      rw [Array.isEmpty_iff.mp h7] at hx
      cases hx
    obtain ⟨t, a1, o, b1, b2, b3⟩ := body p e s m args below meth c s₁ B hml ht hP s₁ hh0 (Stand.of_body B)
    exact ⟨t, o, a1, b1, b2, b3⟩
/-- the table of a body with handlers -/
theorem vx_table {p : Program} {x y : MethodName} {S : Spec} {cc bytes : ByteArray} {maxL maxL' : Nat} {ret ret' : Option FieldType} {e : Env} {s s₁ : State} {m : MethodId} {args : Array Value} {below : List Frame} {meth : Method} {c : Code} {hh : List (Nat × Nat × Nat × Nat)}
    (B : BodyLoose p l y S cc maxL ret e s m args below meth c s₁) (h : (Cond.codeWith y bytes maxL' ret' hh).before args s = true) : c.exceptionTable.toList = tableOf hh := by
  obtain ⟨m9, meth9, c9, hn9, h1, h2, -, -, h6, -⟩ := Cond.codeWith_spec h
  cases Option.some.inj (hn9.symm.trans B.named)
  cases Option.some.inj (h1.symm.trans B.method)
  cases Option.some.inj (h2.symm.trans (Stand.of_body B).code)
  rw [← h6, table_eq]
end Bodies
end VXA
/-! ===== END ===== -/
/-! ===== BEGIN a static call of a method with an exception table ===== -/
section VXS
variable {p : Program} {l : Launch} {e : Env} {R : Room} {s : State} {m : MethodId} {args : Array Value} {below : List Frame} {meth : Method} {c : Code} {T : State} {H : Heap} {locs : List Loc} {cells slots : Nat}
abbrev vx_CSW (R : Room) (s : State) (args : Array Value) (own : String) (index : Nat) (y : MethodName) (bytes : ByteArray) (maxL : Nat) (ret : Option FieldType) (hh : List (Nat × Nat × Nat × Nat)) (ws : List Cond) (rm : Room) (mc ms n : Nat) : Prop :=
  (rm.cells = mc ∧ rm.slots = ms ∧ rm.frames + 1 ≤ R.frames ∧ 8 + (maxL + 11) + rm.locals ≤ R.locals ∧ (∀ w ∈ ws, ∀ (a' : Array Value) (U : State), s.WarmedH U.vm → w.before a' U = true) ∧ Cond.codeWith y bytes maxL ret hh ∈ ws) ∧
  (Cond.codeWith y bytes maxL ret hh).before args s = true ∧ (Cond.initialized y.cls).before args s = true ∧ (y.cls ≠ "java/lang/invoke/MethodHandle" ∧ y.cls ≠ "java/lang/invoke/VarHandle") ∧
  (∀ sig, parseMethodDescriptor y.desc = some sig → n = sig.parameters.length) ∧ (Cond.methodLink own index y).before args s = true ∧ (Cond.static y).before args s = true
theorem vx_cwSW {own : String} {index maxL mc ms : Nat} {y : MethodName} {bytes : ByteArray} {ret : Option FieldType} {hh : List (Nat × Nat × Nat × Nat)} {Ts ws ws' : List Cond} {rm : Room} (n : Nat) (ht : ∀ w ∈ Ts, w.before args s = true) (hT : GoodIn Ts (va_wsS own index y ws)) (hw : ws = Cond.codeWith y bytes maxL ret hh :: ws') (hrc : rm.cells = mc) (hrs : rm.slots = ms)
    (hd : y.cls ≠ "java/lang/invoke/MethodHandle" ∧ y.cls ≠ "java/lang/invoke/VarHandle" ∧ (parseMethodDescriptor y.desc).map (fun d => d.parameters.length) = some n) (hR : rm.frames + 1 ≤ R.frames ∧ 8 + (maxL + 11) + rm.locals ≤ R.locals) :
    vx_CSW R s args own index y bytes maxL ret hh ws rm mc ms n := by
  have ok : ∀ w ∈ va_wsS own index y ws, w.before args s = true := fun w h => ht w (hT w h).1
  have hG : GoodIn Ts ws := fun w h => hT w (by unfold va_wsS; exact List.mem_append_right _ h)
  have hc : Cond.codeWith y bytes maxL ret hh ∈ ws := by rw [hw]; exact List.mem_cons_self
  refine ⟨⟨hrc, hrs, hR.1, hR.2, pay_in ht hG, hc⟩, ht _ (hG _ hc).1, ok _ (by simp [va_wsS]), ⟨hd.1, hd.2.1⟩, fun sig h => ?_, ok _ (by simp [va_wsS]), ok _ (by simp [va_wsS])⟩
  have h2 := hd.2.2
  rw [h] at h2
  exact (Option.some.inj h2).symm
theorem vx_callSW (X : Stand p l e R s m args below meth c T locs cells slots) (hexec : p.tables.exec = Jvm.exec) {own : String} {index : Nat} {y : MethodName} {bytes : ByteArray} {maxL : Nat} {ret : Option FieldType} {hh : List (Nat × Nat × Nat × Nat)}
    (hown : s.vm.findClass own = some m.cls) (hlink : (Cond.methodLink own index y).before args s = true) (hstat : (Cond.static y).before args s = true) (hinit : (Cond.initialized y.cls).before args s = true)
    (hcode : (Cond.codeWith y bytes maxL ret hh).before args s = true) (hy : y.cls ≠ "java/lang/invoke/MethodHandle" ∧ y.cls ≠ "java/lang/invoke/VarHandle")
    {W9 : Nat} {Pre : Pt → Array Value → Prop} {Post : Pt → Array Value → Option Value → Pt → Prop} (hK : Back l R p e below s args y 3 W9 Pre Post)
    {g : JFrame} (hg : g.method = m) (hsize : g.locals.size = c.maxLocals) {argsL rest : List Value} (hlen : ∀ sig, parseMethodDescriptor y.desc = some sig → argsL.length = sig.parameters.length)
    (hstack : g.stack = argsL.reverse ++ rest) (hW : 2 * g.monitorRoom + (rest.map fun v => v.category).sum ≤ W9) (hdg : decode c.code g.pc = .ok (.invokestatic index, 3))
    (hpre : ∀ vm₁, s.WarmedH vm₁ → Pre ⟨T.setVm vm₁, locs, cells, slots⟩ argsL.toArray) :
    ∃ (v : Option Value) (vm₁ : Vm) (B : Pt), s.WarmedH vm₁ ∧ Stand p l e R s m args below meth c B.U B.locs B.cells B.slots ∧ Post ⟨T.setVm vm₁, locs, cells, slots⟩ argsL.toArray v B ∧
      ∀ target, Steps p.tables e below (B.U.setTop { g with pc := g.pc + 3, stack := v.toList ++ rest }) target → Steps p.tables e below (T.setTop g) target := by
  obtain ⟨mk, methM, cM, hnamed, hmethM, -, -, -, -, -, -, hsigM⟩ := Cond.codeWith_spec hcode
  have hstatic : methM.isStatic = true := Cond.static_spec hnamed hmethM hstat
  obtain ⟨kP, hkP, -⟩ := className_of_methodNamed hnamed
  have hinitP : kP.init = .initialized := Cond.initialized_spec (findClass_of_methodNamed hnamed) hkP hinit
  obtain ⟨vm₁, X₁, hstep₁⟩ := X.invokestatic hexec hown hlink hnamed hmethM hstatic hkP hinitP hy (g := g) hg (argsL := argsL) (rest := rest) (hlen _ hsigM) hstack hdg
  obtain ⟨v, B, X', hpost, hsteps⟩ := hK m meth c ⟨T.setVm vm₁, locs, cells, slots⟩ { g with stack := rest } (.invokestatic index) mk argsL.toArray X₁ hg hsize hdg hW (X₁.named hnamed) (hpre vm₁ X₁.warmed)
  exact ⟨v, vm₁, B, X₁.warmed, X', hpost, fun target h => hstep₁ _ fun acts => by rw [doInvoke_state]; exact hsteps.trans h⟩
theorem vx_runSW {y : MethodName} {bytes cc : ByteArray} {maxL nL mc ms n index : Nat} {ret : Option FieldType} {hh : List (Nat × Nat × Nat × Nat)} {ws : List Cond} {rm : Room} {Pc : Array Value → State → Prop} {Qc : Array Value → State → Outcome → State → Prop} {free : Addr → Prop} {Ts : List Cond} {own : String} {As rest : List Value} {g : JFrame}
    (S : CallFix p m c cc nL s args Ts own) (hM : Met l y ws rm Pc Qc mc ms free) (cw : vx_CSW R s args own index y bytes maxL ret hh ws rm mc ms n) (hp : PreS s H Pc As)
    (hg : g.method = m) (hn : As.length = n) (hsize : g.locals.size = nL) (hstack : g.stack = As.reverse ++ rest) (hW : 2 * g.monitorRoom + (rest.map fun v => v.category).sum ≤ 8) (hdg : decode cc g.pc = .ok (.invokestatic index, 3)) (hf : cells + mc ≤ R.cells ∧ slots + ms ≤ R.slots) :
    va_Run p l e R s m args below meth c H locs cells slots mc ms g rest (Qc As.toArray) (free) := by
  obtain ⟨⟨hrc, hrs, hfr, hlo, hws, hcw⟩, hcode, hini, hy, hlen, hl, hstt⟩ := cw
  have hK : Back l R p e below s args y 3 8 (PreOf R mc ms Pc) (PostOf Qc mc ms free) := va_backW (hh := hh) (bytes := bytes) (maxL := maxL) (ret := ret) hM hp.1 hrc hrs hfr hlo hws hcw (fun a' U hW => word_at hW (Or.inl (by first | rfl | simp [Cond.onTables, Cond.keeps, Cond.steady])) hini)
  obtain ⟨hx, hb, hml, ho, -⟩ := S
  intro T hT X
  obtain ⟨v, vm₁, ⟨U', l2, c2, s2⟩, hW₁, X', ⟨g', mk, t, L, e1, e2, hq, h1, hL, h2, h3⟩, st⟩ := vx_callSW X hx (hh := hh) (bytes := bytes) (maxL := maxL) (ret := ret) ho hl hstt hini hcode hy hK hg (hsize.trans hml.symm) (argsL := As) (rest := rest) (fun sig h => hn.trans (hlen sig h)) hstack hW (by rw [hb]; exact hdg)
    (fun vm₁ hW₁ => ⟨hf.1, hf.2, hp.2 (T.setVm vm₁) hT hW₁⟩)
  dsimp only [Pt.U, Pt.locs, Pt.cells, Pt.slots] at X' e1 e2 h1 h2 h3 st
  subst h1; subst h2; subst h3
  exact ⟨v, (T.setVm vm₁).calling g' mk As.toArray, t, U', L, hT, X', hL, e1, e2, hq, st⟩
/-- not caught here, past rows that name other classes: it goes on to the caller -/
theorem vx_outP {p : Program} {l : Launch} {e : Env} {R : Room} {s : State} {m : MethodId} {args : Array Value} {below : List Frame} {meth : Method} {c : Code} {H : Heap} {locs : List Loc} {cells slots : Nat} {free : Addr → Prop} {ls : Array Slot} {rest : List Value} {Qc : Array Value → State → Outcome → State → Prop} {XC : String → State → State → Prop}
    {pc : Nat} {own E : String} {ce : Cell} {q : Addr} {mc ms : Nat} (hown : s.vm.findClass own = some m.cls) (hlocks : meth.locks = false)
    (hpass : ∀ z ∈ c.exceptionTable.toList, covers z pc = false ∨ (z.catchType ≠ 0 ∧ ∃ nm : String, (Cond.classLink own z.catchType nm).before args s = true ∧ va_Nc E nm s)) (hcell : H[q]? = some ce) (hv : ce.vm = .none) (hcl : s.vm.findClass E = some ce.cls)
    (hx : ∀ t : State, t.heap = H → s.vm.Alike t.vm → XC E s t) (hf : ∀ z ∈ locs, free z.base) (hc : cells ≤ mc) (hs : slots ≤ ms) :
    vx_W p l e R s m args below meth c H locs cells slots (vx_MQ below Qc XC args s mc ms free) (F0 m pc ls rest) q := by
  intro T hT X
  have hpl : e.platform.magicAccessors = ({} : Platform).magicAccessors := by rw [X.admits.platform]
  obtain ⟨vm', hW', X', st⟩ := X.outThrough hlocks q (g := F0 m pc ls rest) rfl rfl rfl (cell := ce) (by rw [hT]; exact hcell) (by rw [hv]; rfl)
    (by obtain ⟨k9, h9, -⟩ := Vm.findClass_spec hcl; exact ⟨k9, h9⟩) (fun z hz => by
      rcases hpass z hz with h | ⟨hz0, nm, hl1, hn1⟩
      · exact Or.inl h
      · obtain ⟨c6, hc6, hcl6⟩ := Cond.classLink_spec hown hl1 e.platform hpl
        obtain ⟨a8, b8, h1, h2, h3⟩ := hn1
        cases Option.some.inj (h1.symm.trans hcl)
        cases Option.some.inj (h2.symm.trans hc6)
        exact Or.inr ⟨hz0, _, hcl6, h3⟩)
  obtain ⟨g₀, hfr⟩ := X'.frames_eq
  have hcell9 : ((T.setVm vm').setFrames (.throwing q :: below)).heap[q]? = some ce := by
    show T.heap[q]? = some ce
    rw [hT]; exact hcell
  have hend : Ended ((T.setVm vm').setFrames (.throwing q :: below)) below (.threw q) := State.frames_setFrames _ (State.cur_lt_of_frames hfr)
  refine ⟨(T.setVm vm').setFrames (.throwing q :: below), ?_, .threw q, X'.here.running, hend, Or.inr ⟨q, rfl, E, ce, locs, hx _ hT (X'.ends _).1.alike, hcell9, hv, hcl, (X'.ends _).1, (X'.ends _).2.mono hc hs, hf⟩⟩
  rw [X.pushThrowing_eq]
  exact st
/-- a thing of a world lies in the heap -/
theorem vx_lt {D : va_G} {cl : List vw_C} {ws : va_W} {H1 : Heap} (h : va_P D cl ws H1) {k : Nat} {q : Nat × va_E} (hk : ws[k]? = some q) : q.1 < H1.size := (h k q hk).lt
end VXS
/-! ===== END ===== -/
/-! ===== BEGIN methods with a table of their own: called by a name, returning or throwing ===== -/
section VXH
/-! vx_backW, vx_callVX, vx_callSX, vx_callVW, vx_runVW, vx_runVX, vx_runSX, vx_ofWH follow the same proofs as their sisters above (Free/Laws.lean, Shelf42/LK1.lean); vx_outP calls Shelf42/NT130.lean (outThrough). -/
section
variable {l : Launch} {R : Room} {p : Program} {e : Env} {below : List Frame} {s : State} {sargs : Array Value} {y : MethodName} {len W9 : Nat}
theorem vx_backW {ws : List Cond} {rm : Room} {Pc : Array Value → State → Prop} {Qc : Array Value → State → Outcome → State → Prop} {XC : String → State → State → Prop} {mc ms : Nat} {free : Addr → Prop} {bytes : ByteArray} {maxL : Nat} {ret : Option FieldType} {hh : List (Nat × Nat × Nat × Nat)}
    (hM : vx_Met l y ws rm Pc Qc XC mc ms free) (hblind : FrameBlind Pc) (hrc : rm.cells = mc) (hrs : rm.slots = ms)
    (hframes : rm.frames + 1 ≤ R.frames) (hlocals : W9 + (maxL + 11) + rm.locals ≤ R.locals)
    (hws : ∀ w ∈ ws, ∀ a' U, s.WarmedH U.vm → w.before a' U = true) (hcode : Cond.codeWith y bytes maxL ret hh ∈ ws) (hinit : ∀ a' U, s.WarmedH U.vm → (Cond.initialized y.cls).before a' U = true) :
    vx_Back l R p e below s sargs y len W9 (PreOf R mc ms Pc) (PostOf Qc mc ms free) (vx_Post XC mc ms free) := by
  intro m meth c A g ig mk a X hg hsize hdg hW hn hp
  have h1 : (headSpec ws rm).pre.before a A.U = true := atoms_intro fun w hw => hws w hw _ _ X.warmed
  have h2 : (Cond.codeWith y bytes maxL ret hh).before a A.U = true := hws _ hcode _ _ X.warmed
  have h3 : (Cond.initialized y.cls).before a A.U = true := hinit _ _ X.warmed
  have h4 : A.cells + (headSpec ws rm).room.cells ≤ R.cells := by rw [show (headSpec ws rm).room.cells = mc from hrc]; exact hp.1
  have h5 : A.slots + (headSpec ws rm).room.slots ≤ R.slots := by rw [show (headSpec ws rm).room.slots = ms from hrs]; exact hp.2.1
  have hPc : Pc a (A.U.calling g mk a) := hblind _ _ _ _ hp.2.2
  obtain ⟨U, Ls, c0, s0⟩ := A
  dsimp only [Pt.U, Pt.locs, Pt.cells, Pt.slots] at h1 h2 h3 h4 h5 X hn hPc ⊢
  obtain ⟨m9, methY, cY, hn9, hmY, hcY, -, hlY, -⟩ := Cond.codeWith_spec h2
  cases Option.some.inj (hn9.symm.trans hn)
  obtain ⟨kY, hkY, -⟩ := className_of_methodNamed hn
  have hinitY : kY.init = .initialized := Cond.initialized_spec (findClass_of_methodNamed hn) hkY h3
  have h : At U g.method c below := by rw [hg]; exact X.here
  have hlocals9 : W9 + (maxL + 11) + (headSpec ws rm).room.locals ≤ R.locals := hlocals
  have happ : (headSpec ws rm).appliesLoose y e.platform (U.calling g mk a) = true :=
    Spec.appliesLoose_calling (g := g) h hdg hn hkY hinitY
      (X.room_calling (g := g) (R' := (headSpec ws rm).room) hsize hmY hcY hframes (by rw [hlY]; omega) h4 h5) h1
  obtain ⟨mid, hmid⟩ := h.above
  have hfr : (U.setTop g).frames = (.java g :: mid) ++ below := by rw [State.frames_setTop' g h.top, hmid]; rfl
  obtain ⟨o, s₂, hsteps, -, hend, hq⟩ := Steps.callFree hM p X.admits X.cas X.clock (acts := []) hfr happ hPc trivial
  have hq' : vx_Q Qc XC mc ms free a (U.calling g mk a) o s₂ := hq
  rw [State.frames_setTop' g h.top] at hend
  obtain ⟨g₀, hg0⟩ := Option.isSome_iff_exists.mp h.top
  obtain ⟨r, hr⟩ := State.topJava?_eq_some.mp hg0
  have hr' : (({ U with heap := s₂.heap, slotsUsed := s₂.slotsUsed } : State).setVm s₂.vm).frames = .java g₀ :: r := hr
  rcases hq' with ⟨hqc, L, hfe, hL⟩ | ⟨q, rfl, E, ce, L, hx, hce, hcv, hcl, hW₂, hsm, hL⟩
  · obtain ⟨⟨v, rfl⟩, hW₂, e2, q2, q3, q4, q5, q6⟩ := id hfe
    have e3 : s₂ = ({ (U.calling g mk a).setFrames s₂.frames with heap := s₂.heap, slotsUsed := s₂.slotsUsed } : State).setVm s₂.vm := by
      have : s₂ = ({ s₂ with vm := (U.calling g mk a).vm } : State).setVm s₂.vm := rfl
      rw [e2] at this
      exact this
    obtain ⟨c₂, i₂, len₂, hc₂, hd₂, hf₂⟩ := hend
    have hW' : U.WarmedH s₂.vm := hW₂
    have hcc : c₂ = c := by
      have h1 : s₂.code? g.method = U.code? g.method := by
        rw [State.code?_eq, State.code?_eq, hW'.alike.method?]
      exact Option.some.inj (hc₂.symm.trans (h1.trans h.code))
    subst hcc
    have hlen : len₂ = len := by rw [hdg] at hd₂; cases hd₂; rfl
    subst hlen
    have hs₂ : s₂ = (({ U with heap := s₂.heap, slotsUsed := s₂.slotsUsed } : State).setVm s₂.vm).setTop { g with pc := g.pc + len₂, stack := v.toList ++ g.stack } := by
      refine e3.trans ?_
      rw [hf₂, State.calling_eq h.top, State.setFrames_setFrames, State.setTop_of_frames _ hr', hr]
      rfl
    have hsame : U.sameButNew ({ U with heap := s₂.heap, slotsUsed := s₂.slotsUsed } : State) L mc ms := by
      refine ⟨?_, q2, q3, q4, q5, q6⟩
      obtain ⟨t, ht, -⟩ := State.frames_cons hr
      show ({ U with heap := s₂.heap, slotsUsed := s₂.slotsUsed } : State) = { U.setFrames U.frames with heap := s₂.heap, slotsUsed := s₂.slotsUsed }
      rw [State.setFrames_self ht]
    subst hg
    refine Or.inl ⟨v, ⟨(({ U with heap := s₂.heap, slotsUsed := s₂.slotsUsed } : State).setVm s₂.vm), Ls ++ L, c0 + mc, s0 + ms⟩,
      ⟨X.admits, X.cas, X.clock, X.frames, X.room, X.hears, X.method, X.code, (X.here.setHeapUsed s₂.heap s₂.slotsUsed).setVm hW'.alike, X.tail, State.WarmedH.trans X.warmed hW', X.limits, X.bytes, X.same.trans (hsame.setVm s.vm)⟩,
      ⟨g, mk, s₂, L, rfl, rfl, hqc, rfl, hL, rfl, rfl⟩, ?_⟩
    show Steps p.tables e below _ ((({ U with heap := s₂.heap, slotsUsed := s₂.slotsUsed } : State).setVm s₂.vm).setTop { g with pc := g.pc + len₂, stack := v.toList ++ g.stack })
    rw [← hs₂]
    exact hsteps
  · obtain ⟨e2, q2, q3, q4, q5, q6⟩ := id hsm
    have e3 : s₂ = ({ (U.calling g mk a).setFrames s₂.frames with heap := s₂.heap, slotsUsed := s₂.slotsUsed } : State).setVm s₂.vm := by
      have : s₂ = ({ s₂ with vm := (U.calling g mk a).vm } : State).setVm s₂.vm := rfl
      rw [e2] at this
      exact this
    have hf₂ : s₂.frames = .throwing q :: .java g :: U.frames.tail := hend
    have hW' : U.WarmedH s₂.vm := hW₂
    have hs₂ : s₂ = ((({ U with heap := s₂.heap, slotsUsed := s₂.slotsUsed } : State).setVm s₂.vm).setTop g).pushFrame (.throwing q) := by
      refine e3.trans ?_
      rw [hf₂, State.calling_eq h.top, State.setFrames_setFrames, State.pushFrame, State.frames_setTop _ hr', State.setTop_of_frames _ hr', State.setFrames_setFrames, hr]
      rfl
    have hsame : U.sameButNew ({ U with heap := s₂.heap, slotsUsed := s₂.slotsUsed } : State) L mc ms := by
      refine ⟨?_, q2, q3, q4, q5, q6⟩
      obtain ⟨t, ht, -⟩ := State.frames_cons hr
      show ({ U with heap := s₂.heap, slotsUsed := s₂.slotsUsed } : State) = { U.setFrames U.frames with heap := s₂.heap, slotsUsed := s₂.slotsUsed }
      rw [State.setFrames_self ht]
    subst hg
    refine Or.inr ⟨q, ⟨(({ U with heap := s₂.heap, slotsUsed := s₂.slotsUsed } : State).setVm s₂.vm), Ls ++ L, c0 + mc, s0 + ms⟩,
      ⟨X.admits, X.cas, X.clock, X.frames, X.room, X.hears, X.method, X.code, (X.here.setHeapUsed s₂.heap s₂.slotsUsed).setVm hW'.alike, X.tail, State.WarmedH.trans X.warmed hW', X.limits, X.bytes, X.same.trans (hsame.setVm s.vm)⟩,
      ⟨g, mk, s₂, L, E, ce, rfl, rfl, hx, hce, hcv, hcl, rfl, hL, rfl, rfl⟩, ?_⟩
    show Steps p.tables e below _ (((({ U with heap := s₂.heap, slotsUsed := s₂.slotsUsed } : State).setVm s₂.vm).setTop g).pushFrame (.throwing q))
    rw [← hs₂]
    exact hsteps
end
variable {p : Program} {l : Launch} {e : Env} {R : Room} {s : State} {m : MethodId} {args : Array Value} {below : List Frame} {meth : Method} {c : Code} {T : State} {H : Heap} {locs : List Loc} {cells slots : Nat}
theorem vx_callVX (X : Stand p l e R s m args below meth c T locs cells slots) (hexec : p.tables.exec = Jvm.exec) {own C : String} {index : Nat} {y : MethodName} {bytes : ByteArray} {maxL : Nat} {ret : Option FieldType} {hh : List (Nat × Nat × Nat × Nat)}
    (hown : s.vm.findClass own = some m.cls) (hlink : (Cond.methodLink own index y).before args s = true) (hinst : (Cond.instanceMethod y).before args s = true) (hsel : (Cond.selects C y y).before args s = true)
    (hcode : (Cond.codeWith y bytes maxL ret hh).before args s = true) (hy : y.cls ≠ "java/lang/invoke/MethodHandle" ∧ y.cls ≠ "java/lang/invoke/VarHandle")
    {W9 : Nat} {Pre : Pt → Array Value → Prop} {Post : Pt → Array Value → Option Value → Pt → Prop} {PostX : Pt → Array Value → Addr → Pt → Prop} (hK : vx_Back l R p e below s args y 3 W9 Pre Post PostX)
    {b : Addr} {cellB : Cell} (hcell : T.heap[b]? = some cellB) (hobj : cellB.vm.isStatics = false) (hcls : s.vm.findClass C = some cellB.cls)
    {g : JFrame} (hg : g.method = m) (hsize : g.locals.size = c.maxLocals) {argsL rest : List Value} (hlen : ∀ sig, parseMethodDescriptor y.desc = some sig → argsL.length = sig.parameters.length)
    (hstack : g.stack = argsL.reverse ++ .ref b :: rest) (hW : 2 * g.monitorRoom + (rest.map fun v => v.category).sum ≤ W9) (hdg : decode c.code g.pc = .ok (.invokevirtual index, 3))
    (hpre : ∀ vm₁, s.WarmedH vm₁ → Pre ⟨T.setVm vm₁, locs, cells, slots⟩ (Value.ref b :: argsL).toArray) :
    (∃ (v : Option Value) (vm₁ : Vm) (B : Pt), s.WarmedH vm₁ ∧ Stand p l e R s m args below meth c B.U B.locs B.cells B.slots ∧ Post ⟨T.setVm vm₁, locs, cells, slots⟩ (Value.ref b :: argsL).toArray v B ∧
      ∀ target, Steps p.tables e below (B.U.setTop { g with pc := g.pc + 3, stack := v.toList ++ rest }) target → Steps p.tables e below (T.setTop g) target) ∨
    (∃ (q : Addr) (vm₁ : Vm) (B : Pt), s.WarmedH vm₁ ∧ Stand p l e R s m args below meth c B.U B.locs B.cells B.slots ∧ PostX ⟨T.setVm vm₁, locs, cells, slots⟩ (Value.ref b :: argsL).toArray q B ∧
      Steps p.tables e below (T.setTop g) ((B.U.setTop { g with stack := rest }).pushFrame (.throwing q))) := by
  obtain ⟨mk, methM, hnamed, hmethM, hstM, habM⟩ := Cond.instanceMethod_spec hinst
  obtain ⟨m8, methM', cM, hn8, hmethM', -, -, -, -, -, -, hsigM⟩ := Cond.codeWith_spec hcode
  cases Option.some.inj (hn8.symm.trans hnamed)
  cases hmethM.symm.trans hmethM'
  obtain ⟨c2, r2, m2, q1, q2, q3, q4, kP, hkP, hkPi⟩ := Cond.selects_spec hsel
  cases hcls.symm.trans q1
  cases (State.methodFound?_of_named hnamed hy).symm.trans q2
  cases hnamed.symm.trans q3
  have hselP : selectMethod e.platform s.vm cellB.cls mk = .method mk := by rw [Launch.admits_selectMethod X.admits]; exact q4
  obtain ⟨vm₁, X₁, hstep₁⟩ := X.invokevirtual hexec hown hlink hnamed hmethM hstM hkP hkPi hy (a := b) (cell := cellB) hcell
    (fun z h => by rw [h] at hobj; cases hobj) hselP hmethM habM hkP hkPi (g := g) hg (argsL := argsL) (rest := rest) (hlen _ hsigM) hstack hdg
  rcases hK m meth c ⟨T.setVm vm₁, locs, cells, slots⟩ { g with stack := rest } (.invokevirtual index) mk (Value.ref b :: argsL).toArray X₁ hg hsize hdg hW (X₁.named hnamed) (hpre vm₁ X₁.warmed) with ⟨v, B, X', hpost, hsteps⟩ | ⟨q, B, X', hpost, hsteps⟩
  · exact Or.inl ⟨v, vm₁, B, X₁.warmed, X', hpost, fun target h => hstep₁ _ fun acts => by rw [doInvoke_state]; exact hsteps.trans h⟩
  · exact Or.inr ⟨q, vm₁, B, X₁.warmed, X', hpost, hstep₁ _ fun acts => by rw [doInvoke_state]; exact hsteps⟩
theorem vx_callSX (X : Stand p l e R s m args below meth c T locs cells slots) (hexec : p.tables.exec = Jvm.exec) {own : String} {index : Nat} {y : MethodName} {bytes : ByteArray} {maxL : Nat} {ret : Option FieldType} {hh : List (Nat × Nat × Nat × Nat)}
    (hown : s.vm.findClass own = some m.cls) (hlink : (Cond.methodLink own index y).before args s = true) (hstat : (Cond.static y).before args s = true) (hinit : (Cond.initialized y.cls).before args s = true)
    (hcode : (Cond.codeWith y bytes maxL ret hh).before args s = true) (hy : y.cls ≠ "java/lang/invoke/MethodHandle" ∧ y.cls ≠ "java/lang/invoke/VarHandle")
    {W9 : Nat} {Pre : Pt → Array Value → Prop} {Post : Pt → Array Value → Option Value → Pt → Prop} {PostX : Pt → Array Value → Addr → Pt → Prop} (hK : vx_Back l R p e below s args y 3 W9 Pre Post PostX)
    {g : JFrame} (hg : g.method = m) (hsize : g.locals.size = c.maxLocals) {argsL rest : List Value} (hlen : ∀ sig, parseMethodDescriptor y.desc = some sig → argsL.length = sig.parameters.length)
    (hstack : g.stack = argsL.reverse ++ rest) (hW : 2 * g.monitorRoom + (rest.map fun v => v.category).sum ≤ W9) (hdg : decode c.code g.pc = .ok (.invokestatic index, 3))
    (hpre : ∀ vm₁, s.WarmedH vm₁ → Pre ⟨T.setVm vm₁, locs, cells, slots⟩ argsL.toArray) :
    (∃ (v : Option Value) (vm₁ : Vm) (B : Pt), s.WarmedH vm₁ ∧ Stand p l e R s m args below meth c B.U B.locs B.cells B.slots ∧ Post ⟨T.setVm vm₁, locs, cells, slots⟩ argsL.toArray v B ∧
      ∀ target, Steps p.tables e below (B.U.setTop { g with pc := g.pc + 3, stack := v.toList ++ rest }) target → Steps p.tables e below (T.setTop g) target) ∨
    (∃ (q : Addr) (vm₁ : Vm) (B : Pt), s.WarmedH vm₁ ∧ Stand p l e R s m args below meth c B.U B.locs B.cells B.slots ∧ PostX ⟨T.setVm vm₁, locs, cells, slots⟩ argsL.toArray q B ∧
      Steps p.tables e below (T.setTop g) ((B.U.setTop { g with stack := rest }).pushFrame (.throwing q))) := by
  obtain ⟨mk, methM, cM, hnamed, hmethM, -, -, -, -, -, -, hsigM⟩ := Cond.codeWith_spec hcode
  have hstatic : methM.isStatic = true := Cond.static_spec hnamed hmethM hstat
  obtain ⟨kP, hkP, -⟩ := className_of_methodNamed hnamed
  have hinitP : kP.init = .initialized := Cond.initialized_spec (findClass_of_methodNamed hnamed) hkP hinit
  obtain ⟨vm₁, X₁, hstep₁⟩ := X.invokestatic hexec hown hlink hnamed hmethM hstatic hkP hinitP hy (g := g) hg (argsL := argsL) (rest := rest) (hlen _ hsigM) hstack hdg
  rcases hK m meth c ⟨T.setVm vm₁, locs, cells, slots⟩ { g with stack := rest } (.invokestatic index) mk argsL.toArray X₁ hg hsize hdg hW (X₁.named hnamed) (hpre vm₁ X₁.warmed) with ⟨v, B, X', hpost, hsteps⟩ | ⟨q, B, X', hpost, hsteps⟩
  · exact Or.inl ⟨v, vm₁, B, X₁.warmed, X', hpost, fun target h => hstep₁ _ fun acts => by rw [doInvoke_state]; exact hsteps.trans h⟩
  · exact Or.inr ⟨q, vm₁, B, X₁.warmed, X', hpost, hstep₁ _ fun acts => by rw [doInvoke_state]; exact hsteps⟩
theorem vx_callVW (X : Stand p l e R s m args below meth c T locs cells slots) (hexec : p.tables.exec = Jvm.exec) {own C : String} {index : Nat} {y : MethodName} {bytes : ByteArray} {maxL : Nat} {ret : Option FieldType} {hh : List (Nat × Nat × Nat × Nat)}
    (hown : s.vm.findClass own = some m.cls) (hlink : (Cond.methodLink own index y).before args s = true) (hinst : (Cond.instanceMethod y).before args s = true) (hsel : (Cond.selects C y y).before args s = true)
    (hcode : (Cond.codeWith y bytes maxL ret hh).before args s = true) (hy : y.cls ≠ "java/lang/invoke/MethodHandle" ∧ y.cls ≠ "java/lang/invoke/VarHandle")
    {W9 : Nat} {Pre : Pt → Array Value → Prop} {Post : Pt → Array Value → Option Value → Pt → Prop} (hK : Back l R p e below s args y 3 W9 Pre Post)
    {b : Addr} {cellB : Cell} (hcell : T.heap[b]? = some cellB) (hobj : cellB.vm.isStatics = false) (hcls : s.vm.findClass C = some cellB.cls)
    {g : JFrame} (hg : g.method = m) (hsize : g.locals.size = c.maxLocals) {argsL rest : List Value} (hlen : ∀ sig, parseMethodDescriptor y.desc = some sig → argsL.length = sig.parameters.length)
    (hstack : g.stack = argsL.reverse ++ .ref b :: rest) (hW : 2 * g.monitorRoom + (rest.map fun v => v.category).sum ≤ W9) (hdg : decode c.code g.pc = .ok (.invokevirtual index, 3))
    (hpre : ∀ vm₁, s.WarmedH vm₁ → Pre ⟨T.setVm vm₁, locs, cells, slots⟩ (Value.ref b :: argsL).toArray) :
    ∃ (v : Option Value) (vm₁ : Vm) (B : Pt), s.WarmedH vm₁ ∧ Stand p l e R s m args below meth c B.U B.locs B.cells B.slots ∧ Post ⟨T.setVm vm₁, locs, cells, slots⟩ (Value.ref b :: argsL).toArray v B ∧
      ∀ target, Steps p.tables e below (B.U.setTop { g with pc := g.pc + 3, stack := v.toList ++ rest }) target → Steps p.tables e below (T.setTop g) target := by
  obtain ⟨mk, methM, hnamed, hmethM, hstM, habM⟩ := Cond.instanceMethod_spec hinst
  obtain ⟨m8, methM', cM, hn8, hmethM', -, -, -, -, -, -, hsigM⟩ := Cond.codeWith_spec hcode
  cases Option.some.inj (hn8.symm.trans hnamed)
  cases hmethM.symm.trans hmethM'
  obtain ⟨c2, r2, m2, q1, q2, q3, q4, kP, hkP, hkPi⟩ := Cond.selects_spec hsel
  cases hcls.symm.trans q1
  cases (State.methodFound?_of_named hnamed hy).symm.trans q2
  cases hnamed.symm.trans q3
  have hselP : selectMethod e.platform s.vm cellB.cls mk = .method mk := by rw [Launch.admits_selectMethod X.admits]; exact q4
  obtain ⟨vm₁, X₁, hstep₁⟩ := X.invokevirtual hexec hown hlink hnamed hmethM hstM hkP hkPi hy (a := b) (cell := cellB) hcell
    (fun z h => by rw [h] at hobj; cases hobj) hselP hmethM habM hkP hkPi (g := g) hg (argsL := argsL) (rest := rest) (hlen _ hsigM) hstack hdg
  obtain ⟨v, B, X', hpost, hsteps⟩ := hK m meth c ⟨T.setVm vm₁, locs, cells, slots⟩ { g with stack := rest } (.invokevirtual index) mk (Value.ref b :: argsL).toArray X₁ hg hsize hdg hW (X₁.named hnamed) (hpre vm₁ X₁.warmed)
  exact ⟨v, vm₁, B, X₁.warmed, X', hpost, fun target h => hstep₁ _ fun acts => by rw [doInvoke_state]; exact hsteps.trans h⟩
abbrev vx_CVW (R : Room) (s : State) (args : Array Value) (own C : String) (index : Nat) (y : MethodName) (bytes : ByteArray) (maxL : Nat) (ret : Option FieldType) (hh : List (Nat × Nat × Nat × Nat)) (ws : List Cond) (rm : Room) (mc ms n : Nat) : Prop :=
  (rm.cells = mc ∧ rm.slots = ms ∧ rm.frames + 1 ≤ R.frames ∧ 8 + (maxL + 11) + rm.locals ≤ R.locals ∧ (∀ w ∈ ws, ∀ (a' : Array Value) (U : State), s.WarmedH U.vm → w.before a' U = true) ∧ Cond.codeWith y bytes maxL ret hh ∈ ws) ∧
  (Cond.codeWith y bytes maxL ret hh).before args s = true ∧ (Cond.initialized y.cls).before args s = true ∧ (y.cls ≠ "java/lang/invoke/MethodHandle" ∧ y.cls ≠ "java/lang/invoke/VarHandle") ∧
  (∀ sig, parseMethodDescriptor y.desc = some sig → n = sig.parameters.length) ∧ (Cond.methodLink own index y).before args s = true ∧ (Cond.instanceMethod y).before args s = true ∧ (Cond.selects C y y).before args s = true
theorem vx_cwVW {own C : String} {index maxL mc ms : Nat} {y : MethodName} {bytes : ByteArray} {ret : Option FieldType} {hh : List (Nat × Nat × Nat × Nat)} {Ts ws ws' : List Cond} {rm : Room} (n : Nat) (ht : ∀ w ∈ Ts, w.before args s = true) (hT : GoodIn Ts (wsV own index C y ws)) (hw : ws = Cond.codeWith y bytes maxL ret hh :: ws') (hrc : rm.cells = mc) (hrs : rm.slots = ms)
    (hd : y.cls = C ∧ y.cls ≠ "java/lang/invoke/MethodHandle" ∧ y.cls ≠ "java/lang/invoke/VarHandle" ∧ (parseMethodDescriptor y.desc).map (fun d => d.parameters.length) = some n) (hR : rm.frames + 1 ≤ R.frames ∧ 8 + (maxL + 11) + rm.locals ≤ R.locals) :
    vx_CVW R s args own C index y bytes maxL ret hh ws rm mc ms n := by
  obtain ⟨hC, hd⟩ := hd
  subst hC
  have ok : ∀ w ∈ wsV own index y.cls y ws, w.before args s = true := fun w h => ht w (hT w h).1
  have hG : GoodIn Ts ws := fun w h => hT w (by unfold wsV; exact List.mem_append_right _ h)
  have hc : Cond.codeWith y bytes maxL ret hh ∈ ws := by rw [hw]; exact List.mem_cons_self
  refine ⟨⟨hrc, hrs, hR.1, hR.2, pay_in ht hG, hc⟩, ht _ (hG _ hc).1, ok _ (by simp [wsV]), ⟨hd.1, hd.2.1⟩, fun sig h => ?_, ok _ (by simp [wsV]), ok _ (by simp [wsV]), ok _ (by simp [wsV])⟩
  have h2 := hd.2.2
  rw [h] at h2
  exact (Option.some.inj h2).symm
theorem vx_runVW {y : MethodName} {bytes cc : ByteArray} {maxL nL mc ms n index : Nat} {ret : Option FieldType} {hh : List (Nat × Nat × Nat × Nat)} {ws : List Cond} {rm : Room} {Pc : Array Value → State → Prop} {Qc : Array Value → State → Outcome → State → Prop} {free : Addr → Prop} {Ts : List Cond} {own C : String} {b : Addr} {As rest : List Value} {g : JFrame}
    (S : CallFix p m c cc nL s args Ts own) (hM : Met l y ws rm Pc Qc mc ms free) (cw : vx_CVW R s args own C index y bytes maxL ret hh ws rm mc ms n) (hp : PreV s H C b Pc As)
    (hg : g.method = m) (hn : As.length = n) (hsize : g.locals.size = nL) (hstack : g.stack = As.reverse ++ .ref b :: rest) (hW : 2 * g.monitorRoom + (rest.map fun v => v.category).sum ≤ 8) (hdg : decode cc g.pc = .ok (.invokevirtual index, 3)) (hf : cells + mc ≤ R.cells ∧ slots + ms ≤ R.slots) :
    va_Run p l e R s m args below meth c H locs cells slots mc ms g rest (Qc (Value.ref b :: As).toArray) free := by
  obtain ⟨⟨hrc, hrs, hfr, hlo, hws, hcw⟩, hcode, hini, hy, hlen, hl, hin, hse⟩ := cw
  have hK : Back l R p e below s args y 3 8 (PreOf R mc ms Pc) (PostOf Qc mc ms free) := va_backW (hh := hh) (bytes := bytes) (maxL := maxL) (ret := ret) hM hp.1 hrc hrs hfr hlo hws hcw (fun a' U hW => word_at hW (Or.inl (by first | rfl | simp [Cond.onTables, Cond.keeps, Cond.steady])) hini)
  obtain ⟨hx, hb, hml, ho, -⟩ := S
  obtain ⟨-, ⟨cellB, hcB, hoB, hclB⟩, hPc⟩ := hp
  intro T hT X
  obtain ⟨v, vm₁, ⟨U', l2, c2, s2⟩, hW₁, X', ⟨g', mk, t, L, e1, e2, hq, h1, hL, h2, h3⟩, st⟩ := vx_callVW X hx (C := C) (hh := hh) (bytes := bytes) (maxL := maxL) (ret := ret) ho hl hin hse hcode hy hK (by rw [hT]; exact hcB) hoB hclB hg (hsize.trans hml.symm) (argsL := As) (rest := rest) (fun sig h => hn.trans (hlen sig h)) hstack hW (by rw [hb]; exact hdg)
    (fun vm₁ hW₁ => ⟨hf.1, hf.2, hPc (T.setVm vm₁) hT hW₁⟩)
  dsimp only [Pt.U, Pt.locs, Pt.cells, Pt.slots] at X' e1 e2 h1 h2 h3 st
  subst h1; subst h2; subst h3
  exact ⟨v, (T.setVm vm₁).calling g' mk (Value.ref b :: As).toArray, t, U', L, hT, X', hL, e1, e2, hq, st⟩
section
variable {y : MethodName} {bytes cc : ByteArray} {maxL nL mc ms n index : Nat} {ret : Option FieldType} {ws : List Cond} {rm : Room} {Pc : Array Value → State → Prop} {Qc : Array Value → State → Outcome → State → Prop} {XC : String → State → State → Prop} {free : Addr → Prop} {Ts : List Cond} {own C : String} {b : Addr} {As rest : List Value} {g : JFrame}
theorem vx_runVX {hh : List (Nat × Nat × Nat × Nat)} (S : CallFix p m c cc nL s args Ts own) (hM : vx_Met l y ws rm Pc Qc XC mc ms free) (cw : vx_CVW R s args own C index y bytes maxL ret hh ws rm mc ms n) (hp : PreV s H C b Pc As)
    (hg : g.method = m) (hn : As.length = n) (hsize : g.locals.size = nL) (hstack : g.stack = As.reverse ++ .ref b :: rest) (hW : 2 * g.monitorRoom + (rest.map fun v => v.category).sum ≤ 8) (hdg : decode cc g.pc = .ok (.invokevirtual index, 3)) (hf : cells + mc ≤ R.cells ∧ slots + ms ≤ R.slots) :
    vx_Run p l e R s m args below meth c H locs cells slots mc ms g rest (Qc (Value.ref b :: As).toArray) XC free := by
  obtain ⟨⟨hrc, hrs, hfr, hlo, hws, hcw⟩, hcode, hini, hy, hlen, hl, hin, hse⟩ := cw
  have hK : vx_Back l R p e below s args y 3 8 (PreOf R mc ms Pc) (PostOf Qc mc ms free) (vx_Post XC mc ms free) := vx_backW (hh := hh) (bytes := bytes) (maxL := maxL) (ret := ret) hM hp.1 hrc hrs hfr hlo hws hcw (fun a' U hW => word_at hW (Or.inl (by first | rfl | simp [Cond.onTables, Cond.keeps, Cond.steady])) hini)
  obtain ⟨hx, hb, hml, ho, -⟩ := S
  obtain ⟨-, ⟨cellB, hcB, hoB, hclB⟩, hPc⟩ := hp
  intro T hT X
  rcases vx_callVX X hx (C := C) (hh := hh) (bytes := bytes) (maxL := maxL) (ret := ret) ho hl hin hse hcode hy hK (by rw [hT]; exact hcB) hoB hclB hg (hsize.trans hml.symm) (argsL := As) (rest := rest) (fun sig h => hn.trans (hlen sig h)) hstack hW (by rw [hb]; exact hdg)
    (fun vm₁ hW₁ => ⟨hf.1, hf.2, hPc (T.setVm vm₁) hT hW₁⟩) with ⟨v, vm₁, ⟨U', l2, c2, s2⟩, hW₁, X', ⟨g', mk, t, L, e1, e2, hq, h1, hL, h2, h3⟩, st⟩ | ⟨q, vm₁, ⟨U', l2, c2, s2⟩, hW₁, X', ⟨g', mk, t, L, E, ce, e1, e2, hq, hce, hcv, hcl, h1, hL, h2, h3⟩, st⟩
  · dsimp only [Pt.U, Pt.locs, Pt.cells, Pt.slots] at X' e1 e2 h1 h2 h3 st
    subst h1; subst h2; subst h3
    exact Or.inl ⟨v, (T.setVm vm₁).calling g' mk (Value.ref b :: As).toArray, t, U', L, hT, X', hL, e1, e2, hq, st⟩
  · dsimp only [Pt.U, Pt.locs, Pt.cells, Pt.slots] at X' e1 e2 h1 h2 h3 st hcl
    subst h1; subst h2; subst h3
    exact Or.inr ⟨q, (T.setVm vm₁).calling g' mk (Value.ref b :: As).toArray, t, U', L, E, ce, hT, X', hL, e1, e2, hq, hce, hcv, vx_cls hW₁ hcl, st⟩
theorem vx_runSX {hh : List (Nat × Nat × Nat × Nat)} (S : CallFix p m c cc nL s args Ts own) (hM : vx_Met l y ws rm Pc Qc XC mc ms free) (cw : vx_CSW R s args own index y bytes maxL ret hh ws rm mc ms n) (hp : PreS s H Pc As)
    (hg : g.method = m) (hn : As.length = n) (hsize : g.locals.size = nL) (hstack : g.stack = As.reverse ++ rest) (hW : 2 * g.monitorRoom + (rest.map fun v => v.category).sum ≤ 8) (hdg : decode cc g.pc = .ok (.invokestatic index, 3)) (hf : cells + mc ≤ R.cells ∧ slots + ms ≤ R.slots) :
    vx_Run p l e R s m args below meth c H locs cells slots mc ms g rest (Qc As.toArray) XC free := by
  obtain ⟨⟨hrc, hrs, hfr, hlo, hws, hcw⟩, hcode, hini, hy, hlen, hl, hstt⟩ := cw
  have hK : vx_Back l R p e below s args y 3 8 (PreOf R mc ms Pc) (PostOf Qc mc ms free) (vx_Post XC mc ms free) := vx_backW (hh := hh) (bytes := bytes) (maxL := maxL) (ret := ret) hM hp.1 hrc hrs hfr hlo hws hcw (fun a' U hW => word_at hW (Or.inl (by first | rfl | simp [Cond.onTables, Cond.keeps, Cond.steady])) hini)
  obtain ⟨hx, hb, hml, ho, -⟩ := S
  intro T hT X
  rcases vx_callSX X hx (hh := hh) (bytes := bytes) (maxL := maxL) (ret := ret) ho hl hstt hini hcode hy hK hg (hsize.trans hml.symm) (argsL := As) (rest := rest) (fun sig h => hn.trans (hlen sig h)) hstack hW (by rw [hb]; exact hdg)
    (fun vm₁ hW₁ => ⟨hf.1, hf.2, hp.2 (T.setVm vm₁) hT hW₁⟩) with ⟨v, vm₁, ⟨U', l2, c2, s2⟩, hW₁, X', ⟨g', mk, t, L, e1, e2, hq, h1, hL, h2, h3⟩, st⟩ | ⟨q, vm₁, ⟨U', l2, c2, s2⟩, hW₁, X', ⟨g', mk, t, L, E, ce, e1, e2, hq, hce, hcv, hcl, h1, hL, h2, h3⟩, st⟩
  · dsimp only [Pt.U, Pt.locs, Pt.cells, Pt.slots] at X' e1 e2 h1 h2 h3 st
    subst h1; subst h2; subst h3
    exact Or.inl ⟨v, (T.setVm vm₁).calling g' mk As.toArray, t, U', L, hT, X', hL, e1, e2, hq, st⟩
  · dsimp only [Pt.U, Pt.locs, Pt.cells, Pt.slots] at X' e1 e2 h1 h2 h3 st hcl
    subst h1; subst h2; subst h3
    exact Or.inr ⟨q, (T.setVm vm₁).calling g' mk As.toArray, t, U', L, E, ce, hT, X', hL, e1, e2, hq, hce, hcv, vx_cls hW₁ hcl, st⟩
end
end VXH
theorem vx_ofWH {l : Launch} {y : MethodName} {ws ws' : List Cond} {rm : Room} {Pc : Array Value → State → Prop} {Qc : Array Value → State → Outcome → State → Prop} {XC : String → State → State → Prop} {mc ms : Nat} {free : Addr → Prop} {cc : ByteArray} {maxL : Nat} {ret : Option FieldType} {hh : List (Nat × Nat × Nat × Nat)}
    (hy : plainName y.cls = true) (hw : ws = Cond.codeWith y cc maxL ret hh :: ws')
    (body : ∀ p e s m args below meth c s₁, BodyLoose p l y (headSpec ws rm) cc maxL ret e s m args below meth c s₁ → c.maxLocals = maxL → Pc args s →
      W p l e (headSpec ws rm).room s m args below meth c s.heap [] 0 0 (vx_MQ below Qc XC args s mc ms free) (entryFrame m args maxL)) : vx_Met l y ws rm Pc Qc XC mc ms free := by
  refine MetFree.of_bodyS (code := cc) (maxLocals := maxL) (ret := ret) hy ?_ ?_
  · intro args s m h hn
    obtain ⟨m9, meth, c, hn9, h1, h2, h3, h4, -, h5, h6, -⟩ := Cond.codeWith_spec (atoms_spec (ws := ws) h _ (by rw [hw]; exact List.mem_cons_self))
    cases hn.symm.trans hn9
    exact ⟨meth, c, h1, h2, h3, h4, h5, h6⟩
  · intro p e s m args below meth c s₁ B hml hP _
    have hh0 : s₁.heap = s.heap := by rw [B.state]; rfl
    obtain ⟨t, a1, o, b1, b2, b3⟩ := body p e s m args below meth c s₁ B hml hP s₁ hh0 (Stand.of_body B)
    exact ⟨t, o, a1, b1, b2, b3⟩
/-! ===== END ===== -/

def RX0 : String := "BellHush"
def TX0 : u_T := fun k => match k with
  | 0 => ("BellHush", "loudness", "[I", true)
  | 1 => ("BellHush", "period", "[I", true)
  | 2 => ("BellHush", "silence", "[I", true)
  | 3 => ("BellHush", "untilStroke", "[I", true)
  | 4 => ("BellHush", "strokes", "[I", true)
  | 5 => ("BellHush", "purse", "[I", true)
  | 6 => ("BellHush", "held", "[[I", true)
  | 7 => ("BellHush", "second", "I", false)
  | 8 => ("BellHush", "towerCount", "I", false)
  | _ => ("BellHush", "traderCount", "I", false)
def tyX0 : Nat → FieldType := fun k => match k with
  | 0 => .array .int
  | 1 => .array .int
  | 2 => .array .int
  | 3 => .array .int
  | 4 => .array .int
  | 5 => .array .int
  | 6 => .array (.array .int)
  | 7 => .int
  | 8 => .int
  | _ => .int
abbrev wsX00 : List Cond := u_ws RX0 TX0 10
theorem nmX0 : ∀ a, a < 10 → ∀ b, b < 10 → a ≠ b → (TX0 a).2.1 ≠ (TX0 b).2.1 := by decide +kernel
theorem tyX0_ok : ∀ k, k < 10 → parseFieldDescriptor (TX0 k).2.2.1 = some (tyX0 k) := by decide +kernel
abbrev cX0_init : ByteArray := prog_1_method_1_code
def yX0_init : MethodName := ⟨RX0, "<init>", "()V"⟩
abbrev cX0_list : ByteArray := prog_1_method_2_code
def yX0_list : MethodName := ⟨RX0, "list", "(III)I"⟩
abbrev cX0_addTrader : ByteArray := prog_1_method_3_code
def yX0_addTrader : MethodName := ⟨RX0, "addTrader", "()I"⟩
abbrev cX0_buy : ByteArray := prog_1_method_4_code
def yX0_buy : MethodName := ⟨RX0, "buy", "(III)I"⟩
abbrev cX0_sell : ByteArray := prog_1_method_5_code
def yX0_sell : MethodName := ⟨RX0, "sell", "(III)I"⟩
abbrev cX0_pass : ByteArray := prog_1_method_6_code
def yX0_pass : MethodName := ⟨RX0, "pass", "(I)I"⟩
abbrev cX0_second : ByteArray := prog_1_method_7_code
def yX0_second : MethodName := ⟨RX0, "second", "()I"⟩
abbrev cX0_towers : ByteArray := prog_1_method_8_code
def yX0_towers : MethodName := ⟨RX0, "towers", "()I"⟩
abbrev cX0_silenceOf : ByteArray := prog_1_method_9_code
def yX0_silenceOf : MethodName := ⟨RX0, "silenceOf", "(I)I"⟩
abbrev cX0_dovesOn : ByteArray := prog_1_method_10_code
def yX0_dovesOn : MethodName := ⟨RX0, "dovesOn", "(I)I"⟩
abbrev cX0_priceOf : ByteArray := prog_1_method_11_code
def yX0_priceOf : MethodName := ⟨RX0, "priceOf", "(I)I"⟩
abbrev cX0_secondsUntilStroke : ByteArray := prog_1_method_12_code
def yX0_secondsUntilStroke : MethodName := ⟨RX0, "secondsUntilStroke", "(I)I"⟩
abbrev cX0_strokesOf : ByteArray := prog_1_method_13_code
def yX0_strokesOf : MethodName := ⟨RX0, "strokesOf", "(I)I"⟩
abbrev cX0_openSeconds : ByteArray := prog_1_method_14_code
def yX0_openSeconds : MethodName := ⟨RX0, "openSeconds", "(I)I"⟩
abbrev cX0_dearest : ByteArray := prog_1_method_15_code
def yX0_dearest : MethodName := ⟨RX0, "dearest", "()I"⟩
abbrev cX0_nextToStrike : ByteArray := prog_1_method_16_code
def yX0_nextToStrike : MethodName := ⟨RX0, "nextToStrike", "()I"⟩
abbrev cX0_traders : ByteArray := prog_1_method_17_code
def yX0_traders : MethodName := ⟨RX0, "traders", "()I"⟩
abbrev cX0_purseOf : ByteArray := prog_1_method_18_code
def yX0_purseOf : MethodName := ⟨RX0, "purseOf", "(I)I"⟩
abbrev cX0_holds : ByteArray := prog_1_method_19_code
def yX0_holds : MethodName := ⟨RX0, "holds", "(II)I"⟩
abbrev cX0_worthOf : ByteArray := prog_1_method_20_code
def yX0_worthOf : MethodName := ⟨RX0, "worthOf", "(I)I"⟩
abbrev cX0_richest : ByteArray := prog_1_method_21_code
def yX0_richest : MethodName := ⟨RX0, "richest", "()I"⟩
abbrev cX0_shortsOf : ByteArray := prog_1_method_22_code
def yX0_shortsOf : MethodName := ⟨RX0, "shortsOf", "(I)I"⟩
abbrev cX0_inDebt : ByteArray := prog_1_method_23_code
def yX0_inDebt : MethodName := ⟨RX0, "inDebt", "()I"⟩
abbrev cX0_closingPrice : ByteArray := prog_1_method_24_code
def yX0_closingPrice : MethodName := ⟨RX0, "closingPrice", "(I)I"⟩
abbrev cX0_priceIn : ByteArray := prog_1_method_25_code
def yX0_priceIn : MethodName := ⟨RX0, "priceIn", "(II)I"⟩
abbrev cX0_worthIn : ByteArray := prog_1_method_26_code
def yX0_worthIn : MethodName := ⟨RX0, "worthIn", "(II)I"⟩
abbrev cX0_bestToBuy : ByteArray := prog_1_method_27_code
def yX0_bestToBuy : MethodName := ⟨RX0, "bestToBuy", "()I"⟩
abbrev cX0_bestToSell : ByteArray := prog_1_method_28_code
def yX0_bestToSell : MethodName := ⟨RX0, "bestToSell", "(II)I"⟩
abbrev cX0_secondsUntilDebt : ByteArray := prog_1_method_29_code
def yX0_secondsUntilDebt : MethodName := ⟨RX0, "secondsUntilDebt", "(I)I"⟩
abbrev cX0_meanPrice : ByteArray := prog_1_method_30_code
def yX0_meanPrice : MethodName := ⟨RX0, "meanPrice", "()D"⟩
abbrev cX0_digest : ByteArray := prog_1_method_31_code
def yX0_digest : MethodName := ⟨RX0, "digest", "()J"⟩
abbrev cX0_requireTower : ByteArray := prog_1_method_32_code
def yX0_requireTower : MethodName := ⟨RX0, "requireTower", "(I)V"⟩
abbrev cX0_requireTrader : ByteArray := prog_1_method_33_code
def yX0_requireTrader : MethodName := ⟨RX0, "requireTrader", "(I)V"⟩
abbrev cX0_requireTradable : ByteArray := prog_1_method_34_code
def yX0_requireTradable : MethodName := ⟨RX0, "requireTradable", "(I)V"⟩
abbrev cX0_requirePassable : ByteArray := prog_1_method_35_code
def yX0_requirePassable : MethodName := ⟨RX0, "requirePassable", "(I)V"⟩
abbrev cX0_goOneSecond : ByteArray := prog_1_method_36_code
def yX0_goOneSecond : MethodName := ⟨RX0, "goOneSecond", "()I"⟩
abbrev cX0_strike : ByteArray := prog_1_method_37_code
def yX0_strike : MethodName := ⟨RX0, "strike", "(I)V"⟩
abbrev cX0_price : ByteArray := prog_1_method_38_code
def yX0_price : MethodName := ⟨RX0, "price", "(III)I"⟩
abbrev cX0_dovesNow : ByteArray := prog_1_method_39_code
def yX0_dovesNow : MethodName := ⟨RX0, "dovesNow", "(I)I"⟩
abbrev cX0_dovesFor : ByteArray := prog_1_method_40_code
def yX0_dovesFor : MethodName := ⟨RX0, "dovesFor", "(I)I"⟩
abbrev cX0_priceNow : ByteArray := prog_1_method_41_code
def yX0_priceNow : MethodName := ⟨RX0, "priceNow", "(I)I"⟩
abbrev cX0_closing : ByteArray := prog_1_method_42_code
def yX0_closing : MethodName := ⟨RX0, "closing", "(I)I"⟩
abbrev cX0_closingWith : ByteArray := prog_1_method_43_code
def yX0_closingWith : MethodName := ⟨RX0, "closingWith", "(II)I"⟩
abbrev cX0_riseUntilStroke : ByteArray := prog_1_method_44_code
def yX0_riseUntilStroke : MethodName := ⟨RX0, "riseUntilStroke", "(I)I"⟩
abbrev cX0_priceBehind : ByteArray := prog_1_method_45_code
def yX0_priceBehind : MethodName := ⟨RX0, "priceBehind", "(II)I"⟩
abbrev cX0_heldByAll : ByteArray := prog_1_method_46_code
def yX0_heldByAll : MethodName := ⟨RX0, "heldByAll", "(I)I"⟩
abbrev cX0_shortTowers : ByteArray := prog_1_method_47_code
def yX0_shortTowers : MethodName := ⟨RX0, "shortTowers", "(I)I"⟩
abbrev cX0_worthBehind : ByteArray := prog_1_method_48_code
def yX0_worthBehind : MethodName := ⟨RX0, "worthBehind", "(II)I"⟩
abbrev cX0_closedIn : ByteArray := prog_1_method_49_code
def yX0_closedIn : MethodName := ⟨RX0, "closedIn", "(II)I"⟩
abbrev cX0_yieldOfSelling : ByteArray := prog_1_method_50_code
def yX0_yieldOfSelling : MethodName := ⟨RX0, "yieldOfSelling", "(III)I"⟩
abbrev cX0_mixed : ByteArray := prog_1_method_51_code
def yX0_mixed : MethodName := ⟨RX0, "mixed", "(JI)J"⟩
abbrev cX0_mixedTower : ByteArray := prog_1_method_52_code
def yX0_mixedTower : MethodName := ⟨RX0, "mixedTower", "(JI)J"⟩
abbrev cX0_mixedTrader : ByteArray := prog_1_method_53_code
def yX0_mixedTrader : MethodName := ⟨RX0, "mixedTrader", "(JI)J"⟩
def RX1 : String := "BellHushModel"
def TX1 : u_T := fun k => match k with
  | 0 => ("BellHushModel", "thrown", "I", false)
  | 1 => ("BellHushModel", "towers", "I", false)
  | 2 => ("BellHushModel", "traders", "I", false)
  | 3 => ("BellHushModel", "loud", "[I", true)
  | 4 => ("BellHushModel", "period", "[I", true)
  | 5 => ("BellHushModel", "beat", "[I", true)
  | 6 => ("BellHushModel", "now", "[I", true)
  | _ => ("BellHushModel", "kept", "[I", true)
def tyX1 : Nat → FieldType := fun k => match k with
  | 0 => .int
  | 1 => .int
  | 2 => .int
  | 3 => .array .int
  | 4 => .array .int
  | 5 => .array .int
  | 6 => .array .int
  | _ => .array .int
abbrev wsX10 : List Cond := u_ws RX1 TX1 8
theorem nmX1 : ∀ a, a < 8 → ∀ b, b < 8 → a ≠ b → (TX1 a).2.1 ≠ (TX1 b).2.1 := by decide +kernel
theorem tyX1_ok : ∀ k, k < 8 → parseFieldDescriptor (TX1 k).2.2.1 = some (tyX1 k) := by decide +kernel
abbrev cX1_init : ByteArray := prog_3_method_1_code
def yX1_init : MethodName := ⟨RX1, "<init>", "()V"⟩
abbrev cX1_thrown : ByteArray := prog_3_method_2_code
def yX1_thrown : MethodName := ⟨RX1, "thrown", "()I"⟩
abbrev cX1_fail : ByteArray := prog_3_method_3_code
def yX1_fail : MethodName := ⟨RX1, "fail", "(I)I"⟩
abbrev cX1_told : ByteArray := prog_3_method_4_code
def yX1_told : MethodName := ⟨RX1, "told", "(I)I"⟩
abbrev cX1_isIn : ByteArray := prog_3_method_5_code
def yX1_isIn : MethodName := ⟨RX1, "isIn", "(III)Z"⟩
abbrev cX1_isTower : ByteArray := prog_3_method_6_code
def yX1_isTower : MethodName := ⟨RX1, "isTower", "(I)Z"⟩
abbrev cX1_isTrader : ByteArray := prog_3_method_7_code
def yX1_isTrader : MethodName := ⟨RX1, "isTrader", "(I)Z"⟩
abbrev cX1_keep : ByteArray := prog_3_method_8_code
def yX1_keep : MethodName := ⟨RX1, "keep", "()V"⟩
abbrev cX1_bringBack : ByteArray := prog_3_method_9_code
def yX1_bringBack : MethodName := ⟨RX1, "bringBack", "()V"⟩
abbrev cX1_at : ByteArray := prog_3_method_10_code
def yX1_at : MethodName := ⟨RX1, "at", "(II)I"⟩
abbrev cX1_doves : ByteArray := prog_3_method_11_code
def yX1_doves : MethodName := ⟨RX1, "doves", "(I)I"⟩
abbrev cX1_priceBehind : ByteArray := prog_3_method_12_code
def yX1_priceBehind : MethodName := ⟨RX1, "priceBehind", "(II)I"⟩
abbrev cX1_price : ByteArray := prog_3_method_13_code
def yX1_price : MethodName := ⟨RX1, "price", "(I)I"⟩
abbrev cX1_until : ByteArray := prog_3_method_14_code
def yX1_until : MethodName := ⟨RX1, "until", "(I)I"⟩
abbrev cX1_secondOn : ByteArray := prog_3_method_15_code
def yX1_secondOn : MethodName := ⟨RX1, "secondOn", "()I"⟩
abbrev cX1_secondsOn : ByteArray := prog_3_method_16_code
def yX1_secondsOn : MethodName := ⟨RX1, "secondsOn", "(I)I"⟩
abbrev cX1_list : ByteArray := prog_3_method_17_code
def yX1_list : MethodName := ⟨RX1, "list", "(III)I"⟩
abbrev cX1_addTrader : ByteArray := prog_3_method_18_code
def yX1_addTrader : MethodName := ⟨RX1, "addTrader", "()I"⟩
abbrev cX1_can : ByteArray := prog_3_method_19_code
def yX1_can : MethodName := ⟨RX1, "can", "(III)Z"⟩
abbrev cX1_buy : ByteArray := prog_3_method_20_code
def yX1_buy : MethodName := ⟨RX1, "buy", "(III)I"⟩
abbrev cX1_sold : ByteArray := prog_3_method_21_code
def yX1_sold : MethodName := ⟨RX1, "sold", "(III)I"⟩
abbrev cX1_sell : ByteArray := prog_3_method_22_code
def yX1_sell : MethodName := ⟨RX1, "sell", "(III)I"⟩
abbrev cX1_pass : ByteArray := prog_3_method_23_code
def yX1_pass : MethodName := ⟨RX1, "pass", "(I)I"⟩
abbrev cX1_second : ByteArray := prog_3_method_24_code
def yX1_second : MethodName := ⟨RX1, "second", "()I"⟩
abbrev cX1_towers : ByteArray := prog_3_method_25_code
def yX1_towers : MethodName := ⟨RX1, "towers", "()I"⟩
abbrev cX1_silenceOf : ByteArray := prog_3_method_26_code
def yX1_silenceOf : MethodName := ⟨RX1, "silenceOf", "(I)I"⟩
abbrev cX1_dovesOn : ByteArray := prog_3_method_27_code
def yX1_dovesOn : MethodName := ⟨RX1, "dovesOn", "(I)I"⟩
abbrev cX1_priceOf : ByteArray := prog_3_method_28_code
def yX1_priceOf : MethodName := ⟨RX1, "priceOf", "(I)I"⟩
abbrev cX1_secondsUntilStroke : ByteArray := prog_3_method_29_code
def yX1_secondsUntilStroke : MethodName := ⟨RX1, "secondsUntilStroke", "(I)I"⟩
abbrev cX1_strokesOf : ByteArray := prog_3_method_30_code
def yX1_strokesOf : MethodName := ⟨RX1, "strokesOf", "(I)I"⟩
abbrev cX1_open : ByteArray := prog_3_method_31_code
def yX1_open : MethodName := ⟨RX1, "open", "(I)I"⟩
abbrev cX1_openSeconds : ByteArray := prog_3_method_32_code
def yX1_openSeconds : MethodName := ⟨RX1, "openSeconds", "(I)I"⟩
abbrev cX1_dear : ByteArray := prog_3_method_33_code
def yX1_dear : MethodName := ⟨RX1, "dear", "()I"⟩
abbrev cX1_dearest : ByteArray := prog_3_method_34_code
def yX1_dearest : MethodName := ⟨RX1, "dearest", "()I"⟩
abbrev cX1_next : ByteArray := prog_3_method_35_code
def yX1_next : MethodName := ⟨RX1, "next", "()I"⟩
abbrev cX1_nextToStrike : ByteArray := prog_3_method_36_code
def yX1_nextToStrike : MethodName := ⟨RX1, "nextToStrike", "()I"⟩
abbrev cX1_traders : ByteArray := prog_3_method_37_code
def yX1_traders : MethodName := ⟨RX1, "traders", "()I"⟩
abbrev cX1_purseOf : ByteArray := prog_3_method_38_code
def yX1_purseOf : MethodName := ⟨RX1, "purseOf", "(I)I"⟩
abbrev cX1_holds : ByteArray := prog_3_method_39_code
def yX1_holds : MethodName := ⟨RX1, "holds", "(II)I"⟩
abbrev cX1_worth : ByteArray := prog_3_method_40_code
def yX1_worth : MethodName := ⟨RX1, "worth", "(I)I"⟩
abbrev cX1_worthOf : ByteArray := prog_3_method_41_code
def yX1_worthOf : MethodName := ⟨RX1, "worthOf", "(I)I"⟩
abbrev cX1_rich : ByteArray := prog_3_method_42_code
def yX1_rich : MethodName := ⟨RX1, "rich", "()I"⟩
abbrev cX1_richest : ByteArray := prog_3_method_43_code
def yX1_richest : MethodName := ⟨RX1, "richest", "()I"⟩
abbrev cX1_shorts : ByteArray := prog_3_method_44_code
def yX1_shorts : MethodName := ⟨RX1, "shorts", "(I)I"⟩
abbrev cX1_shortsOf : ByteArray := prog_3_method_45_code
def yX1_shortsOf : MethodName := ⟨RX1, "shortsOf", "(I)I"⟩
abbrev cX1_owing : ByteArray := prog_3_method_46_code
def yX1_owing : MethodName := ⟨RX1, "owing", "()I"⟩
abbrev cX1_inDebt : ByteArray := prog_3_method_47_code
def yX1_inDebt : MethodName := ⟨RX1, "inDebt", "()I"⟩
abbrev cX1_closing : ByteArray := prog_3_method_48_code
def yX1_closing : MethodName := ⟨RX1, "closing", "(I)I"⟩
abbrev cX1_closingPrice : ByteArray := prog_3_method_49_code
def yX1_closingPrice : MethodName := ⟨RX1, "closingPrice", "(I)I"⟩
abbrev cX1_priceIn : ByteArray := prog_3_method_50_code
def yX1_priceIn : MethodName := ⟨RX1, "priceIn", "(II)I"⟩
abbrev cX1_worthIn : ByteArray := prog_3_method_51_code
def yX1_worthIn : MethodName := ⟨RX1, "worthIn", "(II)I"⟩
abbrev cX1_toBuy : ByteArray := prog_3_method_52_code
def yX1_toBuy : MethodName := ⟨RX1, "toBuy", "()I"⟩
abbrev cX1_bestToBuy : ByteArray := prog_3_method_53_code
def yX1_bestToBuy : MethodName := ⟨RX1, "bestToBuy", "()I"⟩
abbrev cX1_bestToSell : ByteArray := prog_3_method_54_code
def yX1_bestToSell : MethodName := ⟨RX1, "bestToSell", "(II)I"⟩
abbrev cX1_secondsUntilDebt : ByteArray := prog_3_method_55_code
def yX1_secondsUntilDebt : MethodName := ⟨RX1, "secondsUntilDebt", "(I)I"⟩
abbrev cX1_meanPrice : ByteArray := prog_3_method_56_code
def yX1_meanPrice : MethodName := ⟨RX1, "meanPrice", "()D"⟩
abbrev cX1_digest : ByteArray := prog_3_method_57_code
def yX1_digest : MethodName := ⟨RX1, "digest", "()J"⟩
def RJ9 : String := "java/lang/Math"
def TJ9 : u_T := fun k => match k with
  | _ => ("", "", "", false)
def tyJ9 : Nat → FieldType := fun k => match k with
  | _ => .int
abbrev wsJ90 : List Cond := u_ws RJ9 TJ9 0
theorem nmJ9 : ∀ a, a < 0 → ∀ b, b < 0 → a ≠ b → (TJ9 a).2.1 ≠ (TJ9 b).2.1 := by decide +kernel
theorem tyJ9_ok : ∀ k, k < 0 → parseFieldDescriptor (TJ9 k).2.2.1 = some (tyJ9 k) := by decide +kernel
abbrev cJ9_floorMod_7cf53 : ByteArray := prog_8_method_50_code
def yJ9_floorMod_7cf53 : MethodName := ⟨RJ9, "floorMod", "(II)I"⟩
abbrev cJ9_max_7cf53 : ByteArray := prog_8_method_65_code
def yJ9_max_7cf53 : MethodName := ⟨RJ9, "max", "(II)I"⟩
abbrev cJ9_min_7cf53 : ByteArray := prog_8_method_69_code
def yJ9_min_7cf53 : MethodName := ⟨RJ9, "min", "(II)I"⟩
def RJ0 : String := "java/lang/String"
def TJ0 : u_T := fun k => match k with
  | _ => ("", "", "", false)
def tyJ0 : Nat → FieldType := fun k => match k with
  | _ => .int
abbrev wsJ00 : List Cond := u_ws RJ0 TJ0 0
theorem nmJ0 : ∀ a, a < 0 → ∀ b, b < 0 → a ≠ b → (TJ0 a).2.1 ≠ (TJ0 b).2.1 := by decide +kernel
theorem tyJ0_ok : ∀ k, k < 0 → parseFieldDescriptor (TJ0 k).2.2.1 = some (tyJ0 k) := by decide +kernel
def RJ10 : String := "java/lang/System"
def TJ10 : u_T := fun k => match k with
  | _ => ("", "", "", false)
def tyJ10 : Nat → FieldType := fun k => match k with
  | _ => .int
abbrev wsJ100 : List Cond := u_ws RJ10 TJ10 0
theorem nmJ10 : ∀ a, a < 0 → ∀ b, b < 0 → a ≠ b → (TJ10 a).2.1 ≠ (TJ10 b).2.1 := by decide +kernel
theorem tyJ10_ok : ∀ k, k < 0 → parseFieldDescriptor (TJ10 k).2.2.1 = some (tyJ10 k) := by decide +kernel
def RL : String := "BellHushLaw"
abbrev cL_list : ByteArray := method_3_code
def yL_list : MethodName := ⟨RL, "list", "(LBellHush;III[J)I"⟩
abbrev cL_addTrader : ByteArray := method_4_code
def yL_addTrader : MethodName := ⟨RL, "addTrader", "(LBellHush;[J)I"⟩
abbrev cL_buy : ByteArray := method_5_code
def yL_buy : MethodName := ⟨RL, "buy", "(LBellHush;III[J)I"⟩
abbrev cL_sell : ByteArray := method_6_code
def yL_sell : MethodName := ⟨RL, "sell", "(LBellHush;III[J)I"⟩
abbrev cL_pass : ByteArray := method_7_code
def yL_pass : MethodName := ⟨RL, "pass", "(LBellHush;I[J)I"⟩
abbrev cL_silenceOf : ByteArray := method_8_code
def yL_silenceOf : MethodName := ⟨RL, "silenceOf", "(LBellHush;I[J)I"⟩
abbrev cL_dovesOn : ByteArray := method_9_code
def yL_dovesOn : MethodName := ⟨RL, "dovesOn", "(LBellHush;I[J)I"⟩
abbrev cL_priceOf : ByteArray := method_10_code
def yL_priceOf : MethodName := ⟨RL, "priceOf", "(LBellHush;I[J)I"⟩
abbrev cL_secondsUntilStroke : ByteArray := method_11_code
def yL_secondsUntilStroke : MethodName := ⟨RL, "secondsUntilStroke", "(LBellHush;I[J)I"⟩
abbrev cL_strokesOf : ByteArray := method_12_code
def yL_strokesOf : MethodName := ⟨RL, "strokesOf", "(LBellHush;I[J)I"⟩
abbrev cL_openSeconds : ByteArray := method_13_code
def yL_openSeconds : MethodName := ⟨RL, "openSeconds", "(LBellHush;I[J)I"⟩
abbrev cL_purseOf : ByteArray := method_14_code
def yL_purseOf : MethodName := ⟨RL, "purseOf", "(LBellHush;I[J)I"⟩
abbrev cL_holds : ByteArray := method_15_code
def yL_holds : MethodName := ⟨RL, "holds", "(LBellHush;II[J)I"⟩
abbrev cL_worthOf : ByteArray := method_16_code
def yL_worthOf : MethodName := ⟨RL, "worthOf", "(LBellHush;I[J)I"⟩
abbrev cL_shortsOf : ByteArray := method_17_code
def yL_shortsOf : MethodName := ⟨RL, "shortsOf", "(LBellHush;I[J)I"⟩
abbrev cL_closingPrice : ByteArray := method_18_code
def yL_closingPrice : MethodName := ⟨RL, "closingPrice", "(LBellHush;I[J)I"⟩
abbrev cL_priceIn : ByteArray := method_19_code
def yL_priceIn : MethodName := ⟨RL, "priceIn", "(LBellHush;II[J)I"⟩
abbrev cL_worthIn : ByteArray := method_20_code
def yL_worthIn : MethodName := ⟨RL, "worthIn", "(LBellHush;II[J)I"⟩
abbrev cL_bestToSell : ByteArray := method_21_code
def yL_bestToSell : MethodName := ⟨RL, "bestToSell", "(LBellHush;II[J)I"⟩
abbrev cL_secondsUntilDebt : ByteArray := method_22_code
def yL_secondsUntilDebt : MethodName := ⟨RL, "secondsUntilDebt", "(LBellHush;I[J)I"⟩
abbrev cL_law : ByteArray := code
def yL_law : MethodName := ⟨RL, "law", "([I)Z"⟩
def wsL_law0_r1 : List Cond := [Cond.classLink RL 8 RX0, Cond.instantiable RX0 10, Cond.initialized RX0, Cond.classLink RL 80 RX1, Cond.instantiable RX1 8, Cond.initialized RX1, Cond.arrayClass .long, Cond.methodLink RL 79 yX0_init, Cond.instanceMethod yX0_init, Cond.code yX0_init cX0_init 1 none, Cond.methodLink RX0 1 objectInit, Cond.instanceMethod objectInit, Cond.code objectInit ⟨#[0xb1]⟩ 1 none, Cond.arrayClass .int, Cond.fieldLink RX0 9 "BellHush" "loudness" "[I", Cond.fieldLink RX0 13 "BellHush" "period" "[I", Cond.fieldLink RX0 16 "BellHush" "silence" "[I", Cond.fieldLink RX0 19 "BellHush" "untilStroke" "[I", Cond.fieldLink RX0 22 "BellHush" "strokes" "[I", Cond.fieldLink RX0 25 "BellHush" "purse" "[I", Cond.classLink RX0 28 "[[I", Cond.fieldLink RX0 30 "BellHush" "held" "[[I", Cond.methodLink RL 82 yX1_init, Cond.instanceMethod yX1_init]
def wsL_law0_r2 : List Cond := [Cond.code yX1_init cX1_init 1 none, Cond.methodLink RX1 1 objectInit, Cond.fieldLink RX1 9 "BellHushModel" "loud" "[I", Cond.fieldLink RX1 13 "BellHushModel" "period" "[I", Cond.fieldLink RX1 16 "BellHushModel" "beat" "[I", Cond.fieldLink RX1 19 "BellHushModel" "now" "[I", Cond.fieldLink RX1 22 "BellHushModel" "kept" "[I", Cond.methodLink RL 83 yL_list, Cond.static yL_list, Cond.initialized RL, Cond.codeWith yL_list cL_list 6 (some .int) [(0, 12, 15, 13), (0, 12, 19, 15)], Cond.classLink RL 13 "java/lang/IllegalArgumentException", Cond.classLink RL 15 "java/lang/IllegalStateException", Cond.methodLink RL 7 yX0_list, Cond.instanceMethod yX0_list, Cond.selects RX0 yX0_list yX0_list, Cond.code yX0_list cX0_list 6 (some .int), Cond.classLink RX0 33 "java/lang/IllegalArgumentException", Cond.initialized "java/lang/IllegalArgumentException", Cond.classLink RX0 48 "java/lang/IllegalStateException", Cond.initialized "java/lang/IllegalStateException", Cond.fieldLink RX0 44 "BellHush" "towerCount" "I", Cond.fieldLink RX0 53 "BellHush" "second" "I", Cond.methodLink RX0 56 yJ9_floorMod_7cf53]
def wsL_law0_r3 : List Cond := [Cond.static yJ9_floorMod_7cf53, Cond.initialized RJ9, Cond.code yJ9_floorMod_7cf53 cJ9_floorMod_7cf53 3 (some .int), Cond.methodLink RL 88 yX1_list, Cond.instanceMethod yX1_list, Cond.selects RX1 yX1_list yX1_list, Cond.code yX1_list cX1_list 4 (some .int), Cond.fieldLink RX1 25 "BellHushModel" "thrown" "I", Cond.fieldLink RX1 29 "BellHushModel" "towers" "I", Cond.methodLink RX1 32 yX1_isIn, Cond.static yX1_isIn, Cond.code yX1_isIn cX1_isIn 3 (some .boolean), Cond.methodLink RX1 68 yX1_fail, Cond.instanceMethod yX1_fail, Cond.selects RX1 yX1_fail yX1_fail, Cond.code yX1_fail cX1_fail 2 (some .int), Cond.methodLink RL 89 yX1_thrown, Cond.instanceMethod yX1_thrown, Cond.selects RX1 yX1_thrown yX1_thrown, Cond.code yX1_thrown cX1_thrown 1 (some .int), Cond.methodLink RL 92 yL_addTrader, Cond.static yL_addTrader, Cond.codeWith yL_addTrader cL_addTrader 3 (some .int) [(0, 8, 11, 15)], Cond.methodLink RL 17 yX0_addTrader]
def wsL_law0_r4 : List Cond := [Cond.instanceMethod yX0_addTrader, Cond.selects RX0 yX0_addTrader yX0_addTrader, Cond.code yX0_addTrader cX0_addTrader 2 (some .int), Cond.fieldLink RX0 62 "BellHush" "traderCount" "I", Cond.methodLink RL 95 yX1_addTrader, Cond.instanceMethod yX1_addTrader, Cond.selects RX1 yX1_addTrader yX1_addTrader, Cond.code yX1_addTrader cX1_addTrader 1 (some .int), Cond.fieldLink RX1 36 "BellHushModel" "traders" "I", Cond.methodLink RL 96 yL_buy, Cond.static yL_buy, Cond.codeWith yL_buy cL_buy 6 (some .int) [(0, 12, 15, 24), (0, 12, 19, 13), (0, 12, 23, 15)], Cond.classLink RL 24 "java/lang/IndexOutOfBoundsException", Cond.methodLink RL 21 yX0_buy, Cond.instanceMethod yX0_buy, Cond.selects RX0 yX0_buy yX0_buy, Cond.code yX0_buy cX0_buy 5 (some .int), Cond.methodLink RX0 67 yX0_requireTrader, Cond.instanceMethod yX0_requireTrader, Cond.selects RX0 yX0_requireTrader yX0_requireTrader, Cond.code yX0_requireTrader cX0_requireTrader 2 none, Cond.classLink RX0 152 "java/lang/IndexOutOfBoundsException", Cond.initialized "java/lang/IndexOutOfBoundsException", Cond.methodLink RX0 71 yX0_requireTower]
def wsL_law0_r5 : List Cond := [Cond.instanceMethod yX0_requireTower, Cond.selects RX0 yX0_requireTower yX0_requireTower, Cond.code yX0_requireTower cX0_requireTower 2 none, Cond.methodLink RX0 74 yX0_requireTradable, Cond.static yX0_requireTradable, Cond.code yX0_requireTradable cX0_requireTradable 1 none, Cond.methodLink RX0 77 yX0_priceNow, Cond.instanceMethod yX0_priceNow, Cond.selects RX0 yX0_priceNow yX0_priceNow, Cond.code yX0_priceNow cX0_priceNow 2 (some .int), Cond.methodLink RX0 94 yX0_dovesNow, Cond.instanceMethod yX0_dovesNow, Cond.selects RX0 yX0_dovesNow yX0_dovesNow, Cond.code yX0_dovesNow cX0_dovesNow 4 (some .int), Cond.methodLink RX0 169 yX0_dovesFor, Cond.static yX0_dovesFor, Cond.code yX0_dovesFor cX0_dovesFor 1 (some .int), Cond.methodLink RX0 166 Lib.Math.max.name, Cond.static Lib.Math.max.name, Cond.initialized "java/lang/Math", Cond.code Lib.Math.max.name Lib.Math.max.code 2 (some .int), Cond.methodLink RX0 172 yX0_price, Cond.static yX0_price, Cond.code yX0_price cX0_price 3 (some .int)]
def wsL_law0_r6 : List Cond := [Cond.methodLink RL 98 yX1_buy, Cond.instanceMethod yX1_buy, Cond.selects RX1 yX1_buy yX1_buy, Cond.code yX1_buy cX1_buy 5 (some .int), Cond.methodLink RX1 78 yX1_can, Cond.instanceMethod yX1_can, Cond.selects RX1 yX1_can yX1_can, Cond.code yX1_can cX1_can 4 (some .boolean), Cond.methodLink RX1 71 yX1_isTrader, Cond.instanceMethod yX1_isTrader, Cond.selects RX1 yX1_isTrader yX1_isTrader, Cond.code yX1_isTrader cX1_isTrader 2 (some .boolean), Cond.methodLink RX1 75 yX1_isTower, Cond.instanceMethod yX1_isTower, Cond.selects RX1 yX1_isTower yX1_isTower, Cond.code yX1_isTower cX1_isTower 2 (some .boolean), Cond.methodLink RX1 61 yX1_price, Cond.instanceMethod yX1_price, Cond.selects RX1 yX1_price yX1_price, Cond.code yX1_price cX1_price 2 (some .int), Cond.methodLink RX1 58 yX1_priceBehind, Cond.instanceMethod yX1_priceBehind, Cond.selects RX1 yX1_priceBehind yX1_priceBehind, Cond.code yX1_priceBehind cX1_priceBehind 3 (some .int)]
def wsL_law0_r7 : List Cond := [Cond.methodLink RX1 49 Lib.Math.max.name, Cond.methodLink RX1 54 yX1_doves, Cond.instanceMethod yX1_doves, Cond.selects RX1 yX1_doves yX1_doves, Cond.code yX1_doves cX1_doves 4 (some .int), Cond.methodLink RX1 45 yX1_at, Cond.static yX1_at, Cond.code yX1_at cX1_at 2 (some .int), Cond.methodLink RL 99 yL_sell, Cond.static yL_sell, Cond.codeWith yL_sell cL_sell 6 (some .int) [(0, 12, 15, 24), (0, 12, 19, 13), (0, 12, 23, 15)], Cond.methodLink RL 26 yX0_sell, Cond.instanceMethod yX0_sell, Cond.selects RX0 yX0_sell yX0_sell, Cond.code yX0_sell cX0_sell 5 (some .int), Cond.methodLink RL 101 yX1_sell, Cond.instanceMethod yX1_sell, Cond.selects RX1 yX1_sell yX1_sell, Cond.code yX1_sell cX1_sell 4 (some .int), Cond.methodLink RX1 81 yX1_sold, Cond.instanceMethod yX1_sold, Cond.selects RX1 yX1_sold yX1_sold, Cond.code yX1_sold cX1_sold 5 (some .int), Cond.methodLink RL 102 yL_pass]
def wsL_law0_r8 : List Cond := [Cond.static yL_pass, Cond.codeWith yL_pass cL_pass 4 (some .int) [(0, 9, 12, 13)], Cond.methodLink RL 29 yX0_pass, Cond.instanceMethod yX0_pass, Cond.selects RX0 yX0_pass yX0_pass, Cond.code yX0_pass cX0_pass 4 (some .int), Cond.methodLink RX0 87 yX0_requirePassable, Cond.static yX0_requirePassable, Cond.code yX0_requirePassable cX0_requirePassable 1 none, Cond.methodLink RX0 90 yX0_goOneSecond, Cond.instanceMethod yX0_goOneSecond, Cond.selects RX0 yX0_goOneSecond yX0_goOneSecond, Cond.code yX0_goOneSecond cX0_goOneSecond 3 (some .int), Cond.methodLink RX0 163 yX0_strike, Cond.instanceMethod yX0_strike, Cond.selects RX0 yX0_strike yX0_strike, Cond.code yX0_strike cX0_strike 4 none, Cond.methodLink RL 105 yX1_pass, Cond.instanceMethod yX1_pass, Cond.selects RX1 yX1_pass yX1_pass, Cond.code yX1_pass cX1_pass 2 (some .int), Cond.methodLink RX1 85 yX1_secondsOn, Cond.instanceMethod yX1_secondsOn, Cond.selects RX1 yX1_secondsOn yX1_secondsOn]
def wsL_law0_r9 : List Cond := [Cond.code yX1_secondsOn cX1_secondsOn 4 (some .int), Cond.methodLink RX1 64 yX1_secondOn, Cond.instanceMethod yX1_secondOn, Cond.selects RX1 yX1_secondOn yX1_secondOn, Cond.code yX1_secondOn cX1_secondOn 5 (some .int), Cond.methodLink RL 106 yX0_second, Cond.instanceMethod yX0_second, Cond.selects RX0 yX0_second yX0_second, Cond.code yX0_second cX0_second 1 (some .int), Cond.methodLink RL 109 yX1_second, Cond.instanceMethod yX1_second, Cond.selects RX1 yX1_second yX1_second, Cond.code yX1_second cX1_second 1 (some .int), Cond.methodLink RX1 88 yX1_told, Cond.instanceMethod yX1_told, Cond.selects RX1 yX1_told yX1_told, Cond.code yX1_told cX1_told 2 (some .int), Cond.methodLink RL 110 yX0_towers, Cond.instanceMethod yX0_towers, Cond.selects RX0 yX0_towers yX0_towers, Cond.code yX0_towers cX0_towers 1 (some .int), Cond.methodLink RL 113 yX1_towers, Cond.instanceMethod yX1_towers, Cond.selects RX1 yX1_towers yX1_towers]
def wsL_law0_r10 : List Cond := [Cond.code yX1_towers cX1_towers 1 (some .int), Cond.methodLink RL 114 yL_silenceOf, Cond.static yL_silenceOf, Cond.codeWith yL_silenceOf cL_silenceOf 4 (some .int) [(0, 9, 12, 24)], Cond.methodLink RL 33 yX0_silenceOf, Cond.instanceMethod yX0_silenceOf, Cond.selects RX0 yX0_silenceOf yX0_silenceOf, Cond.code yX0_silenceOf cX0_silenceOf 2 (some .int), Cond.methodLink RL 116 yX1_silenceOf, Cond.instanceMethod yX1_silenceOf, Cond.selects RX1 yX1_silenceOf yX1_silenceOf, Cond.code yX1_silenceOf cX1_silenceOf 2 (some .int), Cond.methodLink RL 117 yL_dovesOn, Cond.static yL_dovesOn, Cond.codeWith yL_dovesOn cL_dovesOn 4 (some .int) [(0, 9, 12, 24)], Cond.methodLink RL 36 yX0_dovesOn, Cond.instanceMethod yX0_dovesOn, Cond.selects RX0 yX0_dovesOn yX0_dovesOn, Cond.code yX0_dovesOn cX0_dovesOn 2 (some .int), Cond.methodLink RL 119 yX1_dovesOn, Cond.instanceMethod yX1_dovesOn, Cond.selects RX1 yX1_dovesOn yX1_dovesOn, Cond.code yX1_dovesOn cX1_dovesOn 2 (some .int), Cond.methodLink RL 120 yL_priceOf]
def wsL_law0_r11 : List Cond := [Cond.static yL_priceOf, Cond.codeWith yL_priceOf cL_priceOf 4 (some .int) [(0, 9, 12, 24)], Cond.methodLink RL 39 yX0_priceOf, Cond.instanceMethod yX0_priceOf, Cond.selects RX0 yX0_priceOf yX0_priceOf, Cond.code yX0_priceOf cX0_priceOf 2 (some .int), Cond.methodLink RL 122 yX1_priceOf, Cond.instanceMethod yX1_priceOf, Cond.selects RX1 yX1_priceOf yX1_priceOf, Cond.code yX1_priceOf cX1_priceOf 2 (some .int), Cond.methodLink RL 123 yL_secondsUntilStroke, Cond.static yL_secondsUntilStroke, Cond.codeWith yL_secondsUntilStroke cL_secondsUntilStroke 4 (some .int) [(0, 9, 12, 24)], Cond.methodLink RL 42 yX0_secondsUntilStroke, Cond.instanceMethod yX0_secondsUntilStroke, Cond.selects RX0 yX0_secondsUntilStroke yX0_secondsUntilStroke, Cond.code yX0_secondsUntilStroke cX0_secondsUntilStroke 2 (some .int), Cond.methodLink RL 125 yX1_secondsUntilStroke, Cond.instanceMethod yX1_secondsUntilStroke, Cond.selects RX1 yX1_secondsUntilStroke yX1_secondsUntilStroke, Cond.code yX1_secondsUntilStroke cX1_secondsUntilStroke 2 (some .int), Cond.methodLink RX1 91 yX1_until, Cond.instanceMethod yX1_until, Cond.selects RX1 yX1_until yX1_until]
def wsL_law0_r12 : List Cond := [Cond.code yX1_until cX1_until 3 (some .int), Cond.methodLink RL 126 yL_strokesOf, Cond.static yL_strokesOf, Cond.codeWith yL_strokesOf cL_strokesOf 4 (some .int) [(0, 9, 12, 24)], Cond.methodLink RL 45 yX0_strokesOf, Cond.instanceMethod yX0_strokesOf, Cond.selects RX0 yX0_strokesOf yX0_strokesOf, Cond.code yX0_strokesOf cX0_strokesOf 2 (some .int), Cond.methodLink RL 128 yX1_strokesOf, Cond.instanceMethod yX1_strokesOf, Cond.selects RX1 yX1_strokesOf yX1_strokesOf, Cond.code yX1_strokesOf cX1_strokesOf 2 (some .int), Cond.methodLink RL 129 yL_openSeconds, Cond.static yL_openSeconds, Cond.codeWith yL_openSeconds cL_openSeconds 4 (some .int) [(0, 9, 12, 24)], Cond.methodLink RL 48 yX0_openSeconds, Cond.instanceMethod yX0_openSeconds, Cond.selects RX0 yX0_openSeconds yX0_openSeconds, Cond.code yX0_openSeconds cX0_openSeconds 2 (some .int), Cond.methodLink RX0 97 yX0_heldByAll, Cond.instanceMethod yX0_heldByAll, Cond.selects RX0 yX0_heldByAll yX0_heldByAll, Cond.code yX0_heldByAll cX0_heldByAll 4 (some .int), Cond.methodLink RL 131 yX1_openSeconds]
def wsL_law0_r13 : List Cond := [Cond.instanceMethod yX1_openSeconds, Cond.selects RX1 yX1_openSeconds yX1_openSeconds, Cond.code yX1_openSeconds cX1_openSeconds 2 (some .int), Cond.methodLink RX1 94 yX1_open, Cond.instanceMethod yX1_open, Cond.selects RX1 yX1_open yX1_open, Cond.code yX1_open cX1_open 4 (some .int), Cond.methodLink RL 132 yX0_dearest, Cond.instanceMethod yX0_dearest, Cond.selects RX0 yX0_dearest yX0_dearest, Cond.code yX0_dearest cX0_dearest 3 (some .int), Cond.methodLink RL 135 yX1_dearest, Cond.instanceMethod yX1_dearest, Cond.selects RX1 yX1_dearest yX1_dearest, Cond.code yX1_dearest cX1_dearest 1 (some .int), Cond.methodLink RX1 97 yX1_dear, Cond.instanceMethod yX1_dear, Cond.selects RX1 yX1_dear yX1_dear, Cond.code yX1_dear cX1_dear 3 (some .int), Cond.methodLink RL 136 yX0_nextToStrike, Cond.instanceMethod yX0_nextToStrike, Cond.selects RX0 yX0_nextToStrike yX0_nextToStrike, Cond.code yX0_nextToStrike cX0_nextToStrike 3 (some .int), Cond.methodLink RL 139 yX1_nextToStrike]
def wsL_law0_r14 : List Cond := [Cond.instanceMethod yX1_nextToStrike, Cond.selects RX1 yX1_nextToStrike yX1_nextToStrike, Cond.code yX1_nextToStrike cX1_nextToStrike 1 (some .int), Cond.methodLink RX1 100 yX1_next, Cond.instanceMethod yX1_next, Cond.selects RX1 yX1_next yX1_next, Cond.code yX1_next cX1_next 3 (some .int), Cond.methodLink RL 140 yX0_traders, Cond.instanceMethod yX0_traders, Cond.selects RX0 yX0_traders yX0_traders, Cond.code yX0_traders cX0_traders 1 (some .int), Cond.methodLink RL 143 yX1_traders, Cond.instanceMethod yX1_traders, Cond.selects RX1 yX1_traders yX1_traders, Cond.code yX1_traders cX1_traders 1 (some .int), Cond.methodLink RL 144 yL_purseOf, Cond.static yL_purseOf, Cond.codeWith yL_purseOf cL_purseOf 4 (some .int) [(0, 9, 12, 24)], Cond.methodLink RL 51 yX0_purseOf, Cond.instanceMethod yX0_purseOf, Cond.selects RX0 yX0_purseOf yX0_purseOf, Cond.code yX0_purseOf cX0_purseOf 2 (some .int), Cond.methodLink RL 146 yX1_purseOf, Cond.instanceMethod yX1_purseOf]
def wsL_law0_r15 : List Cond := [Cond.selects RX1 yX1_purseOf yX1_purseOf, Cond.code yX1_purseOf cX1_purseOf 2 (some .int), Cond.methodLink RL 147 yL_holds, Cond.static yL_holds, Cond.codeWith yL_holds cL_holds 5 (some .int) [(0, 10, 13, 24)], Cond.methodLink RL 54 yX0_holds, Cond.instanceMethod yX0_holds, Cond.selects RX0 yX0_holds yX0_holds, Cond.code yX0_holds cX0_holds 3 (some .int), Cond.methodLink RL 150 yX1_holds, Cond.instanceMethod yX1_holds, Cond.selects RX1 yX1_holds yX1_holds, Cond.code yX1_holds cX1_holds 3 (some .int), Cond.methodLink RL 151 yL_worthOf, Cond.static yL_worthOf, Cond.codeWith yL_worthOf cL_worthOf 4 (some .int) [(0, 9, 12, 24)], Cond.methodLink RL 58 yX0_worthOf, Cond.instanceMethod yX0_worthOf, Cond.selects RX0 yX0_worthOf yX0_worthOf, Cond.code yX0_worthOf cX0_worthOf 2 (some .int), Cond.methodLink RX0 100 yX0_worthBehind, Cond.instanceMethod yX0_worthBehind, Cond.selects RX0 yX0_worthBehind yX0_worthBehind, Cond.code yX0_worthBehind cX0_worthBehind 7 (some .int)]
def wsL_law0_r16 : List Cond := [Cond.methodLink RX0 106 yX0_closing, Cond.instanceMethod yX0_closing, Cond.selects RX0 yX0_closing yX0_closing, Cond.code yX0_closing cX0_closing 2 (some .int), Cond.methodLink RX0 175 yX0_closingWith, Cond.instanceMethod yX0_closingWith, Cond.selects RX0 yX0_closingWith yX0_closingWith, Cond.code yX0_closingWith cX0_closingWith 3 (some .int), Cond.methodLink RX0 109 yX0_priceBehind, Cond.instanceMethod yX0_priceBehind, Cond.selects RX0 yX0_priceBehind yX0_priceBehind, Cond.code yX0_priceBehind cX0_priceBehind 6 (some .int), Cond.methodLink RL 153 yX1_worthOf, Cond.instanceMethod yX1_worthOf, Cond.selects RX1 yX1_worthOf yX1_worthOf, Cond.code yX1_worthOf cX1_worthOf 2 (some .int), Cond.methodLink RX1 103 yX1_worth, Cond.instanceMethod yX1_worth, Cond.selects RX1 yX1_worth yX1_worth, Cond.code yX1_worth cX1_worth 4 (some .int), Cond.methodLink RL 154 yX0_richest, Cond.instanceMethod yX0_richest, Cond.selects RX0 yX0_richest yX0_richest, Cond.code yX0_richest cX0_richest 3 (some .int)]
def wsL_law0_r17 : List Cond := [Cond.methodLink RL 157 yX1_richest, Cond.instanceMethod yX1_richest, Cond.selects RX1 yX1_richest yX1_richest, Cond.code yX1_richest cX1_richest 1 (some .int), Cond.methodLink RX1 106 yX1_rich, Cond.instanceMethod yX1_rich, Cond.selects RX1 yX1_rich yX1_rich, Cond.code yX1_rich cX1_rich 3 (some .int), Cond.methodLink RL 158 yL_shortsOf, Cond.static yL_shortsOf, Cond.codeWith yL_shortsOf cL_shortsOf 4 (some .int) [(0, 9, 12, 24)], Cond.methodLink RL 61 yX0_shortsOf, Cond.instanceMethod yX0_shortsOf, Cond.selects RX0 yX0_shortsOf yX0_shortsOf, Cond.code yX0_shortsOf cX0_shortsOf 2 (some .int), Cond.methodLink RX0 103 yX0_shortTowers, Cond.instanceMethod yX0_shortTowers, Cond.selects RX0 yX0_shortTowers yX0_shortTowers, Cond.code yX0_shortTowers cX0_shortTowers 4 (some .int), Cond.methodLink RL 160 yX1_shortsOf, Cond.instanceMethod yX1_shortsOf, Cond.selects RX1 yX1_shortsOf yX1_shortsOf, Cond.code yX1_shortsOf cX1_shortsOf 2 (some .int), Cond.methodLink RX1 109 yX1_shorts]
def wsL_law0_r18 : List Cond := [Cond.instanceMethod yX1_shorts, Cond.selects RX1 yX1_shorts yX1_shorts, Cond.code yX1_shorts cX1_shorts 4 (some .int), Cond.methodLink RL 161 yX0_inDebt, Cond.instanceMethod yX0_inDebt, Cond.selects RX0 yX0_inDebt yX0_inDebt, Cond.code yX0_inDebt cX0_inDebt 3 (some .int), Cond.methodLink RL 164 yX1_inDebt, Cond.instanceMethod yX1_inDebt, Cond.selects RX1 yX1_inDebt yX1_inDebt, Cond.code yX1_inDebt cX1_inDebt 1 (some .int), Cond.methodLink RX1 112 yX1_owing, Cond.instanceMethod yX1_owing, Cond.selects RX1 yX1_owing yX1_owing, Cond.code yX1_owing cX1_owing 3 (some .int), Cond.methodLink RL 165 yL_closingPrice, Cond.static yL_closingPrice, Cond.codeWith yL_closingPrice cL_closingPrice 4 (some .int) [(0, 9, 12, 24)], Cond.methodLink RL 64 yX0_closingPrice, Cond.instanceMethod yX0_closingPrice, Cond.selects RX0 yX0_closingPrice yX0_closingPrice, Cond.code yX0_closingPrice cX0_closingPrice 2 (some .int), Cond.methodLink RL 167 yX1_closingPrice, Cond.instanceMethod yX1_closingPrice]
def wsL_law0_r19 : List Cond := [Cond.selects RX1 yX1_closingPrice yX1_closingPrice, Cond.code yX1_closingPrice cX1_closingPrice 2 (some .int), Cond.methodLink RX1 115 yX1_closing, Cond.instanceMethod yX1_closing, Cond.selects RX1 yX1_closing yX1_closing, Cond.code yX1_closing cX1_closing 2 (some .int), Cond.methodLink RL 168 yL_priceIn, Cond.static yL_priceIn, Cond.codeWith yL_priceIn cL_priceIn 5 (some .int) [(0, 10, 13, 24), (0, 10, 17, 13)], Cond.methodLink RL 67 yX0_priceIn, Cond.instanceMethod yX0_priceIn, Cond.selects RX0 yX0_priceIn yX0_priceIn, Cond.code yX0_priceIn cX0_priceIn 3 (some .int), Cond.methodLink RL 170 yX1_priceIn, Cond.instanceMethod yX1_priceIn, Cond.selects RX1 yX1_priceIn yX1_priceIn, Cond.code yX1_priceIn cX1_priceIn 4 (some .int), Cond.methodLink RX1 118 yX1_keep, Cond.instanceMethod yX1_keep, Cond.selects RX1 yX1_keep yX1_keep, Cond.code yX1_keep cX1_keep 1 none, Cond.methodLink RX1 39 arraycopyName, Cond.native arraycopyName, Cond.static arraycopyName]
def wsL_law0_r20 : List Cond := [Cond.initialized "java/lang/System", Cond.methodLink RX1 121 yX1_bringBack, Cond.instanceMethod yX1_bringBack, Cond.selects RX1 yX1_bringBack yX1_bringBack, Cond.code yX1_bringBack cX1_bringBack 1 none, Cond.methodLink RL 171 yL_worthIn, Cond.static yL_worthIn, Cond.codeWith yL_worthIn cL_worthIn 5 (some .int) [(0, 10, 13, 24), (0, 10, 17, 13)], Cond.methodLink RL 70 yX0_worthIn, Cond.instanceMethod yX0_worthIn, Cond.selects RX0 yX0_worthIn yX0_worthIn, Cond.code yX0_worthIn cX0_worthIn 3 (some .int), Cond.methodLink RL 173 yX1_worthIn, Cond.instanceMethod yX1_worthIn, Cond.selects RX1 yX1_worthIn yX1_worthIn, Cond.code yX1_worthIn cX1_worthIn 4 (some .int), Cond.methodLink RL 174 yX0_bestToBuy, Cond.instanceMethod yX0_bestToBuy, Cond.selects RX0 yX0_bestToBuy yX0_bestToBuy, Cond.code yX0_bestToBuy cX0_bestToBuy 4 (some .int), Cond.methodLink RX0 112 yX0_riseUntilStroke, Cond.instanceMethod yX0_riseUntilStroke, Cond.selects RX0 yX0_riseUntilStroke yX0_riseUntilStroke, Cond.code yX0_riseUntilStroke cX0_riseUntilStroke 2 (some .int)]
def wsL_law0_r21 : List Cond := [Cond.methodLink RL 177 yX1_bestToBuy, Cond.instanceMethod yX1_bestToBuy, Cond.selects RX1 yX1_bestToBuy yX1_bestToBuy, Cond.code yX1_bestToBuy cX1_bestToBuy 1 (some .int), Cond.methodLink RX1 124 yX1_toBuy, Cond.instanceMethod yX1_toBuy, Cond.selects RX1 yX1_toBuy yX1_toBuy, Cond.code yX1_toBuy cX1_toBuy 5 (some .int), Cond.methodLink RL 178 yL_bestToSell, Cond.static yL_bestToSell, Cond.codeWith yL_bestToSell cL_bestToSell 5 (some .int) [(0, 10, 13, 24)], Cond.methodLink RL 73 yX0_bestToSell, Cond.instanceMethod yX0_bestToSell, Cond.selects RX0 yX0_bestToSell yX0_bestToSell, Cond.code yX0_bestToSell cX0_bestToSell 6 (some .int), Cond.methodLink RX0 115 Lib.Math.min.name, Cond.static Lib.Math.min.name, Cond.code Lib.Math.min.name Lib.Math.min.code 2 (some .int), Cond.methodLink RX0 118 yX0_yieldOfSelling, Cond.instanceMethod yX0_yieldOfSelling, Cond.selects RX0 yX0_yieldOfSelling yX0_yieldOfSelling, Cond.code yX0_yieldOfSelling cX0_yieldOfSelling 7 (some .int), Cond.methodLink RL 180 yX1_bestToSell, Cond.instanceMethod yX1_bestToSell]
def wsL_law0_r22 : List Cond := [Cond.selects RX1 yX1_bestToSell yX1_bestToSell, Cond.code yX1_bestToSell cX1_bestToSell 9 (some .int), Cond.methodLink RX1 127 Lib.Math.min.name, Cond.methodLink RL 181 yL_secondsUntilDebt, Cond.static yL_secondsUntilDebt, Cond.codeWith yL_secondsUntilDebt cL_secondsUntilDebt 4 (some .int) [(0, 9, 12, 24)], Cond.methodLink RL 76 yX0_secondsUntilDebt, Cond.instanceMethod yX0_secondsUntilDebt, Cond.selects RX0 yX0_secondsUntilDebt yX0_secondsUntilDebt, Cond.code yX0_secondsUntilDebt cX0_secondsUntilDebt 4 (some .int), Cond.methodLink RX0 122 yX0_closedIn, Cond.instanceMethod yX0_closedIn, Cond.selects RX0 yX0_closedIn yX0_closedIn, Cond.code yX0_closedIn cX0_closedIn 5 (some .int), Cond.methodLink RL 183 yX1_secondsUntilDebt, Cond.instanceMethod yX1_secondsUntilDebt, Cond.selects RX1 yX1_secondsUntilDebt yX1_secondsUntilDebt, Cond.code yX1_secondsUntilDebt cX1_secondsUntilDebt 3 (some .int), Cond.methodLink RL 184 yX0_meanPrice, Cond.instanceMethod yX0_meanPrice, Cond.selects RX0 yX0_meanPrice yX0_meanPrice, Cond.code yX0_meanPrice cX0_meanPrice 3 (some .double), Cond.methodLink RL 188 yX1_meanPrice, Cond.instanceMethod yX1_meanPrice]
def wsL_law0_r23 : List Cond := [Cond.selects RX1 yX1_meanPrice yX1_meanPrice, Cond.code yX1_meanPrice cX1_meanPrice 3 (some .double), Cond.methodLink RL 189 yX0_digest, Cond.instanceMethod yX0_digest, Cond.selects RX0 yX0_digest yX0_digest, Cond.code yX0_digest cX0_digest 4 (some .long), Cond.constantLong RX0 125 (2081), Cond.methodLink RX0 127 yX0_mixed, Cond.static yX0_mixed, Cond.code yX0_mixed cX0_mixed 3 (some .long), Cond.constantLong RX0 178 (31), Cond.methodLink RX0 131 yX0_dearest, Cond.methodLink RX0 134 yX0_nextToStrike, Cond.methodLink RX0 137 yX0_richest, Cond.methodLink RX0 140 yX0_inDebt, Cond.methodLink RX0 143 yX0_bestToBuy, Cond.methodLink RX0 146 yX0_mixedTower, Cond.instanceMethod yX0_mixedTower, Cond.selects RX0 yX0_mixedTower yX0_mixedTower, Cond.code yX0_mixedTower cX0_mixedTower 6 (some .long), Cond.methodLink RX0 149 yX0_mixedTrader, Cond.instanceMethod yX0_mixedTrader, Cond.selects RX0 yX0_mixedTrader yX0_mixedTrader, Cond.code yX0_mixedTrader cX0_mixedTrader 7 (some .long)]
def wsL_law0_r24 : List Cond := [Cond.methodLink RL 193 yX1_digest, Cond.instanceMethod yX1_digest, Cond.selects RX1 yX1_digest yX1_digest, Cond.code yX1_digest cX1_digest 10 (some .long), Cond.constantLong RX1 130 (2081), Cond.constantLong RX1 132 (31)]
def wsL_law0 : List Cond := (wsL_law0_r1 ++ (wsL_law0_r2 ++ (wsL_law0_r3 ++ (wsL_law0_r4 ++ (wsL_law0_r5 ++ (wsL_law0_r6 ++ (wsL_law0_r7 ++ (wsL_law0_r8 ++ (wsL_law0_r9 ++ (wsL_law0_r10 ++ (wsL_law0_r11 ++ (wsL_law0_r12 ++ (wsL_law0_r13 ++ (wsL_law0_r14 ++ (wsL_law0_r15 ++ (wsL_law0_r16 ++ (wsL_law0_r17 ++ (wsL_law0_r18 ++ (wsL_law0_r19 ++ (wsL_law0_r20 ++ (wsL_law0_r21 ++ (wsL_law0_r22 ++ (wsL_law0_r23 ++ wsL_law0_r24))))))))))))))))))))))) ++ wsX00 ++ wsX10 ++ ([] : List Cond)
def wsL_law : List Cond := wsL_law0 ++ (vx_atS RX0 37 "java/lang/IllegalArgumentException" ["java/lang/RuntimeException", "java/lang/Exception"]).filter goodWord ++ (vx_atS RX0 52 "java/lang/IllegalStateException" ["java/lang/RuntimeException", "java/lang/Exception"]).filter goodWord ++ (vx_atS RX0 156 "java/lang/IndexOutOfBoundsException" ["java/lang/RuntimeException", "java/lang/Exception"]).filter goodWord
set_option maxRecDepth 20000 in
theorem wsL_law_b1 : ∀ w ∈ wsL_law0_r1, w ∈ lw_tbl := fun w h => (goodIn_p wsL_law0_r1 [56, 59] (by decide +kernel) (by decide +kernel) w h).1
set_option maxRecDepth 20000 in
theorem wsL_law_b2 : ∀ w ∈ wsL_law0_r2, w ∈ lw_tbl := fun w h => (goodIn_p wsL_law0_r2 [489, 205] (by decide +kernel) (by decide +kernel) w h).1
set_option maxRecDepth 20000 in
theorem wsL_law_b3 : ∀ w ∈ wsL_law0_r3, w ∈ lw_tbl := fun w h => (goodIn_p wsL_law0_r3 [294, 523, 526, 530, 519] (by decide +kernel) (by decide +kernel) w h).1
set_option maxRecDepth 20000 in
theorem wsL_law_b4 : ∀ w ∈ wsL_law0_r4, w ∈ lw_tbl := fun w h => (goodIn_p wsL_law0_r4 [301, 534, 310, 314] (by decide +kernel) (by decide +kernel) w h).1
set_option maxRecDepth 20000 in
theorem wsL_law_b5 : ∀ w ∈ wsL_law0_r5, w ∈ lw_tbl := fun w h => (goodIn_p wsL_law0_r5 [334, 338, 109, 113, 116, 119, 122] (by decide +kernel) (by decide +kernel) w h).1
set_option maxRecDepth 20000 in
theorem wsL_law_b6 : ∀ w ∈ wsL_law0_r6, w ∈ lw_tbl := fun w h => (goodIn_p wsL_law0_r6 [538, 542, 546, 550, 554, 558] (by decide +kernel) (by decide +kernel) w h).1
set_option maxRecDepth 20000 in
theorem wsL_law_b7 : ∀ w ∈ wsL_law0_r7, w ∈ lw_tbl := fun w h => (goodIn_p wsL_law0_r7 [562, 565, 348, 570, 574] (by decide +kernel) (by decide +kernel) w h).1
set_option maxRecDepth 20000 in
theorem wsL_law_b8 : ∀ w ∈ wsL_law0_r8, w ∈ lw_tbl := fun w h => (goodIn_p wsL_law0_r8 [356, 359, 364, 368, 578] (by decide +kernel) (by decide +kernel) w h).1
set_option maxRecDepth 20000 in
theorem wsL_law_b9 : ∀ w ∈ wsL_law0_r9, w ∈ lw_tbl := fun w h => (goodIn_p wsL_law0_r9 [582, 586, 97, 590, 594, 101] (by decide +kernel) (by decide +kernel) w h).1
set_option maxRecDepth 20000 in
theorem wsL_law_b10 : ∀ w ∈ wsL_law0_r10, w ∈ lw_tbl := fun w h => (goodIn_p wsL_law0_r10 [598, 375, 602, 382, 606] (by decide +kernel) (by decide +kernel) w h).1
set_option maxRecDepth 20000 in
theorem wsL_law_b11 : ∀ w ∈ wsL_law0_r11, w ∈ lw_tbl := fun w h => (goodIn_p wsL_law0_r11 [389, 610, 396, 614] (by decide +kernel) (by decide +kernel) w h).1
set_option maxRecDepth 20000 in
theorem wsL_law_b12 : ∀ w ∈ wsL_law0_r12, w ∈ lw_tbl := fun w h => (goodIn_p wsL_law0_r12 [618, 403, 622, 410, 188] (by decide +kernel) (by decide +kernel) w h).1
set_option maxRecDepth 20000 in
theorem wsL_law_b13 : ∀ w ∈ wsL_law0_r13, w ∈ lw_tbl := fun w h => (goodIn_p wsL_law0_r13 [626, 630, 105, 634, 638, 126] (by decide +kernel) (by decide +kernel) w h).1
set_option maxRecDepth 20000 in
theorem wsL_law_b14 : ∀ w ∈ wsL_law0_r14, w ∈ lw_tbl := fun w h => (goodIn_p wsL_law0_r14 [642, 646, 130, 650, 417] (by decide +kernel) (by decide +kernel) w h).1
set_option maxRecDepth 20000 in
theorem wsL_law_b15 : ∀ w ∈ wsL_law0_r15, w ∈ lw_tbl := fun w h => (goodIn_p wsL_law0_r15 [654, 424, 658, 431, 138] (by decide +kernel) (by decide +kernel) w h).1
set_option maxRecDepth 20000 in
theorem wsL_law_b16 : ∀ w ∈ wsL_law0_r16, w ∈ lw_tbl := fun w h => (goodIn_p wsL_law0_r16 [142, 146, 150, 662, 666, 134] (by decide +kernel) (by decide +kernel) w h).1
set_option maxRecDepth 20000 in
theorem wsL_law_b17 : ∀ w ∈ wsL_law0_r17, w ∈ lw_tbl := fun w h => (goodIn_p wsL_law0_r17 [670, 674, 438, 196, 678] (by decide +kernel) (by decide +kernel) w h).1
set_option maxRecDepth 20000 in
theorem wsL_law_b18 : ∀ w ∈ wsL_law0_r18, w ∈ lw_tbl := fun w h => (goodIn_p wsL_law0_r18 [682, 154, 686, 690, 445] (by decide +kernel) (by decide +kernel) w h).1
set_option maxRecDepth 20000 in
theorem wsL_law_b19 : ∀ w ∈ wsL_law0_r19, w ∈ lw_tbl := fun w h => (goodIn_p wsL_law0_r19 [694, 698, 452, 702, 706] (by decide +kernel) (by decide +kernel) w h).1
set_option maxRecDepth 20000 in
theorem wsL_law_b20 : ∀ w ∈ wsL_law0_r20, w ∈ lw_tbl := fun w h => (goodIn_p wsL_law0_r20 [713, 459, 717, 158, 162] (by decide +kernel) (by decide +kernel) w h).1
set_option maxRecDepth 20000 in
theorem wsL_law_b21 : ∀ w ∈ wsL_law0_r21, w ∈ lw_tbl := fun w h => (goodIn_p wsL_law0_r21 [721, 725, 466, 469, 473] (by decide +kernel) (by decide +kernel) w h).1
set_option maxRecDepth 20000 in
theorem wsL_law_b22 : ∀ w ∈ wsL_law0_r22, w ∈ lw_tbl := fun w h => (goodIn_p wsL_law0_r22 [729, 480, 484, 734, 166] (by decide +kernel) (by decide +kernel) w h).1
set_option maxRecDepth 20000 in
theorem wsL_law_b23 : ∀ w ∈ wsL_law0_r23, w ∈ lw_tbl := fun w h => (goodIn_p wsL_law0_r23 [738, 170, 174, 184, 192] (by decide +kernel) (by decide +kernel) w h).1
set_option maxRecDepth 20000 in
theorem wsL_law_b24 : ∀ w ∈ wsL_law0_r24, w ∈ lw_tbl := fun w h => (goodIn_p wsL_law0_r24 [742] (by decide +kernel) (by decide +kernel) w h).1
theorem wsL_law_bx0 : ∀ w ∈ wsX00, w ∈ lw_tbl := by decide +kernel
theorem wsL_law_bx1 : ∀ w ∈ wsX10, w ∈ lw_tbl := by decide +kernel
theorem app_in {a b : List Cond} (ha : ∀ w ∈ a, w ∈ lw_tbl) (hb : ∀ w ∈ b, w ∈ lw_tbl) : ∀ w ∈ a ++ b, w ∈ lw_tbl := fun w h => (List.mem_append.mp h).elim (ha w) (hb w)
theorem wsL_law_in0 : ∀ w ∈ wsL_law0, w ∈ lw_tbl := app_in (app_in (app_in (app_in wsL_law_b1 (app_in wsL_law_b2 (app_in wsL_law_b3 (app_in wsL_law_b4 (app_in wsL_law_b5 (app_in wsL_law_b6 (app_in wsL_law_b7 (app_in wsL_law_b8 (app_in wsL_law_b9 (app_in wsL_law_b10 (app_in wsL_law_b11 (app_in wsL_law_b12 (app_in wsL_law_b13 (app_in wsL_law_b14 (app_in wsL_law_b15 (app_in wsL_law_b16 (app_in wsL_law_b17 (app_in wsL_law_b18 (app_in wsL_law_b19 (app_in wsL_law_b20 (app_in wsL_law_b21 (app_in wsL_law_b22 (app_in wsL_law_b23 wsL_law_b24))))))))))))))))))))))) wsL_law_bx0) wsL_law_bx1) (fun w h => nomatch h)
theorem wsL_law_x0 : ∀ w ∈ (vx_atS RX0 37 "java/lang/IllegalArgumentException" ["java/lang/RuntimeException", "java/lang/Exception"]).filter goodWord, w ∈ lw_tbl := by decide +kernel
theorem wsL_law_x1 : ∀ w ∈ (vx_atS RX0 52 "java/lang/IllegalStateException" ["java/lang/RuntimeException", "java/lang/Exception"]).filter goodWord, w ∈ lw_tbl := by decide +kernel
theorem wsL_law_x2 : ∀ w ∈ (vx_atS RX0 156 "java/lang/IndexOutOfBoundsException" ["java/lang/RuntimeException", "java/lang/Exception"]).filter goodWord, w ∈ lw_tbl := by decide +kernel
theorem wsL_law_in : ∀ w ∈ wsL_law, w ∈ lw_tbl := fun w h => (List.mem_append.mp h).elim (fun h => (List.mem_append.mp h).elim (fun h => (List.mem_append.mp h).elim (fun h => wsL_law_in0 w h) (fun h => wsL_law_x0 w h)) (fun h => wsL_law_x1 w h)) (fun h => wsL_law_x2 w h)
theorem inlX0 : ∀ w ∈ wsX00, w ∈ wsL_law := fun _ h => List.mem_append_left _ (List.mem_append_left _ (List.mem_append_left _ (List.mem_append_left _ (List.mem_append_left _ (List.mem_append_right _ h)))))
theorem inX0 : ∀ w ∈ wsX00, w ∈ lw_tbl := fun w h => wsL_law_in w (inlX0 w h)
theorem inlX1 : ∀ w ∈ wsX10, w ∈ wsL_law := fun _ h => List.mem_append_left _ (List.mem_append_left _ (List.mem_append_left _ (List.mem_append_left _ (List.mem_append_right _ h))))
theorem inX1 : ∀ w ∈ wsX10, w ∈ lw_tbl := fun w h => wsL_law_in w (inlX1 w h)
theorem inJ9 : ∀ w ∈ wsJ90, w ∈ lw_tbl := by decide +kernel
theorem inJ0 : ∀ w ∈ wsJ00, w ∈ lw_tbl := by decide +kernel
theorem inJ10 : ∀ w ∈ wsJ100, w ∈ lw_tbl := by decide +kernel
abbrev vwCl : List vw_C := [(RX0, TX0, 10), (RX1, TX1, 8)]
end
section
theorem dX0_init_0 : decode cX0_init 0 = .ok (.aload_n 0, 1) := by decide +kernel
theorem dX0_init_1 : decode cX0_init 1 = .ok (.invokespecial 1, 3) := by decide +kernel
theorem dX0_init_4 : decode cX0_init 4 = .ok (.aload_n 0, 1) := by decide +kernel
theorem dX0_init_5 : decode cX0_init 5 = .ok (.bipush 8, 2) := by decide +kernel
theorem dX0_init_7 : decode cX0_init 7 = .ok (.newarray .int, 2) := by decide +kernel
theorem dX0_init_9 : decode cX0_init 9 = .ok (.putfield 9, 3) := by decide +kernel
theorem dX0_init_12 : decode cX0_init 12 = .ok (.aload_n 0, 1) := by decide +kernel
theorem dX0_init_13 : decode cX0_init 13 = .ok (.bipush 8, 2) := by decide +kernel
theorem dX0_init_15 : decode cX0_init 15 = .ok (.newarray .int, 2) := by decide +kernel
theorem dX0_init_17 : decode cX0_init 17 = .ok (.putfield 13, 3) := by decide +kernel
theorem dX0_init_20 : decode cX0_init 20 = .ok (.aload_n 0, 1) := by decide +kernel
theorem dX0_init_21 : decode cX0_init 21 = .ok (.bipush 8, 2) := by decide +kernel
theorem dX0_init_23 : decode cX0_init 23 = .ok (.newarray .int, 2) := by decide +kernel
theorem dX0_init_25 : decode cX0_init 25 = .ok (.putfield 16, 3) := by decide +kernel
theorem dX0_init_28 : decode cX0_init 28 = .ok (.aload_n 0, 1) := by decide +kernel
theorem dX0_init_29 : decode cX0_init 29 = .ok (.bipush 8, 2) := by decide +kernel
theorem dX0_init_31 : decode cX0_init 31 = .ok (.newarray .int, 2) := by decide +kernel
theorem dX0_init_33 : decode cX0_init 33 = .ok (.putfield 19, 3) := by decide +kernel
theorem dX0_init_36 : decode cX0_init 36 = .ok (.aload_n 0, 1) := by decide +kernel
theorem dX0_init_37 : decode cX0_init 37 = .ok (.bipush 8, 2) := by decide +kernel
theorem dX0_init_39 : decode cX0_init 39 = .ok (.newarray .int, 2) := by decide +kernel
theorem dX0_init_41 : decode cX0_init 41 = .ok (.putfield 22, 3) := by decide +kernel
theorem dX0_init_44 : decode cX0_init 44 = .ok (.aload_n 0, 1) := by decide +kernel
theorem dX0_init_45 : decode cX0_init 45 = .ok (.bipush 6, 2) := by decide +kernel
theorem dX0_init_47 : decode cX0_init 47 = .ok (.newarray .int, 2) := by decide +kernel
theorem dX0_init_49 : decode cX0_init 49 = .ok (.putfield 25, 3) := by decide +kernel
theorem dX0_init_52 : decode cX0_init 52 = .ok (.aload_n 0, 1) := by decide +kernel
theorem dX0_init_53 : decode cX0_init 53 = .ok (.bipush 6, 2) := by decide +kernel
theorem dX0_init_55 : decode cX0_init 55 = .ok (.bipush 8, 2) := by decide +kernel
theorem dX0_init_57 : decode cX0_init 57 = .ok (.multianewarray 28 2, 4) := by decide +kernel
theorem dX0_init_61 : decode cX0_init 61 = .ok (.putfield 30, 3) := by decide +kernel
theorem dX0_init_64 : decode cX0_init 64 = .ok (.return_, 1) := by decide +kernel
theorem dX0_list_0 : decode cX0_list 0 = .ok (.iload_n 1, 1) := by decide +kernel
theorem dX0_list_1 : decode cX0_list 1 = .ok (.iconst 1, 1) := by decide +kernel
theorem dX0_list_2 : decode cX0_list 2 = .ok (.if_icmp .lt 9, 3) := by decide +kernel
theorem dX0_list_5 : decode cX0_list 5 = .ok (.iload_n 1, 1) := by decide +kernel
theorem dX0_list_6 : decode cX0_list 6 = .ok (.bipush 9, 2) := by decide +kernel
theorem dX0_list_8 : decode cX0_list 8 = .ok (.if_icmp .le 13, 3) := by decide +kernel
theorem dX0_list_11 : decode cX0_list 11 = .ok (.new 33, 3) := by decide +kernel
theorem dX0_list_14 : decode cX0_list 14 = .ok (.dup, 1) := by decide +kernel
theorem dX0_list_15 : decode cX0_list 15 = .ok (.ldc 35, 2) := by decide +kernel
theorem dX0_list_17 : decode cX0_list 17 = .ok (.invokespecial 37, 3) := by decide +kernel
theorem dX0_list_20 : decode cX0_list 20 = .ok (.athrow, 1) := by decide +kernel
theorem dX0_list_21 : decode cX0_list 21 = .ok (.iload_n 2, 1) := by decide +kernel
theorem dX0_list_22 : decode cX0_list 22 = .ok (.iconst 2, 1) := by decide +kernel
theorem dX0_list_23 : decode cX0_list 23 = .ok (.if_icmp .lt 9, 3) := by decide +kernel
theorem dX0_list_26 : decode cX0_list 26 = .ok (.iload_n 2, 1) := by decide +kernel
theorem dX0_list_27 : decode cX0_list 27 = .ok (.bipush 20, 2) := by decide +kernel
theorem dX0_list_29 : decode cX0_list 29 = .ok (.if_icmp .le 13, 3) := by decide +kernel
theorem dX0_list_32 : decode cX0_list 32 = .ok (.new 33, 3) := by decide +kernel
theorem dX0_list_35 : decode cX0_list 35 = .ok (.dup, 1) := by decide +kernel
theorem dX0_list_36 : decode cX0_list 36 = .ok (.ldc 40, 2) := by decide +kernel
theorem dX0_list_38 : decode cX0_list 38 = .ok (.invokespecial 37, 3) := by decide +kernel
theorem dX0_list_41 : decode cX0_list 41 = .ok (.athrow, 1) := by decide +kernel
theorem dX0_list_42 : decode cX0_list 42 = .ok (.iload_n 3, 1) := by decide +kernel
theorem dX0_list_43 : decode cX0_list 43 = .ok (.ifCond .lt 8, 3) := by decide +kernel
theorem dX0_list_46 : decode cX0_list 46 = .ok (.iload_n 3, 1) := by decide +kernel
theorem dX0_list_47 : decode cX0_list 47 = .ok (.iload_n 2, 1) := by decide +kernel
theorem dX0_list_48 : decode cX0_list 48 = .ok (.if_icmp .lt 13, 3) := by decide +kernel
theorem dX0_list_51 : decode cX0_list 51 = .ok (.new 33, 3) := by decide +kernel
theorem dX0_list_54 : decode cX0_list 54 = .ok (.dup, 1) := by decide +kernel
theorem dX0_list_55 : decode cX0_list 55 = .ok (.ldc 42, 2) := by decide +kernel
theorem dX0_list_57 : decode cX0_list 57 = .ok (.invokespecial 37, 3) := by decide +kernel
theorem dX0_list_60 : decode cX0_list 60 = .ok (.athrow, 1) := by decide +kernel
theorem dX0_list_61 : decode cX0_list 61 = .ok (.aload_n 0, 1) := by decide +kernel
theorem dX0_list_62 : decode cX0_list 62 = .ok (.getfield 44, 3) := by decide +kernel
theorem dX0_list_65 : decode cX0_list 65 = .ok (.bipush 8, 2) := by decide +kernel
theorem dX0_list_67 : decode cX0_list 67 = .ok (.if_icmp .lt 13, 3) := by decide +kernel
theorem dX0_list_70 : decode cX0_list 70 = .ok (.new 48, 3) := by decide +kernel
theorem dX0_list_73 : decode cX0_list 73 = .ok (.dup, 1) := by decide +kernel
theorem dX0_list_74 : decode cX0_list 74 = .ok (.ldc 50, 2) := by decide +kernel
theorem dX0_list_76 : decode cX0_list 76 = .ok (.invokespecial 52, 3) := by decide +kernel
theorem dX0_list_79 : decode cX0_list 79 = .ok (.athrow, 1) := by decide +kernel
theorem dX0_list_80 : decode cX0_list 80 = .ok (.aload_n 0, 1) := by decide +kernel
theorem dX0_list_81 : decode cX0_list 81 = .ok (.getfield 44, 3) := by decide +kernel
theorem dX0_list_84 : decode cX0_list 84 = .ok (.istore 4, 2) := by decide +kernel
theorem dX0_list_86 : decode cX0_list 86 = .ok (.iload_n 3, 1) := by decide +kernel
theorem dX0_list_87 : decode cX0_list 87 = .ok (.aload_n 0, 1) := by decide +kernel
theorem dX0_list_88 : decode cX0_list 88 = .ok (.getfield 53, 3) := by decide +kernel
theorem dX0_list_91 : decode cX0_list 91 = .ok (.isub, 1) := by decide +kernel
theorem dX0_list_92 : decode cX0_list 92 = .ok (.iload_n 2, 1) := by decide +kernel
theorem dX0_list_93 : decode cX0_list 93 = .ok (.invokestatic 56, 3) := by decide +kernel
theorem dX0_list_96 : decode cX0_list 96 = .ok (.istore 5, 2) := by decide +kernel
theorem dX0_list_98 : decode cX0_list 98 = .ok (.aload_n 0, 1) := by decide +kernel
theorem dX0_list_99 : decode cX0_list 99 = .ok (.getfield 9, 3) := by decide +kernel
theorem dX0_list_102 : decode cX0_list 102 = .ok (.iload 4, 2) := by decide +kernel
theorem dX0_list_104 : decode cX0_list 104 = .ok (.iload_n 1, 1) := by decide +kernel
theorem dX0_list_105 : decode cX0_list 105 = .ok (.iastore, 1) := by decide +kernel
theorem dX0_list_106 : decode cX0_list 106 = .ok (.aload_n 0, 1) := by decide +kernel
theorem dX0_list_107 : decode cX0_list 107 = .ok (.getfield 13, 3) := by decide +kernel
theorem dX0_list_110 : decode cX0_list 110 = .ok (.iload 4, 2) := by decide +kernel
theorem dX0_list_112 : decode cX0_list 112 = .ok (.iload_n 2, 1) := by decide +kernel
theorem dX0_list_113 : decode cX0_list 113 = .ok (.iastore, 1) := by decide +kernel
theorem dX0_list_114 : decode cX0_list 114 = .ok (.aload_n 0, 1) := by decide +kernel
theorem dX0_list_115 : decode cX0_list 115 = .ok (.getfield 19, 3) := by decide +kernel
theorem dX0_list_118 : decode cX0_list 118 = .ok (.iload 4, 2) := by decide +kernel
theorem dX0_list_120 : decode cX0_list 120 = .ok (.iload 5, 2) := by decide +kernel
theorem dX0_list_122 : decode cX0_list 122 = .ok (.ifCond .ne 7, 3) := by decide +kernel
theorem dX0_list_125 : decode cX0_list 125 = .ok (.iload_n 2, 1) := by decide +kernel
theorem dX0_list_126 : decode cX0_list 126 = .ok (.goto 5, 3) := by decide +kernel
theorem dX0_list_129 : decode cX0_list 129 = .ok (.iload 5, 2) := by decide +kernel
theorem dX0_list_131 : decode cX0_list 131 = .ok (.iastore, 1) := by decide +kernel
theorem dX0_list_132 : decode cX0_list 132 = .ok (.aload_n 0, 1) := by decide +kernel
theorem dX0_list_133 : decode cX0_list 133 = .ok (.iload 4, 2) := by decide +kernel
theorem dX0_list_135 : decode cX0_list 135 = .ok (.iconst 1, 1) := by decide +kernel
theorem dX0_list_136 : decode cX0_list 136 = .ok (.iadd, 1) := by decide +kernel
theorem dX0_list_137 : decode cX0_list 137 = .ok (.putfield 44, 3) := by decide +kernel
theorem dX0_list_140 : decode cX0_list 140 = .ok (.iload 4, 2) := by decide +kernel
theorem dX0_list_142 : decode cX0_list 142 = .ok (.ireturn, 1) := by decide +kernel
theorem dX0_addTrader_0 : decode cX0_addTrader 0 = .ok (.aload_n 0, 1) := by decide +kernel
theorem dX0_addTrader_1 : decode cX0_addTrader 1 = .ok (.getfield 62, 3) := by decide +kernel
theorem dX0_addTrader_4 : decode cX0_addTrader 4 = .ok (.bipush 6, 2) := by decide +kernel
theorem dX0_addTrader_6 : decode cX0_addTrader 6 = .ok (.if_icmp .lt 13, 3) := by decide +kernel
theorem dX0_addTrader_9 : decode cX0_addTrader 9 = .ok (.new 48, 3) := by decide +kernel
theorem dX0_addTrader_12 : decode cX0_addTrader 12 = .ok (.dup, 1) := by decide +kernel
theorem dX0_addTrader_13 : decode cX0_addTrader 13 = .ok (.ldc 65, 2) := by decide +kernel
theorem dX0_addTrader_15 : decode cX0_addTrader 15 = .ok (.invokespecial 52, 3) := by decide +kernel
theorem dX0_addTrader_18 : decode cX0_addTrader 18 = .ok (.athrow, 1) := by decide +kernel
theorem dX0_addTrader_19 : decode cX0_addTrader 19 = .ok (.aload_n 0, 1) := by decide +kernel
theorem dX0_addTrader_20 : decode cX0_addTrader 20 = .ok (.getfield 62, 3) := by decide +kernel
theorem dX0_addTrader_23 : decode cX0_addTrader 23 = .ok (.istore_n 1, 1) := by decide +kernel
theorem dX0_addTrader_24 : decode cX0_addTrader 24 = .ok (.aload_n 0, 1) := by decide +kernel
theorem dX0_addTrader_25 : decode cX0_addTrader 25 = .ok (.getfield 25, 3) := by decide +kernel
theorem dX0_addTrader_28 : decode cX0_addTrader 28 = .ok (.iload_n 1, 1) := by decide +kernel
theorem dX0_addTrader_29 : decode cX0_addTrader 29 = .ok (.bipush 100, 2) := by decide +kernel
theorem dX0_addTrader_31 : decode cX0_addTrader 31 = .ok (.iastore, 1) := by decide +kernel
theorem dX0_addTrader_32 : decode cX0_addTrader 32 = .ok (.aload_n 0, 1) := by decide +kernel
theorem dX0_addTrader_33 : decode cX0_addTrader 33 = .ok (.iload_n 1, 1) := by decide +kernel
theorem dX0_addTrader_34 : decode cX0_addTrader 34 = .ok (.iconst 1, 1) := by decide +kernel
theorem dX0_addTrader_35 : decode cX0_addTrader 35 = .ok (.iadd, 1) := by decide +kernel
theorem dX0_addTrader_36 : decode cX0_addTrader 36 = .ok (.putfield 62, 3) := by decide +kernel
theorem dX0_addTrader_39 : decode cX0_addTrader 39 = .ok (.iload_n 1, 1) := by decide +kernel
theorem dX0_addTrader_40 : decode cX0_addTrader 40 = .ok (.ireturn, 1) := by decide +kernel
theorem dX0_buy_0 : decode cX0_buy 0 = .ok (.aload_n 0, 1) := by decide +kernel
theorem dX0_buy_1 : decode cX0_buy 1 = .ok (.iload_n 1, 1) := by decide +kernel
theorem dX0_buy_2 : decode cX0_buy 2 = .ok (.invokevirtual 67, 3) := by decide +kernel
theorem dX0_buy_5 : decode cX0_buy 5 = .ok (.aload_n 0, 1) := by decide +kernel
theorem dX0_buy_6 : decode cX0_buy 6 = .ok (.iload_n 2, 1) := by decide +kernel
theorem dX0_buy_7 : decode cX0_buy 7 = .ok (.invokevirtual 71, 3) := by decide +kernel
theorem dX0_buy_10 : decode cX0_buy 10 = .ok (.iload_n 3, 1) := by decide +kernel
theorem dX0_buy_11 : decode cX0_buy 11 = .ok (.invokestatic 74, 3) := by decide +kernel
theorem dX0_buy_14 : decode cX0_buy 14 = .ok (.aload_n 0, 1) := by decide +kernel
theorem dX0_buy_15 : decode cX0_buy 15 = .ok (.iload_n 2, 1) := by decide +kernel
theorem dX0_buy_16 : decode cX0_buy 16 = .ok (.invokevirtual 77, 3) := by decide +kernel
theorem dX0_buy_19 : decode cX0_buy 19 = .ok (.iload_n 3, 1) := by decide +kernel
theorem dX0_buy_20 : decode cX0_buy 20 = .ok (.imul, 1) := by decide +kernel
theorem dX0_buy_21 : decode cX0_buy 21 = .ok (.istore 4, 2) := by decide +kernel
theorem dX0_buy_23 : decode cX0_buy 23 = .ok (.aload_n 0, 1) := by decide +kernel
theorem dX0_buy_24 : decode cX0_buy 24 = .ok (.getfield 30, 3) := by decide +kernel
theorem dX0_buy_27 : decode cX0_buy 27 = .ok (.iload_n 1, 1) := by decide +kernel
theorem dX0_buy_28 : decode cX0_buy 28 = .ok (.aaload, 1) := by decide +kernel
theorem dX0_buy_29 : decode cX0_buy 29 = .ok (.iload_n 2, 1) := by decide +kernel
theorem dX0_buy_30 : decode cX0_buy 30 = .ok (.iaload, 1) := by decide +kernel
theorem dX0_buy_31 : decode cX0_buy 31 = .ok (.iload_n 3, 1) := by decide +kernel
theorem dX0_buy_32 : decode cX0_buy 32 = .ok (.iadd, 1) := by decide +kernel
theorem dX0_buy_33 : decode cX0_buy 33 = .ok (.bipush 9, 2) := by decide +kernel
theorem dX0_buy_35 : decode cX0_buy 35 = .ok (.if_icmp .le 13, 3) := by decide +kernel
theorem dX0_buy_38 : decode cX0_buy 38 = .ok (.new 48, 3) := by decide +kernel
theorem dX0_buy_41 : decode cX0_buy 41 = .ok (.dup, 1) := by decide +kernel
theorem dX0_buy_42 : decode cX0_buy 42 = .ok (.ldc 81, 2) := by decide +kernel
theorem dX0_buy_44 : decode cX0_buy 44 = .ok (.invokespecial 52, 3) := by decide +kernel
theorem dX0_buy_47 : decode cX0_buy 47 = .ok (.athrow, 1) := by decide +kernel
theorem dX0_buy_48 : decode cX0_buy 48 = .ok (.aload_n 0, 1) := by decide +kernel
theorem dX0_buy_49 : decode cX0_buy 49 = .ok (.getfield 25, 3) := by decide +kernel
theorem dX0_buy_52 : decode cX0_buy 52 = .ok (.iload_n 1, 1) := by decide +kernel
theorem dX0_buy_53 : decode cX0_buy 53 = .ok (.iaload, 1) := by decide +kernel
theorem dX0_buy_54 : decode cX0_buy 54 = .ok (.iload 4, 2) := by decide +kernel
theorem dX0_buy_56 : decode cX0_buy 56 = .ok (.if_icmp .ge 13, 3) := by decide +kernel
theorem dX0_buy_59 : decode cX0_buy 59 = .ok (.new 48, 3) := by decide +kernel
theorem dX0_buy_62 : decode cX0_buy 62 = .ok (.dup, 1) := by decide +kernel
theorem dX0_buy_63 : decode cX0_buy 63 = .ok (.ldc 83, 2) := by decide +kernel
theorem dX0_buy_65 : decode cX0_buy 65 = .ok (.invokespecial 52, 3) := by decide +kernel
theorem dX0_buy_68 : decode cX0_buy 68 = .ok (.athrow, 1) := by decide +kernel
theorem dX0_buy_69 : decode cX0_buy 69 = .ok (.aload_n 0, 1) := by decide +kernel
theorem dX0_buy_70 : decode cX0_buy 70 = .ok (.getfield 25, 3) := by decide +kernel
theorem dX0_buy_73 : decode cX0_buy 73 = .ok (.iload_n 1, 1) := by decide +kernel
theorem dX0_buy_74 : decode cX0_buy 74 = .ok (.dup2, 1) := by decide +kernel
theorem dX0_buy_75 : decode cX0_buy 75 = .ok (.iaload, 1) := by decide +kernel
theorem dX0_buy_76 : decode cX0_buy 76 = .ok (.iload 4, 2) := by decide +kernel
theorem dX0_buy_78 : decode cX0_buy 78 = .ok (.isub, 1) := by decide +kernel
theorem dX0_buy_79 : decode cX0_buy 79 = .ok (.iastore, 1) := by decide +kernel
theorem dX0_buy_80 : decode cX0_buy 80 = .ok (.aload_n 0, 1) := by decide +kernel
theorem dX0_buy_81 : decode cX0_buy 81 = .ok (.getfield 30, 3) := by decide +kernel
theorem dX0_buy_84 : decode cX0_buy 84 = .ok (.iload_n 1, 1) := by decide +kernel
theorem dX0_buy_85 : decode cX0_buy 85 = .ok (.aaload, 1) := by decide +kernel
theorem dX0_buy_86 : decode cX0_buy 86 = .ok (.iload_n 2, 1) := by decide +kernel
theorem dX0_buy_87 : decode cX0_buy 87 = .ok (.dup2, 1) := by decide +kernel
theorem dX0_buy_88 : decode cX0_buy 88 = .ok (.iaload, 1) := by decide +kernel
theorem dX0_buy_89 : decode cX0_buy 89 = .ok (.iload_n 3, 1) := by decide +kernel
theorem dX0_buy_90 : decode cX0_buy 90 = .ok (.iadd, 1) := by decide +kernel
theorem dX0_buy_91 : decode cX0_buy 91 = .ok (.iastore, 1) := by decide +kernel
theorem dX0_buy_92 : decode cX0_buy 92 = .ok (.iload 4, 2) := by decide +kernel
theorem dX0_buy_94 : decode cX0_buy 94 = .ok (.ireturn, 1) := by decide +kernel
theorem dX0_sell_0 : decode cX0_sell 0 = .ok (.aload_n 0, 1) := by decide +kernel
theorem dX0_sell_1 : decode cX0_sell 1 = .ok (.iload_n 1, 1) := by decide +kernel
theorem dX0_sell_2 : decode cX0_sell 2 = .ok (.invokevirtual 67, 3) := by decide +kernel
theorem dX0_sell_5 : decode cX0_sell 5 = .ok (.aload_n 0, 1) := by decide +kernel
theorem dX0_sell_6 : decode cX0_sell 6 = .ok (.iload_n 2, 1) := by decide +kernel
theorem dX0_sell_7 : decode cX0_sell 7 = .ok (.invokevirtual 71, 3) := by decide +kernel
theorem dX0_sell_10 : decode cX0_sell 10 = .ok (.iload_n 3, 1) := by decide +kernel
theorem dX0_sell_11 : decode cX0_sell 11 = .ok (.invokestatic 74, 3) := by decide +kernel
theorem dX0_sell_14 : decode cX0_sell 14 = .ok (.aload_n 0, 1) := by decide +kernel
theorem dX0_sell_15 : decode cX0_sell 15 = .ok (.getfield 30, 3) := by decide +kernel
theorem dX0_sell_18 : decode cX0_sell 18 = .ok (.iload_n 1, 1) := by decide +kernel
theorem dX0_sell_19 : decode cX0_sell 19 = .ok (.aaload, 1) := by decide +kernel
theorem dX0_sell_20 : decode cX0_sell 20 = .ok (.iload_n 2, 1) := by decide +kernel
theorem dX0_sell_21 : decode cX0_sell 21 = .ok (.iaload, 1) := by decide +kernel
theorem dX0_sell_22 : decode cX0_sell 22 = .ok (.iload_n 3, 1) := by decide +kernel
theorem dX0_sell_23 : decode cX0_sell 23 = .ok (.isub, 1) := by decide +kernel
theorem dX0_sell_24 : decode cX0_sell 24 = .ok (.bipush (-9), 2) := by decide +kernel
theorem dX0_sell_26 : decode cX0_sell 26 = .ok (.if_icmp .ge 13, 3) := by decide +kernel
theorem dX0_sell_29 : decode cX0_sell 29 = .ok (.new 48, 3) := by decide +kernel
theorem dX0_sell_32 : decode cX0_sell 32 = .ok (.dup, 1) := by decide +kernel
theorem dX0_sell_33 : decode cX0_sell 33 = .ok (.ldc 85, 2) := by decide +kernel
theorem dX0_sell_35 : decode cX0_sell 35 = .ok (.invokespecial 52, 3) := by decide +kernel
theorem dX0_sell_38 : decode cX0_sell 38 = .ok (.athrow, 1) := by decide +kernel
theorem dX0_sell_39 : decode cX0_sell 39 = .ok (.aload_n 0, 1) := by decide +kernel
theorem dX0_sell_40 : decode cX0_sell 40 = .ok (.iload_n 2, 1) := by decide +kernel
theorem dX0_sell_41 : decode cX0_sell 41 = .ok (.invokevirtual 77, 3) := by decide +kernel
theorem dX0_sell_44 : decode cX0_sell 44 = .ok (.iload_n 3, 1) := by decide +kernel
theorem dX0_sell_45 : decode cX0_sell 45 = .ok (.imul, 1) := by decide +kernel
theorem dX0_sell_46 : decode cX0_sell 46 = .ok (.istore 4, 2) := by decide +kernel
theorem dX0_sell_48 : decode cX0_sell 48 = .ok (.aload_n 0, 1) := by decide +kernel
theorem dX0_sell_49 : decode cX0_sell 49 = .ok (.getfield 25, 3) := by decide +kernel
theorem dX0_sell_52 : decode cX0_sell 52 = .ok (.iload_n 1, 1) := by decide +kernel
theorem dX0_sell_53 : decode cX0_sell 53 = .ok (.dup2, 1) := by decide +kernel
theorem dX0_sell_54 : decode cX0_sell 54 = .ok (.iaload, 1) := by decide +kernel
theorem dX0_sell_55 : decode cX0_sell 55 = .ok (.iload 4, 2) := by decide +kernel
theorem dX0_sell_57 : decode cX0_sell 57 = .ok (.iadd, 1) := by decide +kernel
theorem dX0_sell_58 : decode cX0_sell 58 = .ok (.iastore, 1) := by decide +kernel
theorem dX0_sell_59 : decode cX0_sell 59 = .ok (.aload_n 0, 1) := by decide +kernel
theorem dX0_sell_60 : decode cX0_sell 60 = .ok (.getfield 30, 3) := by decide +kernel
theorem dX0_sell_63 : decode cX0_sell 63 = .ok (.iload_n 1, 1) := by decide +kernel
theorem dX0_sell_64 : decode cX0_sell 64 = .ok (.aaload, 1) := by decide +kernel
theorem dX0_sell_65 : decode cX0_sell 65 = .ok (.iload_n 2, 1) := by decide +kernel
theorem dX0_sell_66 : decode cX0_sell 66 = .ok (.dup2, 1) := by decide +kernel
theorem dX0_sell_67 : decode cX0_sell 67 = .ok (.iaload, 1) := by decide +kernel
theorem dX0_sell_68 : decode cX0_sell 68 = .ok (.iload_n 3, 1) := by decide +kernel
theorem dX0_sell_69 : decode cX0_sell 69 = .ok (.isub, 1) := by decide +kernel
theorem dX0_sell_70 : decode cX0_sell 70 = .ok (.iastore, 1) := by decide +kernel
theorem dX0_sell_71 : decode cX0_sell 71 = .ok (.iload 4, 2) := by decide +kernel
theorem dX0_sell_73 : decode cX0_sell 73 = .ok (.ireturn, 1) := by decide +kernel
theorem dX0_pass_0 : decode cX0_pass 0 = .ok (.iload_n 1, 1) := by decide +kernel
theorem dX0_pass_1 : decode cX0_pass 1 = .ok (.invokestatic 87, 3) := by decide +kernel
theorem dX0_pass_4 : decode cX0_pass 4 = .ok (.iconst 0, 1) := by decide +kernel
theorem dX0_pass_5 : decode cX0_pass 5 = .ok (.istore_n 2, 1) := by decide +kernel
theorem dX0_pass_6 : decode cX0_pass 6 = .ok (.iconst 0, 1) := by decide +kernel
theorem dX0_pass_7 : decode cX0_pass 7 = .ok (.istore_n 3, 1) := by decide +kernel
theorem dX0_pass_8 : decode cX0_pass 8 = .ok (.iload_n 3, 1) := by decide +kernel
theorem dX0_pass_9 : decode cX0_pass 9 = .ok (.iload_n 1, 1) := by decide +kernel
theorem dX0_pass_10 : decode cX0_pass 10 = .ok (.if_icmp .ge 16, 3) := by decide +kernel
theorem dX0_pass_13 : decode cX0_pass 13 = .ok (.iload_n 2, 1) := by decide +kernel
theorem dX0_pass_14 : decode cX0_pass 14 = .ok (.aload_n 0, 1) := by decide +kernel
theorem dX0_pass_15 : decode cX0_pass 15 = .ok (.invokevirtual 90, 3) := by decide +kernel
theorem dX0_pass_18 : decode cX0_pass 18 = .ok (.iadd, 1) := by decide +kernel
theorem dX0_pass_19 : decode cX0_pass 19 = .ok (.istore_n 2, 1) := by decide +kernel
theorem dX0_pass_20 : decode cX0_pass 20 = .ok (.iinc 3 1, 3) := by decide +kernel
theorem dX0_pass_23 : decode cX0_pass 23 = .ok (.goto (-15), 3) := by decide +kernel
theorem dX0_pass_26 : decode cX0_pass 26 = .ok (.iload_n 2, 1) := by decide +kernel
theorem dX0_pass_27 : decode cX0_pass 27 = .ok (.ireturn, 1) := by decide +kernel
theorem dX0_second_0 : decode cX0_second 0 = .ok (.aload_n 0, 1) := by decide +kernel
theorem dX0_second_1 : decode cX0_second 1 = .ok (.getfield 53, 3) := by decide +kernel
theorem dX0_second_4 : decode cX0_second 4 = .ok (.ireturn, 1) := by decide +kernel
theorem dX0_towers_0 : decode cX0_towers 0 = .ok (.aload_n 0, 1) := by decide +kernel
theorem dX0_towers_1 : decode cX0_towers 1 = .ok (.getfield 44, 3) := by decide +kernel
theorem dX0_towers_4 : decode cX0_towers 4 = .ok (.ireturn, 1) := by decide +kernel
theorem dX0_silenceOf_0 : decode cX0_silenceOf 0 = .ok (.aload_n 0, 1) := by decide +kernel
theorem dX0_silenceOf_1 : decode cX0_silenceOf 1 = .ok (.iload_n 1, 1) := by decide +kernel
theorem dX0_silenceOf_2 : decode cX0_silenceOf 2 = .ok (.invokevirtual 71, 3) := by decide +kernel
theorem dX0_silenceOf_5 : decode cX0_silenceOf 5 = .ok (.aload_n 0, 1) := by decide +kernel
theorem dX0_silenceOf_6 : decode cX0_silenceOf 6 = .ok (.getfield 16, 3) := by decide +kernel
theorem dX0_silenceOf_9 : decode cX0_silenceOf 9 = .ok (.iload_n 1, 1) := by decide +kernel
theorem dX0_silenceOf_10 : decode cX0_silenceOf 10 = .ok (.iaload, 1) := by decide +kernel
theorem dX0_silenceOf_11 : decode cX0_silenceOf 11 = .ok (.ireturn, 1) := by decide +kernel
theorem dX0_dovesOn_0 : decode cX0_dovesOn 0 = .ok (.aload_n 0, 1) := by decide +kernel
theorem dX0_dovesOn_1 : decode cX0_dovesOn 1 = .ok (.iload_n 1, 1) := by decide +kernel
theorem dX0_dovesOn_2 : decode cX0_dovesOn 2 = .ok (.invokevirtual 71, 3) := by decide +kernel
theorem dX0_dovesOn_5 : decode cX0_dovesOn 5 = .ok (.aload_n 0, 1) := by decide +kernel
theorem dX0_dovesOn_6 : decode cX0_dovesOn 6 = .ok (.iload_n 1, 1) := by decide +kernel
theorem dX0_dovesOn_7 : decode cX0_dovesOn 7 = .ok (.invokevirtual 94, 3) := by decide +kernel
theorem dX0_dovesOn_10 : decode cX0_dovesOn 10 = .ok (.ireturn, 1) := by decide +kernel
theorem dX0_priceOf_0 : decode cX0_priceOf 0 = .ok (.aload_n 0, 1) := by decide +kernel
theorem dX0_priceOf_1 : decode cX0_priceOf 1 = .ok (.iload_n 1, 1) := by decide +kernel
theorem dX0_priceOf_2 : decode cX0_priceOf 2 = .ok (.invokevirtual 71, 3) := by decide +kernel
theorem dX0_priceOf_5 : decode cX0_priceOf 5 = .ok (.aload_n 0, 1) := by decide +kernel
theorem dX0_priceOf_6 : decode cX0_priceOf 6 = .ok (.iload_n 1, 1) := by decide +kernel
theorem dX0_priceOf_7 : decode cX0_priceOf 7 = .ok (.invokevirtual 77, 3) := by decide +kernel
theorem dX0_priceOf_10 : decode cX0_priceOf 10 = .ok (.ireturn, 1) := by decide +kernel
theorem dX0_secondsUntilStroke_0 : decode cX0_secondsUntilStroke 0 = .ok (.aload_n 0, 1) := by decide +kernel
theorem dX0_secondsUntilStroke_1 : decode cX0_secondsUntilStroke 1 = .ok (.iload_n 1, 1) := by decide +kernel
theorem dX0_secondsUntilStroke_2 : decode cX0_secondsUntilStroke 2 = .ok (.invokevirtual 71, 3) := by decide +kernel
theorem dX0_secondsUntilStroke_5 : decode cX0_secondsUntilStroke 5 = .ok (.aload_n 0, 1) := by decide +kernel
theorem dX0_secondsUntilStroke_6 : decode cX0_secondsUntilStroke 6 = .ok (.getfield 19, 3) := by decide +kernel
theorem dX0_secondsUntilStroke_9 : decode cX0_secondsUntilStroke 9 = .ok (.iload_n 1, 1) := by decide +kernel
theorem dX0_secondsUntilStroke_10 : decode cX0_secondsUntilStroke 10 = .ok (.iaload, 1) := by decide +kernel
theorem dX0_secondsUntilStroke_11 : decode cX0_secondsUntilStroke 11 = .ok (.ireturn, 1) := by decide +kernel
theorem dX0_strokesOf_0 : decode cX0_strokesOf 0 = .ok (.aload_n 0, 1) := by decide +kernel
theorem dX0_strokesOf_1 : decode cX0_strokesOf 1 = .ok (.iload_n 1, 1) := by decide +kernel
theorem dX0_strokesOf_2 : decode cX0_strokesOf 2 = .ok (.invokevirtual 71, 3) := by decide +kernel
theorem dX0_strokesOf_5 : decode cX0_strokesOf 5 = .ok (.aload_n 0, 1) := by decide +kernel
theorem dX0_strokesOf_6 : decode cX0_strokesOf 6 = .ok (.getfield 22, 3) := by decide +kernel
theorem dX0_strokesOf_9 : decode cX0_strokesOf 9 = .ok (.iload_n 1, 1) := by decide +kernel
theorem dX0_strokesOf_10 : decode cX0_strokesOf 10 = .ok (.iaload, 1) := by decide +kernel
theorem dX0_strokesOf_11 : decode cX0_strokesOf 11 = .ok (.ireturn, 1) := by decide +kernel
theorem dX0_openSeconds_0 : decode cX0_openSeconds 0 = .ok (.aload_n 0, 1) := by decide +kernel
theorem dX0_openSeconds_1 : decode cX0_openSeconds 1 = .ok (.iload_n 1, 1) := by decide +kernel
theorem dX0_openSeconds_2 : decode cX0_openSeconds 2 = .ok (.invokevirtual 71, 3) := by decide +kernel
theorem dX0_openSeconds_5 : decode cX0_openSeconds 5 = .ok (.aload_n 0, 1) := by decide +kernel
theorem dX0_openSeconds_6 : decode cX0_openSeconds 6 = .ok (.iload_n 1, 1) := by decide +kernel
theorem dX0_openSeconds_7 : decode cX0_openSeconds 7 = .ok (.invokevirtual 97, 3) := by decide +kernel
theorem dX0_openSeconds_10 : decode cX0_openSeconds 10 = .ok (.ireturn, 1) := by decide +kernel
theorem dX0_dearest_0 : decode cX0_dearest 0 = .ok (.iconst (-1), 1) := by decide +kernel
theorem dX0_dearest_1 : decode cX0_dearest 1 = .ok (.istore_n 1, 1) := by decide +kernel
theorem dX0_dearest_2 : decode cX0_dearest 2 = .ok (.iconst 0, 1) := by decide +kernel
theorem dX0_dearest_3 : decode cX0_dearest 3 = .ok (.istore_n 2, 1) := by decide +kernel
theorem dX0_dearest_4 : decode cX0_dearest 4 = .ok (.iload_n 2, 1) := by decide +kernel
theorem dX0_dearest_5 : decode cX0_dearest 5 = .ok (.aload_n 0, 1) := by decide +kernel
theorem dX0_dearest_6 : decode cX0_dearest 6 = .ok (.getfield 44, 3) := by decide +kernel
theorem dX0_dearest_9 : decode cX0_dearest 9 = .ok (.if_icmp .ge 28, 3) := by decide +kernel
theorem dX0_dearest_12 : decode cX0_dearest 12 = .ok (.iload_n 1, 1) := by decide +kernel
theorem dX0_dearest_13 : decode cX0_dearest 13 = .ok (.ifCond .lt 16, 3) := by decide +kernel
theorem dX0_dearest_16 : decode cX0_dearest 16 = .ok (.aload_n 0, 1) := by decide +kernel
theorem dX0_dearest_17 : decode cX0_dearest 17 = .ok (.iload_n 2, 1) := by decide +kernel
theorem dX0_dearest_18 : decode cX0_dearest 18 = .ok (.invokevirtual 77, 3) := by decide +kernel
theorem dX0_dearest_21 : decode cX0_dearest 21 = .ok (.aload_n 0, 1) := by decide +kernel
theorem dX0_dearest_22 : decode cX0_dearest 22 = .ok (.iload_n 1, 1) := by decide +kernel
theorem dX0_dearest_23 : decode cX0_dearest 23 = .ok (.invokevirtual 77, 3) := by decide +kernel
theorem dX0_dearest_26 : decode cX0_dearest 26 = .ok (.if_icmp .le 5, 3) := by decide +kernel
theorem dX0_dearest_29 : decode cX0_dearest 29 = .ok (.iload_n 2, 1) := by decide +kernel
theorem dX0_dearest_30 : decode cX0_dearest 30 = .ok (.istore_n 1, 1) := by decide +kernel
theorem dX0_dearest_31 : decode cX0_dearest 31 = .ok (.iinc 2 1, 3) := by decide +kernel
theorem dX0_dearest_34 : decode cX0_dearest 34 = .ok (.goto (-30), 3) := by decide +kernel
theorem dX0_dearest_37 : decode cX0_dearest 37 = .ok (.iload_n 1, 1) := by decide +kernel
theorem dX0_dearest_38 : decode cX0_dearest 38 = .ok (.ireturn, 1) := by decide +kernel
theorem dX0_nextToStrike_0 : decode cX0_nextToStrike 0 = .ok (.iconst (-1), 1) := by decide +kernel
theorem dX0_nextToStrike_1 : decode cX0_nextToStrike 1 = .ok (.istore_n 1, 1) := by decide +kernel
theorem dX0_nextToStrike_2 : decode cX0_nextToStrike 2 = .ok (.iconst 0, 1) := by decide +kernel
theorem dX0_nextToStrike_3 : decode cX0_nextToStrike 3 = .ok (.istore_n 2, 1) := by decide +kernel
theorem dX0_nextToStrike_4 : decode cX0_nextToStrike 4 = .ok (.iload_n 2, 1) := by decide +kernel
theorem dX0_nextToStrike_5 : decode cX0_nextToStrike 5 = .ok (.aload_n 0, 1) := by decide +kernel
theorem dX0_nextToStrike_6 : decode cX0_nextToStrike 6 = .ok (.getfield 44, 3) := by decide +kernel
theorem dX0_nextToStrike_9 : decode cX0_nextToStrike 9 = .ok (.if_icmp .ge 30, 3) := by decide +kernel
theorem dX0_nextToStrike_12 : decode cX0_nextToStrike 12 = .ok (.iload_n 1, 1) := by decide +kernel
theorem dX0_nextToStrike_13 : decode cX0_nextToStrike 13 = .ok (.ifCond .lt 18, 3) := by decide +kernel
theorem dX0_nextToStrike_16 : decode cX0_nextToStrike 16 = .ok (.aload_n 0, 1) := by decide +kernel
theorem dX0_nextToStrike_17 : decode cX0_nextToStrike 17 = .ok (.getfield 19, 3) := by decide +kernel
theorem dX0_nextToStrike_20 : decode cX0_nextToStrike 20 = .ok (.iload_n 2, 1) := by decide +kernel
theorem dX0_nextToStrike_21 : decode cX0_nextToStrike 21 = .ok (.iaload, 1) := by decide +kernel
theorem dX0_nextToStrike_22 : decode cX0_nextToStrike 22 = .ok (.aload_n 0, 1) := by decide +kernel
theorem dX0_nextToStrike_23 : decode cX0_nextToStrike 23 = .ok (.getfield 19, 3) := by decide +kernel
theorem dX0_nextToStrike_26 : decode cX0_nextToStrike 26 = .ok (.iload_n 1, 1) := by decide +kernel
theorem dX0_nextToStrike_27 : decode cX0_nextToStrike 27 = .ok (.iaload, 1) := by decide +kernel
theorem dX0_nextToStrike_28 : decode cX0_nextToStrike 28 = .ok (.if_icmp .ge 5, 3) := by decide +kernel
theorem dX0_nextToStrike_31 : decode cX0_nextToStrike 31 = .ok (.iload_n 2, 1) := by decide +kernel
theorem dX0_nextToStrike_32 : decode cX0_nextToStrike 32 = .ok (.istore_n 1, 1) := by decide +kernel
theorem dX0_nextToStrike_33 : decode cX0_nextToStrike 33 = .ok (.iinc 2 1, 3) := by decide +kernel
theorem dX0_nextToStrike_36 : decode cX0_nextToStrike 36 = .ok (.goto (-32), 3) := by decide +kernel
theorem dX0_nextToStrike_39 : decode cX0_nextToStrike 39 = .ok (.iload_n 1, 1) := by decide +kernel
theorem dX0_nextToStrike_40 : decode cX0_nextToStrike 40 = .ok (.ireturn, 1) := by decide +kernel
theorem dX0_traders_0 : decode cX0_traders 0 = .ok (.aload_n 0, 1) := by decide +kernel
theorem dX0_traders_1 : decode cX0_traders 1 = .ok (.getfield 62, 3) := by decide +kernel
theorem dX0_traders_4 : decode cX0_traders 4 = .ok (.ireturn, 1) := by decide +kernel
theorem dX0_purseOf_0 : decode cX0_purseOf 0 = .ok (.aload_n 0, 1) := by decide +kernel
theorem dX0_purseOf_1 : decode cX0_purseOf 1 = .ok (.iload_n 1, 1) := by decide +kernel
theorem dX0_purseOf_2 : decode cX0_purseOf 2 = .ok (.invokevirtual 67, 3) := by decide +kernel
theorem dX0_purseOf_5 : decode cX0_purseOf 5 = .ok (.aload_n 0, 1) := by decide +kernel
theorem dX0_purseOf_6 : decode cX0_purseOf 6 = .ok (.getfield 25, 3) := by decide +kernel
theorem dX0_purseOf_9 : decode cX0_purseOf 9 = .ok (.iload_n 1, 1) := by decide +kernel
theorem dX0_purseOf_10 : decode cX0_purseOf 10 = .ok (.iaload, 1) := by decide +kernel
theorem dX0_purseOf_11 : decode cX0_purseOf 11 = .ok (.ireturn, 1) := by decide +kernel
theorem dX0_holds_0 : decode cX0_holds 0 = .ok (.aload_n 0, 1) := by decide +kernel
theorem dX0_holds_1 : decode cX0_holds 1 = .ok (.iload_n 1, 1) := by decide +kernel
theorem dX0_holds_2 : decode cX0_holds 2 = .ok (.invokevirtual 67, 3) := by decide +kernel
theorem dX0_holds_5 : decode cX0_holds 5 = .ok (.aload_n 0, 1) := by decide +kernel
theorem dX0_holds_6 : decode cX0_holds 6 = .ok (.iload_n 2, 1) := by decide +kernel
theorem dX0_holds_7 : decode cX0_holds 7 = .ok (.invokevirtual 71, 3) := by decide +kernel
theorem dX0_holds_10 : decode cX0_holds 10 = .ok (.aload_n 0, 1) := by decide +kernel
theorem dX0_holds_11 : decode cX0_holds 11 = .ok (.getfield 30, 3) := by decide +kernel
theorem dX0_holds_14 : decode cX0_holds 14 = .ok (.iload_n 1, 1) := by decide +kernel
theorem dX0_holds_15 : decode cX0_holds 15 = .ok (.aaload, 1) := by decide +kernel
theorem dX0_holds_16 : decode cX0_holds 16 = .ok (.iload_n 2, 1) := by decide +kernel
theorem dX0_holds_17 : decode cX0_holds 17 = .ok (.iaload, 1) := by decide +kernel
theorem dX0_holds_18 : decode cX0_holds 18 = .ok (.ireturn, 1) := by decide +kernel
theorem dX0_worthOf_0 : decode cX0_worthOf 0 = .ok (.aload_n 0, 1) := by decide +kernel
theorem dX0_worthOf_1 : decode cX0_worthOf 1 = .ok (.iload_n 1, 1) := by decide +kernel
theorem dX0_worthOf_2 : decode cX0_worthOf 2 = .ok (.invokevirtual 67, 3) := by decide +kernel
theorem dX0_worthOf_5 : decode cX0_worthOf 5 = .ok (.aload_n 0, 1) := by decide +kernel
theorem dX0_worthOf_6 : decode cX0_worthOf 6 = .ok (.iload_n 1, 1) := by decide +kernel
theorem dX0_worthOf_7 : decode cX0_worthOf 7 = .ok (.iconst 0, 1) := by decide +kernel
theorem dX0_worthOf_8 : decode cX0_worthOf 8 = .ok (.invokevirtual 100, 3) := by decide +kernel
theorem dX0_worthOf_11 : decode cX0_worthOf 11 = .ok (.ireturn, 1) := by decide +kernel
theorem dX0_richest_0 : decode cX0_richest 0 = .ok (.iconst (-1), 1) := by decide +kernel
theorem dX0_richest_1 : decode cX0_richest 1 = .ok (.istore_n 1, 1) := by decide +kernel
theorem dX0_richest_2 : decode cX0_richest 2 = .ok (.iconst 0, 1) := by decide +kernel
theorem dX0_richest_3 : decode cX0_richest 3 = .ok (.istore_n 2, 1) := by decide +kernel
theorem dX0_richest_4 : decode cX0_richest 4 = .ok (.iload_n 2, 1) := by decide +kernel
theorem dX0_richest_5 : decode cX0_richest 5 = .ok (.aload_n 0, 1) := by decide +kernel
theorem dX0_richest_6 : decode cX0_richest 6 = .ok (.getfield 62, 3) := by decide +kernel
theorem dX0_richest_9 : decode cX0_richest 9 = .ok (.if_icmp .ge 30, 3) := by decide +kernel
theorem dX0_richest_12 : decode cX0_richest 12 = .ok (.iload_n 1, 1) := by decide +kernel
theorem dX0_richest_13 : decode cX0_richest 13 = .ok (.ifCond .lt 18, 3) := by decide +kernel
theorem dX0_richest_16 : decode cX0_richest 16 = .ok (.aload_n 0, 1) := by decide +kernel
theorem dX0_richest_17 : decode cX0_richest 17 = .ok (.iload_n 2, 1) := by decide +kernel
theorem dX0_richest_18 : decode cX0_richest 18 = .ok (.iconst 0, 1) := by decide +kernel
theorem dX0_richest_19 : decode cX0_richest 19 = .ok (.invokevirtual 100, 3) := by decide +kernel
theorem dX0_richest_22 : decode cX0_richest 22 = .ok (.aload_n 0, 1) := by decide +kernel
theorem dX0_richest_23 : decode cX0_richest 23 = .ok (.iload_n 1, 1) := by decide +kernel
theorem dX0_richest_24 : decode cX0_richest 24 = .ok (.iconst 0, 1) := by decide +kernel
theorem dX0_richest_25 : decode cX0_richest 25 = .ok (.invokevirtual 100, 3) := by decide +kernel
theorem dX0_richest_28 : decode cX0_richest 28 = .ok (.if_icmp .le 5, 3) := by decide +kernel
theorem dX0_richest_31 : decode cX0_richest 31 = .ok (.iload_n 2, 1) := by decide +kernel
theorem dX0_richest_32 : decode cX0_richest 32 = .ok (.istore_n 1, 1) := by decide +kernel
theorem dX0_richest_33 : decode cX0_richest 33 = .ok (.iinc 2 1, 3) := by decide +kernel
theorem dX0_richest_36 : decode cX0_richest 36 = .ok (.goto (-32), 3) := by decide +kernel
theorem dX0_richest_39 : decode cX0_richest 39 = .ok (.iload_n 1, 1) := by decide +kernel
theorem dX0_richest_40 : decode cX0_richest 40 = .ok (.ireturn, 1) := by decide +kernel
theorem dX0_shortsOf_0 : decode cX0_shortsOf 0 = .ok (.aload_n 0, 1) := by decide +kernel
theorem dX0_shortsOf_1 : decode cX0_shortsOf 1 = .ok (.iload_n 1, 1) := by decide +kernel
theorem dX0_shortsOf_2 : decode cX0_shortsOf 2 = .ok (.invokevirtual 67, 3) := by decide +kernel
theorem dX0_shortsOf_5 : decode cX0_shortsOf 5 = .ok (.aload_n 0, 1) := by decide +kernel
theorem dX0_shortsOf_6 : decode cX0_shortsOf 6 = .ok (.iload_n 1, 1) := by decide +kernel
theorem dX0_shortsOf_7 : decode cX0_shortsOf 7 = .ok (.invokevirtual 103, 3) := by decide +kernel
theorem dX0_shortsOf_10 : decode cX0_shortsOf 10 = .ok (.ireturn, 1) := by decide +kernel
theorem dX0_inDebt_0 : decode cX0_inDebt 0 = .ok (.iconst 0, 1) := by decide +kernel
theorem dX0_inDebt_1 : decode cX0_inDebt 1 = .ok (.istore_n 1, 1) := by decide +kernel
theorem dX0_inDebt_2 : decode cX0_inDebt 2 = .ok (.iconst 0, 1) := by decide +kernel
theorem dX0_inDebt_3 : decode cX0_inDebt 3 = .ok (.istore_n 2, 1) := by decide +kernel
theorem dX0_inDebt_4 : decode cX0_inDebt 4 = .ok (.iload_n 2, 1) := by decide +kernel
theorem dX0_inDebt_5 : decode cX0_inDebt 5 = .ok (.aload_n 0, 1) := by decide +kernel
theorem dX0_inDebt_6 : decode cX0_inDebt 6 = .ok (.getfield 62, 3) := by decide +kernel
theorem dX0_inDebt_9 : decode cX0_inDebt 9 = .ok (.if_icmp .ge 21, 3) := by decide +kernel
theorem dX0_inDebt_12 : decode cX0_inDebt 12 = .ok (.aload_n 0, 1) := by decide +kernel
theorem dX0_inDebt_13 : decode cX0_inDebt 13 = .ok (.getfield 25, 3) := by decide +kernel
theorem dX0_inDebt_16 : decode cX0_inDebt 16 = .ok (.iload_n 2, 1) := by decide +kernel
theorem dX0_inDebt_17 : decode cX0_inDebt 17 = .ok (.iaload, 1) := by decide +kernel
theorem dX0_inDebt_18 : decode cX0_inDebt 18 = .ok (.ifCond .ge 6, 3) := by decide +kernel
theorem dX0_inDebt_21 : decode cX0_inDebt 21 = .ok (.iinc 1 1, 3) := by decide +kernel
theorem dX0_inDebt_24 : decode cX0_inDebt 24 = .ok (.iinc 2 1, 3) := by decide +kernel
theorem dX0_inDebt_27 : decode cX0_inDebt 27 = .ok (.goto (-23), 3) := by decide +kernel
theorem dX0_inDebt_30 : decode cX0_inDebt 30 = .ok (.iload_n 1, 1) := by decide +kernel
theorem dX0_inDebt_31 : decode cX0_inDebt 31 = .ok (.ireturn, 1) := by decide +kernel
theorem dX0_closingPrice_0 : decode cX0_closingPrice 0 = .ok (.aload_n 0, 1) := by decide +kernel
theorem dX0_closingPrice_1 : decode cX0_closingPrice 1 = .ok (.iload_n 1, 1) := by decide +kernel
theorem dX0_closingPrice_2 : decode cX0_closingPrice 2 = .ok (.invokevirtual 71, 3) := by decide +kernel
theorem dX0_closingPrice_5 : decode cX0_closingPrice 5 = .ok (.aload_n 0, 1) := by decide +kernel
theorem dX0_closingPrice_6 : decode cX0_closingPrice 6 = .ok (.iload_n 1, 1) := by decide +kernel
theorem dX0_closingPrice_7 : decode cX0_closingPrice 7 = .ok (.invokevirtual 106, 3) := by decide +kernel
theorem dX0_closingPrice_10 : decode cX0_closingPrice 10 = .ok (.ireturn, 1) := by decide +kernel
theorem dX0_priceIn_0 : decode cX0_priceIn 0 = .ok (.aload_n 0, 1) := by decide +kernel
theorem dX0_priceIn_1 : decode cX0_priceIn 1 = .ok (.iload_n 1, 1) := by decide +kernel
theorem dX0_priceIn_2 : decode cX0_priceIn 2 = .ok (.invokevirtual 71, 3) := by decide +kernel
theorem dX0_priceIn_5 : decode cX0_priceIn 5 = .ok (.iload_n 2, 1) := by decide +kernel
theorem dX0_priceIn_6 : decode cX0_priceIn 6 = .ok (.invokestatic 87, 3) := by decide +kernel
theorem dX0_priceIn_9 : decode cX0_priceIn 9 = .ok (.aload_n 0, 1) := by decide +kernel
theorem dX0_priceIn_10 : decode cX0_priceIn 10 = .ok (.iload_n 1, 1) := by decide +kernel
theorem dX0_priceIn_11 : decode cX0_priceIn 11 = .ok (.iload_n 2, 1) := by decide +kernel
theorem dX0_priceIn_12 : decode cX0_priceIn 12 = .ok (.invokevirtual 109, 3) := by decide +kernel
theorem dX0_priceIn_15 : decode cX0_priceIn 15 = .ok (.ireturn, 1) := by decide +kernel
theorem dX0_worthIn_0 : decode cX0_worthIn 0 = .ok (.aload_n 0, 1) := by decide +kernel
theorem dX0_worthIn_1 : decode cX0_worthIn 1 = .ok (.iload_n 1, 1) := by decide +kernel
theorem dX0_worthIn_2 : decode cX0_worthIn 2 = .ok (.invokevirtual 67, 3) := by decide +kernel
theorem dX0_worthIn_5 : decode cX0_worthIn 5 = .ok (.iload_n 2, 1) := by decide +kernel
theorem dX0_worthIn_6 : decode cX0_worthIn 6 = .ok (.invokestatic 87, 3) := by decide +kernel
theorem dX0_worthIn_9 : decode cX0_worthIn 9 = .ok (.aload_n 0, 1) := by decide +kernel
theorem dX0_worthIn_10 : decode cX0_worthIn 10 = .ok (.iload_n 1, 1) := by decide +kernel
theorem dX0_worthIn_11 : decode cX0_worthIn 11 = .ok (.iload_n 2, 1) := by decide +kernel
theorem dX0_worthIn_12 : decode cX0_worthIn 12 = .ok (.invokevirtual 100, 3) := by decide +kernel
theorem dX0_worthIn_15 : decode cX0_worthIn 15 = .ok (.ireturn, 1) := by decide +kernel
theorem dX0_bestToBuy_0 : decode cX0_bestToBuy 0 = .ok (.iconst (-1), 1) := by decide +kernel
theorem dX0_bestToBuy_1 : decode cX0_bestToBuy 1 = .ok (.istore_n 1, 1) := by decide +kernel
theorem dX0_bestToBuy_2 : decode cX0_bestToBuy 2 = .ok (.iconst 0, 1) := by decide +kernel
theorem dX0_bestToBuy_3 : decode cX0_bestToBuy 3 = .ok (.istore_n 2, 1) := by decide +kernel
theorem dX0_bestToBuy_4 : decode cX0_bestToBuy 4 = .ok (.iload_n 2, 1) := by decide +kernel
theorem dX0_bestToBuy_5 : decode cX0_bestToBuy 5 = .ok (.aload_n 0, 1) := by decide +kernel
theorem dX0_bestToBuy_6 : decode cX0_bestToBuy 6 = .ok (.getfield 44, 3) := by decide +kernel
theorem dX0_bestToBuy_9 : decode cX0_bestToBuy 9 = .ok (.if_icmp .ge 34, 3) := by decide +kernel
theorem dX0_bestToBuy_12 : decode cX0_bestToBuy 12 = .ok (.aload_n 0, 1) := by decide +kernel
theorem dX0_bestToBuy_13 : decode cX0_bestToBuy 13 = .ok (.iload_n 2, 1) := by decide +kernel
theorem dX0_bestToBuy_14 : decode cX0_bestToBuy 14 = .ok (.invokevirtual 112, 3) := by decide +kernel
theorem dX0_bestToBuy_17 : decode cX0_bestToBuy 17 = .ok (.istore_n 3, 1) := by decide +kernel
theorem dX0_bestToBuy_18 : decode cX0_bestToBuy 18 = .ok (.iload_n 3, 1) := by decide +kernel
theorem dX0_bestToBuy_19 : decode cX0_bestToBuy 19 = .ok (.ifCond .le 18, 3) := by decide +kernel
theorem dX0_bestToBuy_22 : decode cX0_bestToBuy 22 = .ok (.iload_n 1, 1) := by decide +kernel
theorem dX0_bestToBuy_23 : decode cX0_bestToBuy 23 = .ok (.ifCond .lt 12, 3) := by decide +kernel
theorem dX0_bestToBuy_26 : decode cX0_bestToBuy 26 = .ok (.iload_n 3, 1) := by decide +kernel
theorem dX0_bestToBuy_27 : decode cX0_bestToBuy 27 = .ok (.aload_n 0, 1) := by decide +kernel
theorem dX0_bestToBuy_28 : decode cX0_bestToBuy 28 = .ok (.iload_n 1, 1) := by decide +kernel
theorem dX0_bestToBuy_29 : decode cX0_bestToBuy 29 = .ok (.invokevirtual 112, 3) := by decide +kernel
theorem dX0_bestToBuy_32 : decode cX0_bestToBuy 32 = .ok (.if_icmp .le 5, 3) := by decide +kernel
theorem dX0_bestToBuy_35 : decode cX0_bestToBuy 35 = .ok (.iload_n 2, 1) := by decide +kernel
theorem dX0_bestToBuy_36 : decode cX0_bestToBuy 36 = .ok (.istore_n 1, 1) := by decide +kernel
theorem dX0_bestToBuy_37 : decode cX0_bestToBuy 37 = .ok (.iinc 2 1, 3) := by decide +kernel
theorem dX0_bestToBuy_40 : decode cX0_bestToBuy 40 = .ok (.goto (-36), 3) := by decide +kernel
theorem dX0_bestToBuy_43 : decode cX0_bestToBuy 43 = .ok (.iload_n 1, 1) := by decide +kernel
theorem dX0_bestToBuy_44 : decode cX0_bestToBuy 44 = .ok (.ireturn, 1) := by decide +kernel
theorem dX0_bestToSell_0 : decode cX0_bestToSell 0 = .ok (.aload_n 0, 1) := by decide +kernel
theorem dX0_bestToSell_1 : decode cX0_bestToSell 1 = .ok (.iload_n 1, 1) := by decide +kernel
theorem dX0_bestToSell_2 : decode cX0_bestToSell 2 = .ok (.invokevirtual 67, 3) := by decide +kernel
theorem dX0_bestToSell_5 : decode cX0_bestToSell 5 = .ok (.aload_n 0, 1) := by decide +kernel
theorem dX0_bestToSell_6 : decode cX0_bestToSell 6 = .ok (.iload_n 2, 1) := by decide +kernel
theorem dX0_bestToSell_7 : decode cX0_bestToSell 7 = .ok (.invokevirtual 71, 3) := by decide +kernel
theorem dX0_bestToSell_10 : decode cX0_bestToSell 10 = .ok (.bipush 9, 2) := by decide +kernel
theorem dX0_bestToSell_12 : decode cX0_bestToSell 12 = .ok (.aload_n 0, 1) := by decide +kernel
theorem dX0_bestToSell_13 : decode cX0_bestToSell 13 = .ok (.getfield 30, 3) := by decide +kernel
theorem dX0_bestToSell_16 : decode cX0_bestToSell 16 = .ok (.iload_n 1, 1) := by decide +kernel
theorem dX0_bestToSell_17 : decode cX0_bestToSell 17 = .ok (.aaload, 1) := by decide +kernel
theorem dX0_bestToSell_18 : decode cX0_bestToSell 18 = .ok (.iload_n 2, 1) := by decide +kernel
theorem dX0_bestToSell_19 : decode cX0_bestToSell 19 = .ok (.iaload, 1) := by decide +kernel
theorem dX0_bestToSell_20 : decode cX0_bestToSell 20 = .ok (.bipush 9, 2) := by decide +kernel
theorem dX0_bestToSell_22 : decode cX0_bestToSell 22 = .ok (.iadd, 1) := by decide +kernel
theorem dX0_bestToSell_23 : decode cX0_bestToSell 23 = .ok (.invokestatic 115, 3) := by decide +kernel
theorem dX0_bestToSell_26 : decode cX0_bestToSell 26 = .ok (.istore_n 3, 1) := by decide +kernel
theorem dX0_bestToSell_27 : decode cX0_bestToSell 27 = .ok (.iconst 0, 1) := by decide +kernel
theorem dX0_bestToSell_28 : decode cX0_bestToSell 28 = .ok (.istore 4, 2) := by decide +kernel
theorem dX0_bestToSell_30 : decode cX0_bestToSell 30 = .ok (.iconst 1, 1) := by decide +kernel
theorem dX0_bestToSell_31 : decode cX0_bestToSell 31 = .ok (.istore 5, 2) := by decide +kernel
theorem dX0_bestToSell_33 : decode cX0_bestToSell 33 = .ok (.iload 5, 2) := by decide +kernel
theorem dX0_bestToSell_35 : decode cX0_bestToSell 35 = .ok (.iload_n 3, 1) := by decide +kernel
theorem dX0_bestToSell_36 : decode cX0_bestToSell 36 = .ok (.if_icmp .gt 32, 3) := by decide +kernel
theorem dX0_bestToSell_39 : decode cX0_bestToSell 39 = .ok (.aload_n 0, 1) := by decide +kernel
theorem dX0_bestToSell_40 : decode cX0_bestToSell 40 = .ok (.iload_n 1, 1) := by decide +kernel
theorem dX0_bestToSell_41 : decode cX0_bestToSell 41 = .ok (.iload_n 2, 1) := by decide +kernel
theorem dX0_bestToSell_42 : decode cX0_bestToSell 42 = .ok (.iload 5, 2) := by decide +kernel
theorem dX0_bestToSell_44 : decode cX0_bestToSell 44 = .ok (.invokevirtual 118, 3) := by decide +kernel
theorem dX0_bestToSell_47 : decode cX0_bestToSell 47 = .ok (.aload_n 0, 1) := by decide +kernel
theorem dX0_bestToSell_48 : decode cX0_bestToSell 48 = .ok (.iload_n 1, 1) := by decide +kernel
theorem dX0_bestToSell_49 : decode cX0_bestToSell 49 = .ok (.iload_n 2, 1) := by decide +kernel
theorem dX0_bestToSell_50 : decode cX0_bestToSell 50 = .ok (.iload 4, 2) := by decide +kernel
theorem dX0_bestToSell_52 : decode cX0_bestToSell 52 = .ok (.invokevirtual 118, 3) := by decide +kernel
theorem dX0_bestToSell_55 : decode cX0_bestToSell 55 = .ok (.if_icmp .le 7, 3) := by decide +kernel
theorem dX0_bestToSell_58 : decode cX0_bestToSell 58 = .ok (.iload 5, 2) := by decide +kernel
theorem dX0_bestToSell_60 : decode cX0_bestToSell 60 = .ok (.istore 4, 2) := by decide +kernel
theorem dX0_bestToSell_62 : decode cX0_bestToSell 62 = .ok (.iinc 5 1, 3) := by decide +kernel
theorem dX0_bestToSell_65 : decode cX0_bestToSell 65 = .ok (.goto (-32), 3) := by decide +kernel
theorem dX0_bestToSell_68 : decode cX0_bestToSell 68 = .ok (.iload 4, 2) := by decide +kernel
theorem dX0_bestToSell_70 : decode cX0_bestToSell 70 = .ok (.ireturn, 1) := by decide +kernel
theorem dX0_secondsUntilDebt_0 : decode cX0_secondsUntilDebt 0 = .ok (.aload_n 0, 1) := by decide +kernel
theorem dX0_secondsUntilDebt_1 : decode cX0_secondsUntilDebt 1 = .ok (.iload_n 1, 1) := by decide +kernel
theorem dX0_secondsUntilDebt_2 : decode cX0_secondsUntilDebt 2 = .ok (.invokevirtual 67, 3) := by decide +kernel
theorem dX0_secondsUntilDebt_5 : decode cX0_secondsUntilDebt 5 = .ok (.aload_n 0, 1) := by decide +kernel
theorem dX0_secondsUntilDebt_6 : decode cX0_secondsUntilDebt 6 = .ok (.getfield 25, 3) := by decide +kernel
theorem dX0_secondsUntilDebt_9 : decode cX0_secondsUntilDebt 9 = .ok (.iload_n 1, 1) := by decide +kernel
theorem dX0_secondsUntilDebt_10 : decode cX0_secondsUntilDebt 10 = .ok (.iaload, 1) := by decide +kernel
theorem dX0_secondsUntilDebt_11 : decode cX0_secondsUntilDebt 11 = .ok (.istore_n 2, 1) := by decide +kernel
theorem dX0_secondsUntilDebt_12 : decode cX0_secondsUntilDebt 12 = .ok (.iconst 0, 1) := by decide +kernel
theorem dX0_secondsUntilDebt_13 : decode cX0_secondsUntilDebt 13 = .ok (.istore_n 3, 1) := by decide +kernel
theorem dX0_secondsUntilDebt_14 : decode cX0_secondsUntilDebt 14 = .ok (.iload_n 3, 1) := by decide +kernel
theorem dX0_secondsUntilDebt_15 : decode cX0_secondsUntilDebt 15 = .ok (.bipush 100, 2) := by decide +kernel
theorem dX0_secondsUntilDebt_17 : decode cX0_secondsUntilDebt 17 = .ok (.if_icmp .gt 24, 3) := by decide +kernel
theorem dX0_secondsUntilDebt_20 : decode cX0_secondsUntilDebt 20 = .ok (.iload_n 2, 1) := by decide +kernel
theorem dX0_secondsUntilDebt_21 : decode cX0_secondsUntilDebt 21 = .ok (.aload_n 0, 1) := by decide +kernel
theorem dX0_secondsUntilDebt_22 : decode cX0_secondsUntilDebt 22 = .ok (.iload_n 1, 1) := by decide +kernel
theorem dX0_secondsUntilDebt_23 : decode cX0_secondsUntilDebt 23 = .ok (.iload_n 3, 1) := by decide +kernel
theorem dX0_secondsUntilDebt_24 : decode cX0_secondsUntilDebt 24 = .ok (.invokevirtual 122, 3) := by decide +kernel
theorem dX0_secondsUntilDebt_27 : decode cX0_secondsUntilDebt 27 = .ok (.iadd, 1) := by decide +kernel
theorem dX0_secondsUntilDebt_28 : decode cX0_secondsUntilDebt 28 = .ok (.istore_n 2, 1) := by decide +kernel
theorem dX0_secondsUntilDebt_29 : decode cX0_secondsUntilDebt 29 = .ok (.iload_n 2, 1) := by decide +kernel
theorem dX0_secondsUntilDebt_30 : decode cX0_secondsUntilDebt 30 = .ok (.ifCond .ge 5, 3) := by decide +kernel
theorem dX0_secondsUntilDebt_33 : decode cX0_secondsUntilDebt 33 = .ok (.iload_n 3, 1) := by decide +kernel
theorem dX0_secondsUntilDebt_34 : decode cX0_secondsUntilDebt 34 = .ok (.ireturn, 1) := by decide +kernel
theorem dX0_secondsUntilDebt_35 : decode cX0_secondsUntilDebt 35 = .ok (.iinc 3 1, 3) := by decide +kernel
theorem dX0_secondsUntilDebt_38 : decode cX0_secondsUntilDebt 38 = .ok (.goto (-24), 3) := by decide +kernel
theorem dX0_secondsUntilDebt_41 : decode cX0_secondsUntilDebt 41 = .ok (.iconst (-1), 1) := by decide +kernel
theorem dX0_secondsUntilDebt_42 : decode cX0_secondsUntilDebt 42 = .ok (.ireturn, 1) := by decide +kernel
theorem dX0_meanPrice_0 : decode cX0_meanPrice 0 = .ok (.aload_n 0, 1) := by decide +kernel
theorem dX0_meanPrice_1 : decode cX0_meanPrice 1 = .ok (.getfield 44, 3) := by decide +kernel
theorem dX0_meanPrice_4 : decode cX0_meanPrice 4 = .ok (.iconst 1, 1) := by decide +kernel
theorem dX0_meanPrice_5 : decode cX0_meanPrice 5 = .ok (.if_icmp .ge 5, 3) := by decide +kernel
theorem dX0_meanPrice_8 : decode cX0_meanPrice 8 = .ok (.dconst 0, 1) := by decide +kernel
theorem dX0_meanPrice_9 : decode cX0_meanPrice 9 = .ok (.dreturn, 1) := by decide +kernel
theorem dX0_meanPrice_10 : decode cX0_meanPrice 10 = .ok (.iconst 0, 1) := by decide +kernel
theorem dX0_meanPrice_11 : decode cX0_meanPrice 11 = .ok (.istore_n 1, 1) := by decide +kernel
theorem dX0_meanPrice_12 : decode cX0_meanPrice 12 = .ok (.iconst 0, 1) := by decide +kernel
theorem dX0_meanPrice_13 : decode cX0_meanPrice 13 = .ok (.istore_n 2, 1) := by decide +kernel
theorem dX0_meanPrice_14 : decode cX0_meanPrice 14 = .ok (.iload_n 2, 1) := by decide +kernel
theorem dX0_meanPrice_15 : decode cX0_meanPrice 15 = .ok (.aload_n 0, 1) := by decide +kernel
theorem dX0_meanPrice_16 : decode cX0_meanPrice 16 = .ok (.getfield 44, 3) := by decide +kernel
theorem dX0_meanPrice_19 : decode cX0_meanPrice 19 = .ok (.if_icmp .ge 17, 3) := by decide +kernel
theorem dX0_meanPrice_22 : decode cX0_meanPrice 22 = .ok (.iload_n 1, 1) := by decide +kernel
theorem dX0_meanPrice_23 : decode cX0_meanPrice 23 = .ok (.aload_n 0, 1) := by decide +kernel
theorem dX0_meanPrice_24 : decode cX0_meanPrice 24 = .ok (.iload_n 2, 1) := by decide +kernel
theorem dX0_meanPrice_25 : decode cX0_meanPrice 25 = .ok (.invokevirtual 77, 3) := by decide +kernel
theorem dX0_meanPrice_28 : decode cX0_meanPrice 28 = .ok (.iadd, 1) := by decide +kernel
theorem dX0_meanPrice_29 : decode cX0_meanPrice 29 = .ok (.istore_n 1, 1) := by decide +kernel
theorem dX0_meanPrice_30 : decode cX0_meanPrice 30 = .ok (.iinc 2 1, 3) := by decide +kernel
theorem dX0_meanPrice_33 : decode cX0_meanPrice 33 = .ok (.goto (-19), 3) := by decide +kernel
theorem dX0_meanPrice_36 : decode cX0_meanPrice 36 = .ok (.iload_n 1, 1) := by decide +kernel
theorem dX0_meanPrice_37 : decode cX0_meanPrice 37 = .ok (.i2d, 1) := by decide +kernel
theorem dX0_meanPrice_38 : decode cX0_meanPrice 38 = .ok (.aload_n 0, 1) := by decide +kernel
theorem dX0_meanPrice_39 : decode cX0_meanPrice 39 = .ok (.getfield 44, 3) := by decide +kernel
theorem dX0_meanPrice_42 : decode cX0_meanPrice 42 = .ok (.i2d, 1) := by decide +kernel
theorem dX0_meanPrice_43 : decode cX0_meanPrice 43 = .ok (.ddiv, 1) := by decide +kernel
theorem dX0_meanPrice_44 : decode cX0_meanPrice 44 = .ok (.dreturn, 1) := by decide +kernel
theorem dX0_digest_0 : decode cX0_digest 0 = .ok (.ldc2_w 125, 3) := by decide +kernel
theorem dX0_digest_3 : decode cX0_digest 3 = .ok (.aload_n 0, 1) := by decide +kernel
theorem dX0_digest_4 : decode cX0_digest 4 = .ok (.getfield 53, 3) := by decide +kernel
theorem dX0_digest_7 : decode cX0_digest 7 = .ok (.invokestatic 127, 3) := by decide +kernel
theorem dX0_digest_10 : decode cX0_digest 10 = .ok (.lstore_n 1, 1) := by decide +kernel
theorem dX0_digest_11 : decode cX0_digest 11 = .ok (.lload_n 1, 1) := by decide +kernel
theorem dX0_digest_12 : decode cX0_digest 12 = .ok (.aload_n 0, 1) := by decide +kernel
theorem dX0_digest_13 : decode cX0_digest 13 = .ok (.getfield 44, 3) := by decide +kernel
theorem dX0_digest_16 : decode cX0_digest 16 = .ok (.invokestatic 127, 3) := by decide +kernel
theorem dX0_digest_19 : decode cX0_digest 19 = .ok (.lstore_n 1, 1) := by decide +kernel
theorem dX0_digest_20 : decode cX0_digest 20 = .ok (.lload_n 1, 1) := by decide +kernel
theorem dX0_digest_21 : decode cX0_digest 21 = .ok (.aload_n 0, 1) := by decide +kernel
theorem dX0_digest_22 : decode cX0_digest 22 = .ok (.getfield 62, 3) := by decide +kernel
theorem dX0_digest_25 : decode cX0_digest 25 = .ok (.invokestatic 127, 3) := by decide +kernel
theorem dX0_digest_28 : decode cX0_digest 28 = .ok (.lstore_n 1, 1) := by decide +kernel
theorem dX0_digest_29 : decode cX0_digest 29 = .ok (.lload_n 1, 1) := by decide +kernel
theorem dX0_digest_30 : decode cX0_digest 30 = .ok (.aload_n 0, 1) := by decide +kernel
theorem dX0_digest_31 : decode cX0_digest 31 = .ok (.invokevirtual 131, 3) := by decide +kernel
theorem dX0_digest_34 : decode cX0_digest 34 = .ok (.invokestatic 127, 3) := by decide +kernel
theorem dX0_digest_37 : decode cX0_digest 37 = .ok (.lstore_n 1, 1) := by decide +kernel
theorem dX0_digest_38 : decode cX0_digest 38 = .ok (.lload_n 1, 1) := by decide +kernel
theorem dX0_digest_39 : decode cX0_digest 39 = .ok (.aload_n 0, 1) := by decide +kernel
theorem dX0_digest_40 : decode cX0_digest 40 = .ok (.invokevirtual 134, 3) := by decide +kernel
theorem dX0_digest_43 : decode cX0_digest 43 = .ok (.invokestatic 127, 3) := by decide +kernel
theorem dX0_digest_46 : decode cX0_digest 46 = .ok (.lstore_n 1, 1) := by decide +kernel
theorem dX0_digest_47 : decode cX0_digest 47 = .ok (.lload_n 1, 1) := by decide +kernel
theorem dX0_digest_48 : decode cX0_digest 48 = .ok (.aload_n 0, 1) := by decide +kernel
theorem dX0_digest_49 : decode cX0_digest 49 = .ok (.invokevirtual 137, 3) := by decide +kernel
theorem dX0_digest_52 : decode cX0_digest 52 = .ok (.invokestatic 127, 3) := by decide +kernel
theorem dX0_digest_55 : decode cX0_digest 55 = .ok (.lstore_n 1, 1) := by decide +kernel
theorem dX0_digest_56 : decode cX0_digest 56 = .ok (.lload_n 1, 1) := by decide +kernel
theorem dX0_digest_57 : decode cX0_digest 57 = .ok (.aload_n 0, 1) := by decide +kernel
theorem dX0_digest_58 : decode cX0_digest 58 = .ok (.invokevirtual 140, 3) := by decide +kernel
theorem dX0_digest_61 : decode cX0_digest 61 = .ok (.invokestatic 127, 3) := by decide +kernel
theorem dX0_digest_64 : decode cX0_digest 64 = .ok (.lstore_n 1, 1) := by decide +kernel
theorem dX0_digest_65 : decode cX0_digest 65 = .ok (.lload_n 1, 1) := by decide +kernel
theorem dX0_digest_66 : decode cX0_digest 66 = .ok (.aload_n 0, 1) := by decide +kernel
theorem dX0_digest_67 : decode cX0_digest 67 = .ok (.invokevirtual 143, 3) := by decide +kernel
theorem dX0_digest_70 : decode cX0_digest 70 = .ok (.invokestatic 127, 3) := by decide +kernel
theorem dX0_digest_73 : decode cX0_digest 73 = .ok (.lstore_n 1, 1) := by decide +kernel
theorem dX0_digest_74 : decode cX0_digest 74 = .ok (.iconst 0, 1) := by decide +kernel
theorem dX0_digest_75 : decode cX0_digest 75 = .ok (.istore_n 3, 1) := by decide +kernel
theorem dX0_digest_76 : decode cX0_digest 76 = .ok (.iload_n 3, 1) := by decide +kernel
theorem dX0_digest_77 : decode cX0_digest 77 = .ok (.aload_n 0, 1) := by decide +kernel
theorem dX0_digest_78 : decode cX0_digest 78 = .ok (.getfield 44, 3) := by decide +kernel
theorem dX0_digest_81 : decode cX0_digest 81 = .ok (.if_icmp .ge 16, 3) := by decide +kernel
theorem dX0_digest_84 : decode cX0_digest 84 = .ok (.aload_n 0, 1) := by decide +kernel
theorem dX0_digest_85 : decode cX0_digest 85 = .ok (.lload_n 1, 1) := by decide +kernel
theorem dX0_digest_86 : decode cX0_digest 86 = .ok (.iload_n 3, 1) := by decide +kernel
theorem dX0_digest_87 : decode cX0_digest 87 = .ok (.invokevirtual 146, 3) := by decide +kernel
theorem dX0_digest_90 : decode cX0_digest 90 = .ok (.lstore_n 1, 1) := by decide +kernel
theorem dX0_digest_91 : decode cX0_digest 91 = .ok (.iinc 3 1, 3) := by decide +kernel
theorem dX0_digest_94 : decode cX0_digest 94 = .ok (.goto (-18), 3) := by decide +kernel
theorem dX0_digest_97 : decode cX0_digest 97 = .ok (.iconst 0, 1) := by decide +kernel
theorem dX0_digest_98 : decode cX0_digest 98 = .ok (.istore_n 3, 1) := by decide +kernel
theorem dX0_digest_99 : decode cX0_digest 99 = .ok (.iload_n 3, 1) := by decide +kernel
theorem dX0_digest_100 : decode cX0_digest 100 = .ok (.aload_n 0, 1) := by decide +kernel
theorem dX0_digest_101 : decode cX0_digest 101 = .ok (.getfield 62, 3) := by decide +kernel
theorem dX0_digest_104 : decode cX0_digest 104 = .ok (.if_icmp .ge 16, 3) := by decide +kernel
theorem dX0_digest_107 : decode cX0_digest 107 = .ok (.aload_n 0, 1) := by decide +kernel
theorem dX0_digest_108 : decode cX0_digest 108 = .ok (.lload_n 1, 1) := by decide +kernel
theorem dX0_digest_109 : decode cX0_digest 109 = .ok (.iload_n 3, 1) := by decide +kernel
theorem dX0_digest_110 : decode cX0_digest 110 = .ok (.invokevirtual 149, 3) := by decide +kernel
theorem dX0_digest_113 : decode cX0_digest 113 = .ok (.lstore_n 1, 1) := by decide +kernel
theorem dX0_digest_114 : decode cX0_digest 114 = .ok (.iinc 3 1, 3) := by decide +kernel
theorem dX0_digest_117 : decode cX0_digest 117 = .ok (.goto (-18), 3) := by decide +kernel
theorem dX0_digest_120 : decode cX0_digest 120 = .ok (.lload_n 1, 1) := by decide +kernel
theorem dX0_digest_121 : decode cX0_digest 121 = .ok (.lreturn, 1) := by decide +kernel
theorem dX0_requireTower_0 : decode cX0_requireTower 0 = .ok (.iload_n 1, 1) := by decide +kernel
theorem dX0_requireTower_1 : decode cX0_requireTower 1 = .ok (.ifCond .lt 11, 3) := by decide +kernel
theorem dX0_requireTower_4 : decode cX0_requireTower 4 = .ok (.iload_n 1, 1) := by decide +kernel
theorem dX0_requireTower_5 : decode cX0_requireTower 5 = .ok (.aload_n 0, 1) := by decide +kernel
theorem dX0_requireTower_6 : decode cX0_requireTower 6 = .ok (.getfield 44, 3) := by decide +kernel
theorem dX0_requireTower_9 : decode cX0_requireTower 9 = .ok (.if_icmp .lt 13, 3) := by decide +kernel
theorem dX0_requireTower_12 : decode cX0_requireTower 12 = .ok (.new 152, 3) := by decide +kernel
theorem dX0_requireTower_15 : decode cX0_requireTower 15 = .ok (.dup, 1) := by decide +kernel
theorem dX0_requireTower_16 : decode cX0_requireTower 16 = .ok (.ldc 154, 2) := by decide +kernel
theorem dX0_requireTower_18 : decode cX0_requireTower 18 = .ok (.invokespecial 156, 3) := by decide +kernel
theorem dX0_requireTower_21 : decode cX0_requireTower 21 = .ok (.athrow, 1) := by decide +kernel
theorem dX0_requireTower_22 : decode cX0_requireTower 22 = .ok (.return_, 1) := by decide +kernel
theorem dX0_requireTrader_0 : decode cX0_requireTrader 0 = .ok (.iload_n 1, 1) := by decide +kernel
theorem dX0_requireTrader_1 : decode cX0_requireTrader 1 = .ok (.ifCond .lt 11, 3) := by decide +kernel
theorem dX0_requireTrader_4 : decode cX0_requireTrader 4 = .ok (.iload_n 1, 1) := by decide +kernel
theorem dX0_requireTrader_5 : decode cX0_requireTrader 5 = .ok (.aload_n 0, 1) := by decide +kernel
theorem dX0_requireTrader_6 : decode cX0_requireTrader 6 = .ok (.getfield 62, 3) := by decide +kernel
theorem dX0_requireTrader_9 : decode cX0_requireTrader 9 = .ok (.if_icmp .lt 13, 3) := by decide +kernel
theorem dX0_requireTrader_12 : decode cX0_requireTrader 12 = .ok (.new 152, 3) := by decide +kernel
theorem dX0_requireTrader_15 : decode cX0_requireTrader 15 = .ok (.dup, 1) := by decide +kernel
theorem dX0_requireTrader_16 : decode cX0_requireTrader 16 = .ok (.ldc 157, 2) := by decide +kernel
theorem dX0_requireTrader_18 : decode cX0_requireTrader 18 = .ok (.invokespecial 156, 3) := by decide +kernel
theorem dX0_requireTrader_21 : decode cX0_requireTrader 21 = .ok (.athrow, 1) := by decide +kernel
theorem dX0_requireTrader_22 : decode cX0_requireTrader 22 = .ok (.return_, 1) := by decide +kernel
theorem dX0_requireTradable_0 : decode cX0_requireTradable 0 = .ok (.iload_n 0, 1) := by decide +kernel
theorem dX0_requireTradable_1 : decode cX0_requireTradable 1 = .ok (.iconst 1, 1) := by decide +kernel
theorem dX0_requireTradable_2 : decode cX0_requireTradable 2 = .ok (.if_icmp .lt 9, 3) := by decide +kernel
theorem dX0_requireTradable_5 : decode cX0_requireTradable 5 = .ok (.iload_n 0, 1) := by decide +kernel
theorem dX0_requireTradable_6 : decode cX0_requireTradable 6 = .ok (.bipush 9, 2) := by decide +kernel
theorem dX0_requireTradable_8 : decode cX0_requireTradable 8 = .ok (.if_icmp .le 13, 3) := by decide +kernel
theorem dX0_requireTradable_11 : decode cX0_requireTradable 11 = .ok (.new 33, 3) := by decide +kernel
theorem dX0_requireTradable_14 : decode cX0_requireTradable 14 = .ok (.dup, 1) := by decide +kernel
theorem dX0_requireTradable_15 : decode cX0_requireTradable 15 = .ok (.ldc 159, 2) := by decide +kernel
theorem dX0_requireTradable_17 : decode cX0_requireTradable 17 = .ok (.invokespecial 37, 3) := by decide +kernel
theorem dX0_requireTradable_20 : decode cX0_requireTradable 20 = .ok (.athrow, 1) := by decide +kernel
theorem dX0_requireTradable_21 : decode cX0_requireTradable 21 = .ok (.return_, 1) := by decide +kernel
theorem dX0_requirePassable_0 : decode cX0_requirePassable 0 = .ok (.iload_n 0, 1) := by decide +kernel
theorem dX0_requirePassable_1 : decode cX0_requirePassable 1 = .ok (.iconst 1, 1) := by decide +kernel
theorem dX0_requirePassable_2 : decode cX0_requirePassable 2 = .ok (.if_icmp .lt 9, 3) := by decide +kernel
theorem dX0_requirePassable_5 : decode cX0_requirePassable 5 = .ok (.iload_n 0, 1) := by decide +kernel
theorem dX0_requirePassable_6 : decode cX0_requirePassable 6 = .ok (.bipush 60, 2) := by decide +kernel
theorem dX0_requirePassable_8 : decode cX0_requirePassable 8 = .ok (.if_icmp .le 13, 3) := by decide +kernel
theorem dX0_requirePassable_11 : decode cX0_requirePassable 11 = .ok (.new 33, 3) := by decide +kernel
theorem dX0_requirePassable_14 : decode cX0_requirePassable 14 = .ok (.dup, 1) := by decide +kernel
theorem dX0_requirePassable_15 : decode cX0_requirePassable 15 = .ok (.ldc 161, 2) := by decide +kernel
theorem dX0_requirePassable_17 : decode cX0_requirePassable 17 = .ok (.invokespecial 37, 3) := by decide +kernel
theorem dX0_requirePassable_20 : decode cX0_requirePassable 20 = .ok (.athrow, 1) := by decide +kernel
theorem dX0_requirePassable_21 : decode cX0_requirePassable 21 = .ok (.return_, 1) := by decide +kernel
theorem dX0_goOneSecond_0 : decode cX0_goOneSecond 0 = .ok (.aload_n 0, 1) := by decide +kernel
theorem dX0_goOneSecond_1 : decode cX0_goOneSecond 1 = .ok (.dup, 1) := by decide +kernel
theorem dX0_goOneSecond_2 : decode cX0_goOneSecond 2 = .ok (.getfield 53, 3) := by decide +kernel
theorem dX0_goOneSecond_5 : decode cX0_goOneSecond 5 = .ok (.iconst 1, 1) := by decide +kernel
theorem dX0_goOneSecond_6 : decode cX0_goOneSecond 6 = .ok (.iadd, 1) := by decide +kernel
theorem dX0_goOneSecond_7 : decode cX0_goOneSecond 7 = .ok (.putfield 53, 3) := by decide +kernel
theorem dX0_goOneSecond_10 : decode cX0_goOneSecond 10 = .ok (.iconst 0, 1) := by decide +kernel
theorem dX0_goOneSecond_11 : decode cX0_goOneSecond 11 = .ok (.istore_n 1, 1) := by decide +kernel
theorem dX0_goOneSecond_12 : decode cX0_goOneSecond 12 = .ok (.iconst 0, 1) := by decide +kernel
theorem dX0_goOneSecond_13 : decode cX0_goOneSecond 13 = .ok (.istore_n 2, 1) := by decide +kernel
theorem dX0_goOneSecond_14 : decode cX0_goOneSecond 14 = .ok (.iload_n 2, 1) := by decide +kernel
theorem dX0_goOneSecond_15 : decode cX0_goOneSecond 15 = .ok (.aload_n 0, 1) := by decide +kernel
theorem dX0_goOneSecond_16 : decode cX0_goOneSecond 16 = .ok (.getfield 44, 3) := by decide +kernel
theorem dX0_goOneSecond_19 : decode cX0_goOneSecond 19 = .ok (.if_icmp .ge 50, 3) := by decide +kernel
theorem dX0_goOneSecond_22 : decode cX0_goOneSecond 22 = .ok (.aload_n 0, 1) := by decide +kernel
theorem dX0_goOneSecond_23 : decode cX0_goOneSecond 23 = .ok (.getfield 19, 3) := by decide +kernel
theorem dX0_goOneSecond_26 : decode cX0_goOneSecond 26 = .ok (.iload_n 2, 1) := by decide +kernel
theorem dX0_goOneSecond_27 : decode cX0_goOneSecond 27 = .ok (.iaload, 1) := by decide +kernel
theorem dX0_goOneSecond_28 : decode cX0_goOneSecond 28 = .ok (.iconst 1, 1) := by decide +kernel
theorem dX0_goOneSecond_29 : decode cX0_goOneSecond 29 = .ok (.if_icmp .gt 14, 3) := by decide +kernel
theorem dX0_goOneSecond_32 : decode cX0_goOneSecond 32 = .ok (.aload_n 0, 1) := by decide +kernel
theorem dX0_goOneSecond_33 : decode cX0_goOneSecond 33 = .ok (.iload_n 2, 1) := by decide +kernel
theorem dX0_goOneSecond_34 : decode cX0_goOneSecond 34 = .ok (.invokevirtual 163, 3) := by decide +kernel
theorem dX0_goOneSecond_37 : decode cX0_goOneSecond 37 = .ok (.iinc 1 1, 3) := by decide +kernel
theorem dX0_goOneSecond_40 : decode cX0_goOneSecond 40 = .ok (.goto 23, 3) := by decide +kernel
theorem dX0_goOneSecond_43 : decode cX0_goOneSecond 43 = .ok (.aload_n 0, 1) := by decide +kernel
theorem dX0_goOneSecond_44 : decode cX0_goOneSecond 44 = .ok (.getfield 19, 3) := by decide +kernel
theorem dX0_goOneSecond_47 : decode cX0_goOneSecond 47 = .ok (.iload_n 2, 1) := by decide +kernel
theorem dX0_goOneSecond_48 : decode cX0_goOneSecond 48 = .ok (.dup2, 1) := by decide +kernel
theorem dX0_goOneSecond_49 : decode cX0_goOneSecond 49 = .ok (.iaload, 1) := by decide +kernel
theorem dX0_goOneSecond_50 : decode cX0_goOneSecond 50 = .ok (.iconst 1, 1) := by decide +kernel
theorem dX0_goOneSecond_51 : decode cX0_goOneSecond 51 = .ok (.isub, 1) := by decide +kernel
theorem dX0_goOneSecond_52 : decode cX0_goOneSecond 52 = .ok (.iastore, 1) := by decide +kernel
theorem dX0_goOneSecond_53 : decode cX0_goOneSecond 53 = .ok (.aload_n 0, 1) := by decide +kernel
theorem dX0_goOneSecond_54 : decode cX0_goOneSecond 54 = .ok (.getfield 16, 3) := by decide +kernel
theorem dX0_goOneSecond_57 : decode cX0_goOneSecond 57 = .ok (.iload_n 2, 1) := by decide +kernel
theorem dX0_goOneSecond_58 : decode cX0_goOneSecond 58 = .ok (.dup2, 1) := by decide +kernel
theorem dX0_goOneSecond_59 : decode cX0_goOneSecond 59 = .ok (.iaload, 1) := by decide +kernel
theorem dX0_goOneSecond_60 : decode cX0_goOneSecond 60 = .ok (.iconst 1, 1) := by decide +kernel
theorem dX0_goOneSecond_61 : decode cX0_goOneSecond 61 = .ok (.iadd, 1) := by decide +kernel
theorem dX0_goOneSecond_62 : decode cX0_goOneSecond 62 = .ok (.iastore, 1) := by decide +kernel
theorem dX0_goOneSecond_63 : decode cX0_goOneSecond 63 = .ok (.iinc 2 1, 3) := by decide +kernel
theorem dX0_goOneSecond_66 : decode cX0_goOneSecond 66 = .ok (.goto (-52), 3) := by decide +kernel
theorem dX0_goOneSecond_69 : decode cX0_goOneSecond 69 = .ok (.iload_n 1, 1) := by decide +kernel
theorem dX0_goOneSecond_70 : decode cX0_goOneSecond 70 = .ok (.ireturn, 1) := by decide +kernel
theorem dX0_strike_0 : decode cX0_strike 0 = .ok (.aload_n 0, 1) := by decide +kernel
theorem dX0_strike_1 : decode cX0_strike 1 = .ok (.iload_n 1, 1) := by decide +kernel
theorem dX0_strike_2 : decode cX0_strike 2 = .ok (.invokevirtual 77, 3) := by decide +kernel
theorem dX0_strike_5 : decode cX0_strike 5 = .ok (.istore_n 2, 1) := by decide +kernel
theorem dX0_strike_6 : decode cX0_strike 6 = .ok (.iconst 0, 1) := by decide +kernel
theorem dX0_strike_7 : decode cX0_strike 7 = .ok (.istore_n 3, 1) := by decide +kernel
theorem dX0_strike_8 : decode cX0_strike 8 = .ok (.iload_n 3, 1) := by decide +kernel
theorem dX0_strike_9 : decode cX0_strike 9 = .ok (.aload_n 0, 1) := by decide +kernel
theorem dX0_strike_10 : decode cX0_strike 10 = .ok (.getfield 62, 3) := by decide +kernel
theorem dX0_strike_13 : decode cX0_strike 13 = .ok (.if_icmp .ge 37, 3) := by decide +kernel
theorem dX0_strike_16 : decode cX0_strike 16 = .ok (.aload_n 0, 1) := by decide +kernel
theorem dX0_strike_17 : decode cX0_strike 17 = .ok (.getfield 25, 3) := by decide +kernel
theorem dX0_strike_20 : decode cX0_strike 20 = .ok (.iload_n 3, 1) := by decide +kernel
theorem dX0_strike_21 : decode cX0_strike 21 = .ok (.dup2, 1) := by decide +kernel
theorem dX0_strike_22 : decode cX0_strike 22 = .ok (.iaload, 1) := by decide +kernel
theorem dX0_strike_23 : decode cX0_strike 23 = .ok (.iload_n 2, 1) := by decide +kernel
theorem dX0_strike_24 : decode cX0_strike 24 = .ok (.aload_n 0, 1) := by decide +kernel
theorem dX0_strike_25 : decode cX0_strike 25 = .ok (.getfield 30, 3) := by decide +kernel
theorem dX0_strike_28 : decode cX0_strike 28 = .ok (.iload_n 3, 1) := by decide +kernel
theorem dX0_strike_29 : decode cX0_strike 29 = .ok (.aaload, 1) := by decide +kernel
theorem dX0_strike_30 : decode cX0_strike 30 = .ok (.iload_n 1, 1) := by decide +kernel
theorem dX0_strike_31 : decode cX0_strike 31 = .ok (.iaload, 1) := by decide +kernel
theorem dX0_strike_32 : decode cX0_strike 32 = .ok (.imul, 1) := by decide +kernel
theorem dX0_strike_33 : decode cX0_strike 33 = .ok (.iadd, 1) := by decide +kernel
theorem dX0_strike_34 : decode cX0_strike 34 = .ok (.iastore, 1) := by decide +kernel
theorem dX0_strike_35 : decode cX0_strike 35 = .ok (.aload_n 0, 1) := by decide +kernel
theorem dX0_strike_36 : decode cX0_strike 36 = .ok (.getfield 30, 3) := by decide +kernel
theorem dX0_strike_39 : decode cX0_strike 39 = .ok (.iload_n 3, 1) := by decide +kernel
theorem dX0_strike_40 : decode cX0_strike 40 = .ok (.aaload, 1) := by decide +kernel
theorem dX0_strike_41 : decode cX0_strike 41 = .ok (.iload_n 1, 1) := by decide +kernel
theorem dX0_strike_42 : decode cX0_strike 42 = .ok (.iconst 0, 1) := by decide +kernel
theorem dX0_strike_43 : decode cX0_strike 43 = .ok (.iastore, 1) := by decide +kernel
theorem dX0_strike_44 : decode cX0_strike 44 = .ok (.iinc 3 1, 3) := by decide +kernel
theorem dX0_strike_47 : decode cX0_strike 47 = .ok (.goto (-39), 3) := by decide +kernel
theorem dX0_strike_50 : decode cX0_strike 50 = .ok (.aload_n 0, 1) := by decide +kernel
theorem dX0_strike_51 : decode cX0_strike 51 = .ok (.getfield 16, 3) := by decide +kernel
theorem dX0_strike_54 : decode cX0_strike 54 = .ok (.iload_n 1, 1) := by decide +kernel
theorem dX0_strike_55 : decode cX0_strike 55 = .ok (.iconst 0, 1) := by decide +kernel
theorem dX0_strike_56 : decode cX0_strike 56 = .ok (.iastore, 1) := by decide +kernel
theorem dX0_strike_57 : decode cX0_strike 57 = .ok (.aload_n 0, 1) := by decide +kernel
theorem dX0_strike_58 : decode cX0_strike 58 = .ok (.getfield 22, 3) := by decide +kernel
theorem dX0_strike_61 : decode cX0_strike 61 = .ok (.iload_n 1, 1) := by decide +kernel
theorem dX0_strike_62 : decode cX0_strike 62 = .ok (.dup2, 1) := by decide +kernel
theorem dX0_strike_63 : decode cX0_strike 63 = .ok (.iaload, 1) := by decide +kernel
theorem dX0_strike_64 : decode cX0_strike 64 = .ok (.iconst 1, 1) := by decide +kernel
theorem dX0_strike_65 : decode cX0_strike 65 = .ok (.iadd, 1) := by decide +kernel
theorem dX0_strike_66 : decode cX0_strike 66 = .ok (.iastore, 1) := by decide +kernel
theorem dX0_strike_67 : decode cX0_strike 67 = .ok (.aload_n 0, 1) := by decide +kernel
theorem dX0_strike_68 : decode cX0_strike 68 = .ok (.getfield 19, 3) := by decide +kernel
theorem dX0_strike_71 : decode cX0_strike 71 = .ok (.iload_n 1, 1) := by decide +kernel
theorem dX0_strike_72 : decode cX0_strike 72 = .ok (.aload_n 0, 1) := by decide +kernel
theorem dX0_strike_73 : decode cX0_strike 73 = .ok (.getfield 13, 3) := by decide +kernel
theorem dX0_strike_76 : decode cX0_strike 76 = .ok (.iload_n 1, 1) := by decide +kernel
theorem dX0_strike_77 : decode cX0_strike 77 = .ok (.iaload, 1) := by decide +kernel
theorem dX0_strike_78 : decode cX0_strike 78 = .ok (.iastore, 1) := by decide +kernel
theorem dX0_strike_79 : decode cX0_strike 79 = .ok (.return_, 1) := by decide +kernel
theorem dX0_price_0 : decode cX0_price 0 = .ok (.iconst 0, 1) := by decide +kernel
theorem dX0_price_1 : decode cX0_price 1 = .ok (.iload_n 0, 1) := by decide +kernel
theorem dX0_price_2 : decode cX0_price 2 = .ok (.iload_n 1, 1) := by decide +kernel
theorem dX0_price_3 : decode cX0_price 3 = .ok (.imul, 1) := by decide +kernel
theorem dX0_price_4 : decode cX0_price 4 = .ok (.iconst 2, 1) := by decide +kernel
theorem dX0_price_5 : decode cX0_price 5 = .ok (.iload_n 2, 1) := by decide +kernel
theorem dX0_price_6 : decode cX0_price 6 = .ok (.imul, 1) := by decide +kernel
theorem dX0_price_7 : decode cX0_price 7 = .ok (.isub, 1) := by decide +kernel
theorem dX0_price_8 : decode cX0_price 8 = .ok (.invokestatic 166, 3) := by decide +kernel
theorem dX0_price_11 : decode cX0_price 11 = .ok (.ireturn, 1) := by decide +kernel
theorem dX0_dovesNow_0 : decode cX0_dovesNow 0 = .ok (.iconst 0, 1) := by decide +kernel
theorem dX0_dovesNow_1 : decode cX0_dovesNow 1 = .ok (.istore_n 2, 1) := by decide +kernel
theorem dX0_dovesNow_2 : decode cX0_dovesNow 2 = .ok (.iconst 0, 1) := by decide +kernel
theorem dX0_dovesNow_3 : decode cX0_dovesNow 3 = .ok (.istore_n 3, 1) := by decide +kernel
theorem dX0_dovesNow_4 : decode cX0_dovesNow 4 = .ok (.iload_n 3, 1) := by decide +kernel
theorem dX0_dovesNow_5 : decode cX0_dovesNow 5 = .ok (.aload_n 0, 1) := by decide +kernel
theorem dX0_dovesNow_6 : decode cX0_dovesNow 6 = .ok (.getfield 62, 3) := by decide +kernel
theorem dX0_dovesNow_9 : decode cX0_dovesNow 9 = .ok (.if_icmp .ge 23, 3) := by decide +kernel
theorem dX0_dovesNow_12 : decode cX0_dovesNow 12 = .ok (.iload_n 2, 1) := by decide +kernel
theorem dX0_dovesNow_13 : decode cX0_dovesNow 13 = .ok (.aload_n 0, 1) := by decide +kernel
theorem dX0_dovesNow_14 : decode cX0_dovesNow 14 = .ok (.getfield 30, 3) := by decide +kernel
theorem dX0_dovesNow_17 : decode cX0_dovesNow 17 = .ok (.iload_n 3, 1) := by decide +kernel
theorem dX0_dovesNow_18 : decode cX0_dovesNow 18 = .ok (.aaload, 1) := by decide +kernel
theorem dX0_dovesNow_19 : decode cX0_dovesNow 19 = .ok (.iload_n 1, 1) := by decide +kernel
theorem dX0_dovesNow_20 : decode cX0_dovesNow 20 = .ok (.iaload, 1) := by decide +kernel
theorem dX0_dovesNow_21 : decode cX0_dovesNow 21 = .ok (.invokestatic 169, 3) := by decide +kernel
theorem dX0_dovesNow_24 : decode cX0_dovesNow 24 = .ok (.iadd, 1) := by decide +kernel
theorem dX0_dovesNow_25 : decode cX0_dovesNow 25 = .ok (.istore_n 2, 1) := by decide +kernel
theorem dX0_dovesNow_26 : decode cX0_dovesNow 26 = .ok (.iinc 3 1, 3) := by decide +kernel
theorem dX0_dovesNow_29 : decode cX0_dovesNow 29 = .ok (.goto (-25), 3) := by decide +kernel
theorem dX0_dovesNow_32 : decode cX0_dovesNow 32 = .ok (.iload_n 2, 1) := by decide +kernel
theorem dX0_dovesNow_33 : decode cX0_dovesNow 33 = .ok (.ireturn, 1) := by decide +kernel
theorem dX0_dovesFor_0 : decode cX0_dovesFor 0 = .ok (.iconst 0, 1) := by decide +kernel
theorem dX0_dovesFor_1 : decode cX0_dovesFor 1 = .ok (.iload_n 0, 1) := by decide +kernel
theorem dX0_dovesFor_2 : decode cX0_dovesFor 2 = .ok (.ineg, 1) := by decide +kernel
theorem dX0_dovesFor_3 : decode cX0_dovesFor 3 = .ok (.invokestatic 166, 3) := by decide +kernel
theorem dX0_dovesFor_6 : decode cX0_dovesFor 6 = .ok (.ireturn, 1) := by decide +kernel
theorem dX0_priceNow_0 : decode cX0_priceNow 0 = .ok (.aload_n 0, 1) := by decide +kernel
theorem dX0_priceNow_1 : decode cX0_priceNow 1 = .ok (.getfield 16, 3) := by decide +kernel
theorem dX0_priceNow_4 : decode cX0_priceNow 4 = .ok (.iload_n 1, 1) := by decide +kernel
theorem dX0_priceNow_5 : decode cX0_priceNow 5 = .ok (.iaload, 1) := by decide +kernel
theorem dX0_priceNow_6 : decode cX0_priceNow 6 = .ok (.aload_n 0, 1) := by decide +kernel
theorem dX0_priceNow_7 : decode cX0_priceNow 7 = .ok (.getfield 9, 3) := by decide +kernel
theorem dX0_priceNow_10 : decode cX0_priceNow 10 = .ok (.iload_n 1, 1) := by decide +kernel
theorem dX0_priceNow_11 : decode cX0_priceNow 11 = .ok (.iaload, 1) := by decide +kernel
theorem dX0_priceNow_12 : decode cX0_priceNow 12 = .ok (.aload_n 0, 1) := by decide +kernel
theorem dX0_priceNow_13 : decode cX0_priceNow 13 = .ok (.iload_n 1, 1) := by decide +kernel
theorem dX0_priceNow_14 : decode cX0_priceNow 14 = .ok (.invokevirtual 94, 3) := by decide +kernel
theorem dX0_priceNow_17 : decode cX0_priceNow 17 = .ok (.invokestatic 172, 3) := by decide +kernel
theorem dX0_priceNow_20 : decode cX0_priceNow 20 = .ok (.ireturn, 1) := by decide +kernel
theorem dX0_closing_0 : decode cX0_closing 0 = .ok (.aload_n 0, 1) := by decide +kernel
theorem dX0_closing_1 : decode cX0_closing 1 = .ok (.iload_n 1, 1) := by decide +kernel
theorem dX0_closing_2 : decode cX0_closing 2 = .ok (.aload_n 0, 1) := by decide +kernel
theorem dX0_closing_3 : decode cX0_closing 3 = .ok (.iload_n 1, 1) := by decide +kernel
theorem dX0_closing_4 : decode cX0_closing 4 = .ok (.invokevirtual 94, 3) := by decide +kernel
theorem dX0_closing_7 : decode cX0_closing 7 = .ok (.invokevirtual 175, 3) := by decide +kernel
theorem dX0_closing_10 : decode cX0_closing 10 = .ok (.ireturn, 1) := by decide +kernel
theorem dX0_closingWith_0 : decode cX0_closingWith 0 = .ok (.aload_n 0, 1) := by decide +kernel
theorem dX0_closingWith_1 : decode cX0_closingWith 1 = .ok (.getfield 16, 3) := by decide +kernel
theorem dX0_closingWith_4 : decode cX0_closingWith 4 = .ok (.iload_n 1, 1) := by decide +kernel
theorem dX0_closingWith_5 : decode cX0_closingWith 5 = .ok (.iaload, 1) := by decide +kernel
theorem dX0_closingWith_6 : decode cX0_closingWith 6 = .ok (.aload_n 0, 1) := by decide +kernel
theorem dX0_closingWith_7 : decode cX0_closingWith 7 = .ok (.getfield 19, 3) := by decide +kernel
theorem dX0_closingWith_10 : decode cX0_closingWith 10 = .ok (.iload_n 1, 1) := by decide +kernel
theorem dX0_closingWith_11 : decode cX0_closingWith 11 = .ok (.iaload, 1) := by decide +kernel
theorem dX0_closingWith_12 : decode cX0_closingWith 12 = .ok (.iadd, 1) := by decide +kernel
theorem dX0_closingWith_13 : decode cX0_closingWith 13 = .ok (.iconst 1, 1) := by decide +kernel
theorem dX0_closingWith_14 : decode cX0_closingWith 14 = .ok (.isub, 1) := by decide +kernel
theorem dX0_closingWith_15 : decode cX0_closingWith 15 = .ok (.aload_n 0, 1) := by decide +kernel
theorem dX0_closingWith_16 : decode cX0_closingWith 16 = .ok (.getfield 9, 3) := by decide +kernel
theorem dX0_closingWith_19 : decode cX0_closingWith 19 = .ok (.iload_n 1, 1) := by decide +kernel
theorem dX0_closingWith_20 : decode cX0_closingWith 20 = .ok (.iaload, 1) := by decide +kernel
theorem dX0_closingWith_21 : decode cX0_closingWith 21 = .ok (.iload_n 2, 1) := by decide +kernel
theorem dX0_closingWith_22 : decode cX0_closingWith 22 = .ok (.invokestatic 172, 3) := by decide +kernel
theorem dX0_closingWith_25 : decode cX0_closingWith 25 = .ok (.ireturn, 1) := by decide +kernel
theorem dX0_riseUntilStroke_0 : decode cX0_riseUntilStroke 0 = .ok (.aload_n 0, 1) := by decide +kernel
theorem dX0_riseUntilStroke_1 : decode cX0_riseUntilStroke 1 = .ok (.iload_n 1, 1) := by decide +kernel
theorem dX0_riseUntilStroke_2 : decode cX0_riseUntilStroke 2 = .ok (.invokevirtual 106, 3) := by decide +kernel
theorem dX0_riseUntilStroke_5 : decode cX0_riseUntilStroke 5 = .ok (.aload_n 0, 1) := by decide +kernel
theorem dX0_riseUntilStroke_6 : decode cX0_riseUntilStroke 6 = .ok (.iload_n 1, 1) := by decide +kernel
theorem dX0_riseUntilStroke_7 : decode cX0_riseUntilStroke 7 = .ok (.invokevirtual 77, 3) := by decide +kernel
theorem dX0_riseUntilStroke_10 : decode cX0_riseUntilStroke 10 = .ok (.isub, 1) := by decide +kernel
theorem dX0_riseUntilStroke_11 : decode cX0_riseUntilStroke 11 = .ok (.ireturn, 1) := by decide +kernel
theorem dX0_priceBehind_0 : decode cX0_priceBehind 0 = .ok (.iload_n 2, 1) := by decide +kernel
theorem dX0_priceBehind_1 : decode cX0_priceBehind 1 = .ok (.aload_n 0, 1) := by decide +kernel
theorem dX0_priceBehind_2 : decode cX0_priceBehind 2 = .ok (.getfield 19, 3) := by decide +kernel
theorem dX0_priceBehind_5 : decode cX0_priceBehind 5 = .ok (.iload_n 1, 1) := by decide +kernel
theorem dX0_priceBehind_6 : decode cX0_priceBehind 6 = .ok (.iaload, 1) := by decide +kernel
theorem dX0_priceBehind_7 : decode cX0_priceBehind 7 = .ok (.isub, 1) := by decide +kernel
theorem dX0_priceBehind_8 : decode cX0_priceBehind 8 = .ok (.istore_n 3, 1) := by decide +kernel
theorem dX0_priceBehind_9 : decode cX0_priceBehind 9 = .ok (.iload_n 3, 1) := by decide +kernel
theorem dX0_priceBehind_10 : decode cX0_priceBehind 10 = .ok (.ifCond .ge 26, 3) := by decide +kernel
theorem dX0_priceBehind_13 : decode cX0_priceBehind 13 = .ok (.aload_n 0, 1) := by decide +kernel
theorem dX0_priceBehind_14 : decode cX0_priceBehind 14 = .ok (.getfield 16, 3) := by decide +kernel
theorem dX0_priceBehind_17 : decode cX0_priceBehind 17 = .ok (.iload_n 1, 1) := by decide +kernel
theorem dX0_priceBehind_18 : decode cX0_priceBehind 18 = .ok (.iaload, 1) := by decide +kernel
theorem dX0_priceBehind_19 : decode cX0_priceBehind 19 = .ok (.iload_n 2, 1) := by decide +kernel
theorem dX0_priceBehind_20 : decode cX0_priceBehind 20 = .ok (.iadd, 1) := by decide +kernel
theorem dX0_priceBehind_21 : decode cX0_priceBehind 21 = .ok (.aload_n 0, 1) := by decide +kernel
theorem dX0_priceBehind_22 : decode cX0_priceBehind 22 = .ok (.getfield 9, 3) := by decide +kernel
theorem dX0_priceBehind_25 : decode cX0_priceBehind 25 = .ok (.iload_n 1, 1) := by decide +kernel
theorem dX0_priceBehind_26 : decode cX0_priceBehind 26 = .ok (.iaload, 1) := by decide +kernel
theorem dX0_priceBehind_27 : decode cX0_priceBehind 27 = .ok (.aload_n 0, 1) := by decide +kernel
theorem dX0_priceBehind_28 : decode cX0_priceBehind 28 = .ok (.iload_n 1, 1) := by decide +kernel
theorem dX0_priceBehind_29 : decode cX0_priceBehind 29 = .ok (.invokevirtual 94, 3) := by decide +kernel
theorem dX0_priceBehind_32 : decode cX0_priceBehind 32 = .ok (.invokestatic 172, 3) := by decide +kernel
theorem dX0_priceBehind_35 : decode cX0_priceBehind 35 = .ok (.ireturn, 1) := by decide +kernel
theorem dX0_priceBehind_36 : decode cX0_priceBehind 36 = .ok (.aload_n 0, 1) := by decide +kernel
theorem dX0_priceBehind_37 : decode cX0_priceBehind 37 = .ok (.getfield 13, 3) := by decide +kernel
theorem dX0_priceBehind_40 : decode cX0_priceBehind 40 = .ok (.iload_n 1, 1) := by decide +kernel
theorem dX0_priceBehind_41 : decode cX0_priceBehind 41 = .ok (.iaload, 1) := by decide +kernel
theorem dX0_priceBehind_42 : decode cX0_priceBehind 42 = .ok (.istore 4, 2) := by decide +kernel
theorem dX0_priceBehind_44 : decode cX0_priceBehind 44 = .ok (.iload 4, 2) := by decide +kernel
theorem dX0_priceBehind_46 : decode cX0_priceBehind 46 = .ok (.iconst 2, 1) := by decide +kernel
theorem dX0_priceBehind_47 : decode cX0_priceBehind 47 = .ok (.if_icmp .ge 7, 3) := by decide +kernel
theorem dX0_priceBehind_50 : decode cX0_priceBehind 50 = .ok (.iconst 0, 1) := by decide +kernel
theorem dX0_priceBehind_51 : decode cX0_priceBehind 51 = .ok (.goto 7, 3) := by decide +kernel
theorem dX0_priceBehind_54 : decode cX0_priceBehind 54 = .ok (.iload_n 3, 1) := by decide +kernel
theorem dX0_priceBehind_55 : decode cX0_priceBehind 55 = .ok (.iload 4, 2) := by decide +kernel
theorem dX0_priceBehind_57 : decode cX0_priceBehind 57 = .ok (.irem, 1) := by decide +kernel
theorem dX0_priceBehind_58 : decode cX0_priceBehind 58 = .ok (.istore 5, 2) := by decide +kernel
theorem dX0_priceBehind_60 : decode cX0_priceBehind 60 = .ok (.iload 5, 2) := by decide +kernel
theorem dX0_priceBehind_62 : decode cX0_priceBehind 62 = .ok (.aload_n 0, 1) := by decide +kernel
theorem dX0_priceBehind_63 : decode cX0_priceBehind 63 = .ok (.getfield 9, 3) := by decide +kernel
theorem dX0_priceBehind_66 : decode cX0_priceBehind 66 = .ok (.iload_n 1, 1) := by decide +kernel
theorem dX0_priceBehind_67 : decode cX0_priceBehind 67 = .ok (.iaload, 1) := by decide +kernel
theorem dX0_priceBehind_68 : decode cX0_priceBehind 68 = .ok (.iconst 0, 1) := by decide +kernel
theorem dX0_priceBehind_69 : decode cX0_priceBehind 69 = .ok (.invokestatic 172, 3) := by decide +kernel
theorem dX0_priceBehind_72 : decode cX0_priceBehind 72 = .ok (.ireturn, 1) := by decide +kernel
theorem dX0_heldByAll_0 : decode cX0_heldByAll 0 = .ok (.iconst 0, 1) := by decide +kernel
theorem dX0_heldByAll_1 : decode cX0_heldByAll 1 = .ok (.istore_n 2, 1) := by decide +kernel
theorem dX0_heldByAll_2 : decode cX0_heldByAll 2 = .ok (.iconst 0, 1) := by decide +kernel
theorem dX0_heldByAll_3 : decode cX0_heldByAll 3 = .ok (.istore_n 3, 1) := by decide +kernel
theorem dX0_heldByAll_4 : decode cX0_heldByAll 4 = .ok (.iload_n 3, 1) := by decide +kernel
theorem dX0_heldByAll_5 : decode cX0_heldByAll 5 = .ok (.aload_n 0, 1) := by decide +kernel
theorem dX0_heldByAll_6 : decode cX0_heldByAll 6 = .ok (.getfield 62, 3) := by decide +kernel
theorem dX0_heldByAll_9 : decode cX0_heldByAll 9 = .ok (.if_icmp .ge 20, 3) := by decide +kernel
theorem dX0_heldByAll_12 : decode cX0_heldByAll 12 = .ok (.iload_n 2, 1) := by decide +kernel
theorem dX0_heldByAll_13 : decode cX0_heldByAll 13 = .ok (.aload_n 0, 1) := by decide +kernel
theorem dX0_heldByAll_14 : decode cX0_heldByAll 14 = .ok (.getfield 30, 3) := by decide +kernel
theorem dX0_heldByAll_17 : decode cX0_heldByAll 17 = .ok (.iload_n 3, 1) := by decide +kernel
theorem dX0_heldByAll_18 : decode cX0_heldByAll 18 = .ok (.aaload, 1) := by decide +kernel
theorem dX0_heldByAll_19 : decode cX0_heldByAll 19 = .ok (.iload_n 1, 1) := by decide +kernel
theorem dX0_heldByAll_20 : decode cX0_heldByAll 20 = .ok (.iaload, 1) := by decide +kernel
theorem dX0_heldByAll_21 : decode cX0_heldByAll 21 = .ok (.iadd, 1) := by decide +kernel
theorem dX0_heldByAll_22 : decode cX0_heldByAll 22 = .ok (.istore_n 2, 1) := by decide +kernel
theorem dX0_heldByAll_23 : decode cX0_heldByAll 23 = .ok (.iinc 3 1, 3) := by decide +kernel
theorem dX0_heldByAll_26 : decode cX0_heldByAll 26 = .ok (.goto (-22), 3) := by decide +kernel
theorem dX0_heldByAll_29 : decode cX0_heldByAll 29 = .ok (.iload_n 2, 1) := by decide +kernel
theorem dX0_heldByAll_30 : decode cX0_heldByAll 30 = .ok (.ireturn, 1) := by decide +kernel
theorem dX0_shortTowers_0 : decode cX0_shortTowers 0 = .ok (.iconst 0, 1) := by decide +kernel
theorem dX0_shortTowers_1 : decode cX0_shortTowers 1 = .ok (.istore_n 2, 1) := by decide +kernel
theorem dX0_shortTowers_2 : decode cX0_shortTowers 2 = .ok (.iconst 0, 1) := by decide +kernel
theorem dX0_shortTowers_3 : decode cX0_shortTowers 3 = .ok (.istore_n 3, 1) := by decide +kernel
theorem dX0_shortTowers_4 : decode cX0_shortTowers 4 = .ok (.iload_n 3, 1) := by decide +kernel
theorem dX0_shortTowers_5 : decode cX0_shortTowers 5 = .ok (.aload_n 0, 1) := by decide +kernel
theorem dX0_shortTowers_6 : decode cX0_shortTowers 6 = .ok (.getfield 44, 3) := by decide +kernel
theorem dX0_shortTowers_9 : decode cX0_shortTowers 9 = .ok (.if_icmp .ge 23, 3) := by decide +kernel
theorem dX0_shortTowers_12 : decode cX0_shortTowers 12 = .ok (.aload_n 0, 1) := by decide +kernel
theorem dX0_shortTowers_13 : decode cX0_shortTowers 13 = .ok (.getfield 30, 3) := by decide +kernel
theorem dX0_shortTowers_16 : decode cX0_shortTowers 16 = .ok (.iload_n 1, 1) := by decide +kernel
theorem dX0_shortTowers_17 : decode cX0_shortTowers 17 = .ok (.aaload, 1) := by decide +kernel
theorem dX0_shortTowers_18 : decode cX0_shortTowers 18 = .ok (.iload_n 3, 1) := by decide +kernel
theorem dX0_shortTowers_19 : decode cX0_shortTowers 19 = .ok (.iaload, 1) := by decide +kernel
theorem dX0_shortTowers_20 : decode cX0_shortTowers 20 = .ok (.ifCond .ge 6, 3) := by decide +kernel
theorem dX0_shortTowers_23 : decode cX0_shortTowers 23 = .ok (.iinc 2 1, 3) := by decide +kernel
theorem dX0_shortTowers_26 : decode cX0_shortTowers 26 = .ok (.iinc 3 1, 3) := by decide +kernel
theorem dX0_shortTowers_29 : decode cX0_shortTowers 29 = .ok (.goto (-25), 3) := by decide +kernel
theorem dX0_shortTowers_32 : decode cX0_shortTowers 32 = .ok (.iload_n 2, 1) := by decide +kernel
theorem dX0_shortTowers_33 : decode cX0_shortTowers 33 = .ok (.ireturn, 1) := by decide +kernel
theorem dX0_worthBehind_0 : decode cX0_worthBehind 0 = .ok (.aload_n 0, 1) := by decide +kernel
theorem dX0_worthBehind_1 : decode cX0_worthBehind 1 = .ok (.getfield 25, 3) := by decide +kernel
theorem dX0_worthBehind_4 : decode cX0_worthBehind 4 = .ok (.iload_n 1, 1) := by decide +kernel
theorem dX0_worthBehind_5 : decode cX0_worthBehind 5 = .ok (.iaload, 1) := by decide +kernel
theorem dX0_worthBehind_6 : decode cX0_worthBehind 6 = .ok (.istore_n 3, 1) := by decide +kernel
theorem dX0_worthBehind_7 : decode cX0_worthBehind 7 = .ok (.iconst 0, 1) := by decide +kernel
theorem dX0_worthBehind_8 : decode cX0_worthBehind 8 = .ok (.istore 4, 2) := by decide +kernel
theorem dX0_worthBehind_10 : decode cX0_worthBehind 10 = .ok (.iload 4, 2) := by decide +kernel
theorem dX0_worthBehind_12 : decode cX0_worthBehind 12 = .ok (.aload_n 0, 1) := by decide +kernel
theorem dX0_worthBehind_13 : decode cX0_worthBehind 13 = .ok (.getfield 44, 3) := by decide +kernel
theorem dX0_worthBehind_16 : decode cX0_worthBehind 16 = .ok (.if_icmp .ge 65, 3) := by decide +kernel
theorem dX0_worthBehind_19 : decode cX0_worthBehind 19 = .ok (.aload_n 0, 1) := by decide +kernel
theorem dX0_worthBehind_20 : decode cX0_worthBehind 20 = .ok (.getfield 19, 3) := by decide +kernel
theorem dX0_worthBehind_23 : decode cX0_worthBehind 23 = .ok (.iload 4, 2) := by decide +kernel
theorem dX0_worthBehind_25 : decode cX0_worthBehind 25 = .ok (.iaload, 1) := by decide +kernel
theorem dX0_worthBehind_26 : decode cX0_worthBehind 26 = .ok (.iload_n 2, 1) := by decide +kernel
theorem dX0_worthBehind_27 : decode cX0_worthBehind 27 = .ok (.if_icmp .gt 7, 3) := by decide +kernel
theorem dX0_worthBehind_30 : decode cX0_worthBehind 30 = .ok (.iconst 1, 1) := by decide +kernel
theorem dX0_worthBehind_31 : decode cX0_worthBehind 31 = .ok (.goto 4, 3) := by decide +kernel
theorem dX0_worthBehind_34 : decode cX0_worthBehind 34 = .ok (.iconst 0, 1) := by decide +kernel
theorem dX0_worthBehind_35 : decode cX0_worthBehind 35 = .ok (.istore 5, 2) := by decide +kernel
theorem dX0_worthBehind_37 : decode cX0_worthBehind 37 = .ok (.iload 5, 2) := by decide +kernel
theorem dX0_worthBehind_39 : decode cX0_worthBehind 39 = .ok (.ifCond .eq 12, 3) := by decide +kernel
theorem dX0_worthBehind_42 : decode cX0_worthBehind 42 = .ok (.aload_n 0, 1) := by decide +kernel
theorem dX0_worthBehind_43 : decode cX0_worthBehind 43 = .ok (.iload 4, 2) := by decide +kernel
theorem dX0_worthBehind_45 : decode cX0_worthBehind 45 = .ok (.invokevirtual 106, 3) := by decide +kernel
theorem dX0_worthBehind_48 : decode cX0_worthBehind 48 = .ok (.goto 10, 3) := by decide +kernel
theorem dX0_worthBehind_51 : decode cX0_worthBehind 51 = .ok (.aload_n 0, 1) := by decide +kernel
theorem dX0_worthBehind_52 : decode cX0_worthBehind 52 = .ok (.iload 4, 2) := by decide +kernel
theorem dX0_worthBehind_54 : decode cX0_worthBehind 54 = .ok (.iload_n 2, 1) := by decide +kernel
theorem dX0_worthBehind_55 : decode cX0_worthBehind 55 = .ok (.invokevirtual 109, 3) := by decide +kernel
theorem dX0_worthBehind_58 : decode cX0_worthBehind 58 = .ok (.istore 6, 2) := by decide +kernel
theorem dX0_worthBehind_60 : decode cX0_worthBehind 60 = .ok (.iload_n 3, 1) := by decide +kernel
theorem dX0_worthBehind_61 : decode cX0_worthBehind 61 = .ok (.iload 6, 2) := by decide +kernel
theorem dX0_worthBehind_63 : decode cX0_worthBehind 63 = .ok (.aload_n 0, 1) := by decide +kernel
theorem dX0_worthBehind_64 : decode cX0_worthBehind 64 = .ok (.getfield 30, 3) := by decide +kernel
theorem dX0_worthBehind_67 : decode cX0_worthBehind 67 = .ok (.iload_n 1, 1) := by decide +kernel
theorem dX0_worthBehind_68 : decode cX0_worthBehind 68 = .ok (.aaload, 1) := by decide +kernel
theorem dX0_worthBehind_69 : decode cX0_worthBehind 69 = .ok (.iload 4, 2) := by decide +kernel
theorem dX0_worthBehind_71 : decode cX0_worthBehind 71 = .ok (.iaload, 1) := by decide +kernel
theorem dX0_worthBehind_72 : decode cX0_worthBehind 72 = .ok (.imul, 1) := by decide +kernel
theorem dX0_worthBehind_73 : decode cX0_worthBehind 73 = .ok (.iadd, 1) := by decide +kernel
theorem dX0_worthBehind_74 : decode cX0_worthBehind 74 = .ok (.istore_n 3, 1) := by decide +kernel
theorem dX0_worthBehind_75 : decode cX0_worthBehind 75 = .ok (.iinc 4 1, 3) := by decide +kernel
theorem dX0_worthBehind_78 : decode cX0_worthBehind 78 = .ok (.goto (-68), 3) := by decide +kernel
theorem dX0_worthBehind_81 : decode cX0_worthBehind 81 = .ok (.iload_n 3, 1) := by decide +kernel
theorem dX0_worthBehind_82 : decode cX0_worthBehind 82 = .ok (.ireturn, 1) := by decide +kernel
theorem dX0_closedIn_0 : decode cX0_closedIn 0 = .ok (.iconst 0, 1) := by decide +kernel
theorem dX0_closedIn_1 : decode cX0_closedIn 1 = .ok (.istore_n 3, 1) := by decide +kernel
theorem dX0_closedIn_2 : decode cX0_closedIn 2 = .ok (.iconst 0, 1) := by decide +kernel
theorem dX0_closedIn_3 : decode cX0_closedIn 3 = .ok (.istore 4, 2) := by decide +kernel
theorem dX0_closedIn_5 : decode cX0_closedIn 5 = .ok (.iload 4, 2) := by decide +kernel
theorem dX0_closedIn_7 : decode cX0_closedIn 7 = .ok (.aload_n 0, 1) := by decide +kernel
theorem dX0_closedIn_8 : decode cX0_closedIn 8 = .ok (.getfield 44, 3) := by decide +kernel
theorem dX0_closedIn_11 : decode cX0_closedIn 11 = .ok (.if_icmp .ge 39, 3) := by decide +kernel
theorem dX0_closedIn_14 : decode cX0_closedIn 14 = .ok (.aload_n 0, 1) := by decide +kernel
theorem dX0_closedIn_15 : decode cX0_closedIn 15 = .ok (.getfield 19, 3) := by decide +kernel
theorem dX0_closedIn_18 : decode cX0_closedIn 18 = .ok (.iload 4, 2) := by decide +kernel
theorem dX0_closedIn_20 : decode cX0_closedIn 20 = .ok (.iaload, 1) := by decide +kernel
theorem dX0_closedIn_21 : decode cX0_closedIn 21 = .ok (.iload_n 2, 1) := by decide +kernel
theorem dX0_closedIn_22 : decode cX0_closedIn 22 = .ok (.if_icmp .ne 22, 3) := by decide +kernel
theorem dX0_closedIn_25 : decode cX0_closedIn 25 = .ok (.iload_n 3, 1) := by decide +kernel
theorem dX0_closedIn_26 : decode cX0_closedIn 26 = .ok (.aload_n 0, 1) := by decide +kernel
theorem dX0_closedIn_27 : decode cX0_closedIn 27 = .ok (.iload 4, 2) := by decide +kernel
theorem dX0_closedIn_29 : decode cX0_closedIn 29 = .ok (.invokevirtual 106, 3) := by decide +kernel
theorem dX0_closedIn_32 : decode cX0_closedIn 32 = .ok (.aload_n 0, 1) := by decide +kernel
theorem dX0_closedIn_33 : decode cX0_closedIn 33 = .ok (.getfield 30, 3) := by decide +kernel
theorem dX0_closedIn_36 : decode cX0_closedIn 36 = .ok (.iload_n 1, 1) := by decide +kernel
theorem dX0_closedIn_37 : decode cX0_closedIn 37 = .ok (.aaload, 1) := by decide +kernel
theorem dX0_closedIn_38 : decode cX0_closedIn 38 = .ok (.iload 4, 2) := by decide +kernel
theorem dX0_closedIn_40 : decode cX0_closedIn 40 = .ok (.iaload, 1) := by decide +kernel
theorem dX0_closedIn_41 : decode cX0_closedIn 41 = .ok (.imul, 1) := by decide +kernel
theorem dX0_closedIn_42 : decode cX0_closedIn 42 = .ok (.iadd, 1) := by decide +kernel
theorem dX0_closedIn_43 : decode cX0_closedIn 43 = .ok (.istore_n 3, 1) := by decide +kernel
theorem dX0_closedIn_44 : decode cX0_closedIn 44 = .ok (.iinc 4 1, 3) := by decide +kernel
theorem dX0_closedIn_47 : decode cX0_closedIn 47 = .ok (.goto (-42), 3) := by decide +kernel
theorem dX0_closedIn_50 : decode cX0_closedIn 50 = .ok (.iload_n 3, 1) := by decide +kernel
theorem dX0_closedIn_51 : decode cX0_closedIn 51 = .ok (.ireturn, 1) := by decide +kernel
theorem dX0_yieldOfSelling_0 : decode cX0_yieldOfSelling 0 = .ok (.aload_n 0, 1) := by decide +kernel
theorem dX0_yieldOfSelling_1 : decode cX0_yieldOfSelling 1 = .ok (.getfield 30, 3) := by decide +kernel
theorem dX0_yieldOfSelling_4 : decode cX0_yieldOfSelling 4 = .ok (.iload_n 1, 1) := by decide +kernel
theorem dX0_yieldOfSelling_5 : decode cX0_yieldOfSelling 5 = .ok (.aaload, 1) := by decide +kernel
theorem dX0_yieldOfSelling_6 : decode cX0_yieldOfSelling 6 = .ok (.iload_n 2, 1) := by decide +kernel
theorem dX0_yieldOfSelling_7 : decode cX0_yieldOfSelling 7 = .ok (.iaload, 1) := by decide +kernel
theorem dX0_yieldOfSelling_8 : decode cX0_yieldOfSelling 8 = .ok (.istore 4, 2) := by decide +kernel
theorem dX0_yieldOfSelling_10 : decode cX0_yieldOfSelling 10 = .ok (.iload 4, 2) := by decide +kernel
theorem dX0_yieldOfSelling_12 : decode cX0_yieldOfSelling 12 = .ok (.iload_n 3, 1) := by decide +kernel
theorem dX0_yieldOfSelling_13 : decode cX0_yieldOfSelling 13 = .ok (.isub, 1) := by decide +kernel
theorem dX0_yieldOfSelling_14 : decode cX0_yieldOfSelling 14 = .ok (.istore 5, 2) := by decide +kernel
theorem dX0_yieldOfSelling_16 : decode cX0_yieldOfSelling 16 = .ok (.aload_n 0, 1) := by decide +kernel
theorem dX0_yieldOfSelling_17 : decode cX0_yieldOfSelling 17 = .ok (.iload_n 2, 1) := by decide +kernel
theorem dX0_yieldOfSelling_18 : decode cX0_yieldOfSelling 18 = .ok (.invokevirtual 94, 3) := by decide +kernel
theorem dX0_yieldOfSelling_21 : decode cX0_yieldOfSelling 21 = .ok (.iload 4, 2) := by decide +kernel
theorem dX0_yieldOfSelling_23 : decode cX0_yieldOfSelling 23 = .ok (.invokestatic 169, 3) := by decide +kernel
theorem dX0_yieldOfSelling_26 : decode cX0_yieldOfSelling 26 = .ok (.isub, 1) := by decide +kernel
theorem dX0_yieldOfSelling_27 : decode cX0_yieldOfSelling 27 = .ok (.iload 5, 2) := by decide +kernel
theorem dX0_yieldOfSelling_29 : decode cX0_yieldOfSelling 29 = .ok (.invokestatic 169, 3) := by decide +kernel
theorem dX0_yieldOfSelling_32 : decode cX0_yieldOfSelling 32 = .ok (.iadd, 1) := by decide +kernel
theorem dX0_yieldOfSelling_33 : decode cX0_yieldOfSelling 33 = .ok (.istore 6, 2) := by decide +kernel
theorem dX0_yieldOfSelling_35 : decode cX0_yieldOfSelling 35 = .ok (.iload_n 3, 1) := by decide +kernel
theorem dX0_yieldOfSelling_36 : decode cX0_yieldOfSelling 36 = .ok (.aload_n 0, 1) := by decide +kernel
theorem dX0_yieldOfSelling_37 : decode cX0_yieldOfSelling 37 = .ok (.iload_n 2, 1) := by decide +kernel
theorem dX0_yieldOfSelling_38 : decode cX0_yieldOfSelling 38 = .ok (.invokevirtual 77, 3) := by decide +kernel
theorem dX0_yieldOfSelling_41 : decode cX0_yieldOfSelling 41 = .ok (.imul, 1) := by decide +kernel
theorem dX0_yieldOfSelling_42 : decode cX0_yieldOfSelling 42 = .ok (.iload 5, 2) := by decide +kernel
theorem dX0_yieldOfSelling_44 : decode cX0_yieldOfSelling 44 = .ok (.aload_n 0, 1) := by decide +kernel
theorem dX0_yieldOfSelling_45 : decode cX0_yieldOfSelling 45 = .ok (.iload_n 2, 1) := by decide +kernel
theorem dX0_yieldOfSelling_46 : decode cX0_yieldOfSelling 46 = .ok (.iload 6, 2) := by decide +kernel
theorem dX0_yieldOfSelling_48 : decode cX0_yieldOfSelling 48 = .ok (.invokevirtual 175, 3) := by decide +kernel
theorem dX0_yieldOfSelling_51 : decode cX0_yieldOfSelling 51 = .ok (.imul, 1) := by decide +kernel
theorem dX0_yieldOfSelling_52 : decode cX0_yieldOfSelling 52 = .ok (.iadd, 1) := by decide +kernel
theorem dX0_yieldOfSelling_53 : decode cX0_yieldOfSelling 53 = .ok (.ireturn, 1) := by decide +kernel
theorem dX0_mixed_0 : decode cX0_mixed 0 = .ok (.lload_n 0, 1) := by decide +kernel
theorem dX0_mixed_1 : decode cX0_mixed 1 = .ok (.ldc2_w 178, 3) := by decide +kernel
theorem dX0_mixed_4 : decode cX0_mixed 4 = .ok (.lmul, 1) := by decide +kernel
theorem dX0_mixed_5 : decode cX0_mixed 5 = .ok (.iload_n 2, 1) := by decide +kernel
theorem dX0_mixed_6 : decode cX0_mixed 6 = .ok (.i2l, 1) := by decide +kernel
theorem dX0_mixed_7 : decode cX0_mixed 7 = .ok (.ladd, 1) := by decide +kernel
theorem dX0_mixed_8 : decode cX0_mixed 8 = .ok (.lreturn, 1) := by decide +kernel
theorem dX0_mixedTower_0 : decode cX0_mixedTower 0 = .ok (.lload_n 1, 1) := by decide +kernel
theorem dX0_mixedTower_1 : decode cX0_mixedTower 1 = .ok (.aload_n 0, 1) := by decide +kernel
theorem dX0_mixedTower_2 : decode cX0_mixedTower 2 = .ok (.getfield 16, 3) := by decide +kernel
theorem dX0_mixedTower_5 : decode cX0_mixedTower 5 = .ok (.iload_n 3, 1) := by decide +kernel
theorem dX0_mixedTower_6 : decode cX0_mixedTower 6 = .ok (.iaload, 1) := by decide +kernel
theorem dX0_mixedTower_7 : decode cX0_mixedTower 7 = .ok (.invokestatic 127, 3) := by decide +kernel
theorem dX0_mixedTower_10 : decode cX0_mixedTower 10 = .ok (.lstore 4, 2) := by decide +kernel
theorem dX0_mixedTower_12 : decode cX0_mixedTower 12 = .ok (.lload 4, 2) := by decide +kernel
theorem dX0_mixedTower_14 : decode cX0_mixedTower 14 = .ok (.aload_n 0, 1) := by decide +kernel
theorem dX0_mixedTower_15 : decode cX0_mixedTower 15 = .ok (.iload_n 3, 1) := by decide +kernel
theorem dX0_mixedTower_16 : decode cX0_mixedTower 16 = .ok (.invokevirtual 94, 3) := by decide +kernel
theorem dX0_mixedTower_19 : decode cX0_mixedTower 19 = .ok (.invokestatic 127, 3) := by decide +kernel
theorem dX0_mixedTower_22 : decode cX0_mixedTower 22 = .ok (.lstore 4, 2) := by decide +kernel
theorem dX0_mixedTower_24 : decode cX0_mixedTower 24 = .ok (.lload 4, 2) := by decide +kernel
theorem dX0_mixedTower_26 : decode cX0_mixedTower 26 = .ok (.aload_n 0, 1) := by decide +kernel
theorem dX0_mixedTower_27 : decode cX0_mixedTower 27 = .ok (.iload_n 3, 1) := by decide +kernel
theorem dX0_mixedTower_28 : decode cX0_mixedTower 28 = .ok (.invokevirtual 77, 3) := by decide +kernel
theorem dX0_mixedTower_31 : decode cX0_mixedTower 31 = .ok (.invokestatic 127, 3) := by decide +kernel
theorem dX0_mixedTower_34 : decode cX0_mixedTower 34 = .ok (.lstore 4, 2) := by decide +kernel
theorem dX0_mixedTower_36 : decode cX0_mixedTower 36 = .ok (.lload 4, 2) := by decide +kernel
theorem dX0_mixedTower_38 : decode cX0_mixedTower 38 = .ok (.aload_n 0, 1) := by decide +kernel
theorem dX0_mixedTower_39 : decode cX0_mixedTower 39 = .ok (.getfield 19, 3) := by decide +kernel
theorem dX0_mixedTower_42 : decode cX0_mixedTower 42 = .ok (.iload_n 3, 1) := by decide +kernel
theorem dX0_mixedTower_43 : decode cX0_mixedTower 43 = .ok (.iaload, 1) := by decide +kernel
theorem dX0_mixedTower_44 : decode cX0_mixedTower 44 = .ok (.invokestatic 127, 3) := by decide +kernel
theorem dX0_mixedTower_47 : decode cX0_mixedTower 47 = .ok (.lstore 4, 2) := by decide +kernel
theorem dX0_mixedTower_49 : decode cX0_mixedTower 49 = .ok (.lload 4, 2) := by decide +kernel
theorem dX0_mixedTower_51 : decode cX0_mixedTower 51 = .ok (.aload_n 0, 1) := by decide +kernel
theorem dX0_mixedTower_52 : decode cX0_mixedTower 52 = .ok (.getfield 22, 3) := by decide +kernel
theorem dX0_mixedTower_55 : decode cX0_mixedTower 55 = .ok (.iload_n 3, 1) := by decide +kernel
theorem dX0_mixedTower_56 : decode cX0_mixedTower 56 = .ok (.iaload, 1) := by decide +kernel
theorem dX0_mixedTower_57 : decode cX0_mixedTower 57 = .ok (.invokestatic 127, 3) := by decide +kernel
theorem dX0_mixedTower_60 : decode cX0_mixedTower 60 = .ok (.lstore 4, 2) := by decide +kernel
theorem dX0_mixedTower_62 : decode cX0_mixedTower 62 = .ok (.lload 4, 2) := by decide +kernel
theorem dX0_mixedTower_64 : decode cX0_mixedTower 64 = .ok (.aload_n 0, 1) := by decide +kernel
theorem dX0_mixedTower_65 : decode cX0_mixedTower 65 = .ok (.iload_n 3, 1) := by decide +kernel
theorem dX0_mixedTower_66 : decode cX0_mixedTower 66 = .ok (.invokevirtual 97, 3) := by decide +kernel
theorem dX0_mixedTower_69 : decode cX0_mixedTower 69 = .ok (.invokestatic 127, 3) := by decide +kernel
theorem dX0_mixedTower_72 : decode cX0_mixedTower 72 = .ok (.lstore 4, 2) := by decide +kernel
theorem dX0_mixedTower_74 : decode cX0_mixedTower 74 = .ok (.lload 4, 2) := by decide +kernel
theorem dX0_mixedTower_76 : decode cX0_mixedTower 76 = .ok (.aload_n 0, 1) := by decide +kernel
theorem dX0_mixedTower_77 : decode cX0_mixedTower 77 = .ok (.iload_n 3, 1) := by decide +kernel
theorem dX0_mixedTower_78 : decode cX0_mixedTower 78 = .ok (.invokevirtual 106, 3) := by decide +kernel
theorem dX0_mixedTower_81 : decode cX0_mixedTower 81 = .ok (.invokestatic 127, 3) := by decide +kernel
theorem dX0_mixedTower_84 : decode cX0_mixedTower 84 = .ok (.lreturn, 1) := by decide +kernel
theorem dX0_mixedTrader_0 : decode cX0_mixedTrader 0 = .ok (.lload_n 1, 1) := by decide +kernel
theorem dX0_mixedTrader_1 : decode cX0_mixedTrader 1 = .ok (.aload_n 0, 1) := by decide +kernel
theorem dX0_mixedTrader_2 : decode cX0_mixedTrader 2 = .ok (.getfield 25, 3) := by decide +kernel
theorem dX0_mixedTrader_5 : decode cX0_mixedTrader 5 = .ok (.iload_n 3, 1) := by decide +kernel
theorem dX0_mixedTrader_6 : decode cX0_mixedTrader 6 = .ok (.iaload, 1) := by decide +kernel
theorem dX0_mixedTrader_7 : decode cX0_mixedTrader 7 = .ok (.invokestatic 127, 3) := by decide +kernel
theorem dX0_mixedTrader_10 : decode cX0_mixedTrader 10 = .ok (.lstore 4, 2) := by decide +kernel
theorem dX0_mixedTrader_12 : decode cX0_mixedTrader 12 = .ok (.lload 4, 2) := by decide +kernel
theorem dX0_mixedTrader_14 : decode cX0_mixedTrader 14 = .ok (.aload_n 0, 1) := by decide +kernel
theorem dX0_mixedTrader_15 : decode cX0_mixedTrader 15 = .ok (.iload_n 3, 1) := by decide +kernel
theorem dX0_mixedTrader_16 : decode cX0_mixedTrader 16 = .ok (.iconst 0, 1) := by decide +kernel
theorem dX0_mixedTrader_17 : decode cX0_mixedTrader 17 = .ok (.invokevirtual 100, 3) := by decide +kernel
theorem dX0_mixedTrader_20 : decode cX0_mixedTrader 20 = .ok (.invokestatic 127, 3) := by decide +kernel
theorem dX0_mixedTrader_23 : decode cX0_mixedTrader 23 = .ok (.lstore 4, 2) := by decide +kernel
theorem dX0_mixedTrader_25 : decode cX0_mixedTrader 25 = .ok (.lload 4, 2) := by decide +kernel
theorem dX0_mixedTrader_27 : decode cX0_mixedTrader 27 = .ok (.aload_n 0, 1) := by decide +kernel
theorem dX0_mixedTrader_28 : decode cX0_mixedTrader 28 = .ok (.iload_n 3, 1) := by decide +kernel
theorem dX0_mixedTrader_29 : decode cX0_mixedTrader 29 = .ok (.invokevirtual 103, 3) := by decide +kernel
theorem dX0_mixedTrader_32 : decode cX0_mixedTrader 32 = .ok (.invokestatic 127, 3) := by decide +kernel
theorem dX0_mixedTrader_35 : decode cX0_mixedTrader 35 = .ok (.lstore 4, 2) := by decide +kernel
theorem dX0_mixedTrader_37 : decode cX0_mixedTrader 37 = .ok (.iconst 0, 1) := by decide +kernel
theorem dX0_mixedTrader_38 : decode cX0_mixedTrader 38 = .ok (.istore 6, 2) := by decide +kernel
theorem dX0_mixedTrader_40 : decode cX0_mixedTrader 40 = .ok (.iload 6, 2) := by decide +kernel
theorem dX0_mixedTrader_42 : decode cX0_mixedTrader 42 = .ok (.aload_n 0, 1) := by decide +kernel
theorem dX0_mixedTrader_43 : decode cX0_mixedTrader 43 = .ok (.getfield 44, 3) := by decide +kernel
theorem dX0_mixedTrader_46 : decode cX0_mixedTrader 46 = .ok (.if_icmp .ge 25, 3) := by decide +kernel
theorem dX0_mixedTrader_49 : decode cX0_mixedTrader 49 = .ok (.lload 4, 2) := by decide +kernel
theorem dX0_mixedTrader_51 : decode cX0_mixedTrader 51 = .ok (.aload_n 0, 1) := by decide +kernel
theorem dX0_mixedTrader_52 : decode cX0_mixedTrader 52 = .ok (.getfield 30, 3) := by decide +kernel
theorem dX0_mixedTrader_55 : decode cX0_mixedTrader 55 = .ok (.iload_n 3, 1) := by decide +kernel
theorem dX0_mixedTrader_56 : decode cX0_mixedTrader 56 = .ok (.aaload, 1) := by decide +kernel
theorem dX0_mixedTrader_57 : decode cX0_mixedTrader 57 = .ok (.iload 6, 2) := by decide +kernel
theorem dX0_mixedTrader_59 : decode cX0_mixedTrader 59 = .ok (.iaload, 1) := by decide +kernel
theorem dX0_mixedTrader_60 : decode cX0_mixedTrader 60 = .ok (.invokestatic 127, 3) := by decide +kernel
theorem dX0_mixedTrader_63 : decode cX0_mixedTrader 63 = .ok (.lstore 4, 2) := by decide +kernel
theorem dX0_mixedTrader_65 : decode cX0_mixedTrader 65 = .ok (.iinc 6 1, 3) := by decide +kernel
theorem dX0_mixedTrader_68 : decode cX0_mixedTrader 68 = .ok (.goto (-28), 3) := by decide +kernel
theorem dX0_mixedTrader_71 : decode cX0_mixedTrader 71 = .ok (.lload 4, 2) := by decide +kernel
theorem dX0_mixedTrader_73 : decode cX0_mixedTrader 73 = .ok (.lreturn, 1) := by decide +kernel
end
section
theorem dX1_init_0 : decode cX1_init 0 = .ok (.aload_n 0, 1) := by decide +kernel
theorem dX1_init_1 : decode cX1_init 1 = .ok (.invokespecial 1, 3) := by decide +kernel
theorem dX1_init_4 : decode cX1_init 4 = .ok (.aload_n 0, 1) := by decide +kernel
theorem dX1_init_5 : decode cX1_init 5 = .ok (.bipush 8, 2) := by decide +kernel
theorem dX1_init_7 : decode cX1_init 7 = .ok (.newarray .int, 2) := by decide +kernel
theorem dX1_init_9 : decode cX1_init 9 = .ok (.putfield 9, 3) := by decide +kernel
theorem dX1_init_12 : decode cX1_init 12 = .ok (.aload_n 0, 1) := by decide +kernel
theorem dX1_init_13 : decode cX1_init 13 = .ok (.bipush 8, 2) := by decide +kernel
theorem dX1_init_15 : decode cX1_init 15 = .ok (.newarray .int, 2) := by decide +kernel
theorem dX1_init_17 : decode cX1_init 17 = .ok (.putfield 13, 3) := by decide +kernel
theorem dX1_init_20 : decode cX1_init 20 = .ok (.aload_n 0, 1) := by decide +kernel
theorem dX1_init_21 : decode cX1_init 21 = .ok (.bipush 8, 2) := by decide +kernel
theorem dX1_init_23 : decode cX1_init 23 = .ok (.newarray .int, 2) := by decide +kernel
theorem dX1_init_25 : decode cX1_init 25 = .ok (.putfield 16, 3) := by decide +kernel
theorem dX1_init_28 : decode cX1_init 28 = .ok (.aload_n 0, 1) := by decide +kernel
theorem dX1_init_29 : decode cX1_init 29 = .ok (.bipush 71, 2) := by decide +kernel
theorem dX1_init_31 : decode cX1_init 31 = .ok (.newarray .int, 2) := by decide +kernel
theorem dX1_init_33 : decode cX1_init 33 = .ok (.putfield 19, 3) := by decide +kernel
theorem dX1_init_36 : decode cX1_init 36 = .ok (.aload_n 0, 1) := by decide +kernel
theorem dX1_init_37 : decode cX1_init 37 = .ok (.bipush 71, 2) := by decide +kernel
theorem dX1_init_39 : decode cX1_init 39 = .ok (.newarray .int, 2) := by decide +kernel
theorem dX1_init_41 : decode cX1_init 41 = .ok (.putfield 22, 3) := by decide +kernel
theorem dX1_init_44 : decode cX1_init 44 = .ok (.return_, 1) := by decide +kernel
theorem dX1_thrown_0 : decode cX1_thrown 0 = .ok (.aload_n 0, 1) := by decide +kernel
theorem dX1_thrown_1 : decode cX1_thrown 1 = .ok (.getfield 25, 3) := by decide +kernel
theorem dX1_thrown_4 : decode cX1_thrown 4 = .ok (.ireturn, 1) := by decide +kernel
theorem dX1_fail_0 : decode cX1_fail 0 = .ok (.aload_n 0, 1) := by decide +kernel
theorem dX1_fail_1 : decode cX1_fail 1 = .ok (.iload_n 1, 1) := by decide +kernel
theorem dX1_fail_2 : decode cX1_fail 2 = .ok (.putfield 25, 3) := by decide +kernel
theorem dX1_fail_5 : decode cX1_fail 5 = .ok (.iconst 0, 1) := by decide +kernel
theorem dX1_fail_6 : decode cX1_fail 6 = .ok (.ireturn, 1) := by decide +kernel
theorem dX1_told_0 : decode cX1_told 0 = .ok (.aload_n 0, 1) := by decide +kernel
theorem dX1_told_1 : decode cX1_told 1 = .ok (.iconst 0, 1) := by decide +kernel
theorem dX1_told_2 : decode cX1_told 2 = .ok (.putfield 25, 3) := by decide +kernel
theorem dX1_told_5 : decode cX1_told 5 = .ok (.iload_n 1, 1) := by decide +kernel
theorem dX1_told_6 : decode cX1_told 6 = .ok (.ireturn, 1) := by decide +kernel
theorem dX1_isIn_0 : decode cX1_isIn 0 = .ok (.iload_n 0, 1) := by decide +kernel
theorem dX1_isIn_1 : decode cX1_isIn 1 = .ok (.iload_n 1, 1) := by decide +kernel
theorem dX1_isIn_2 : decode cX1_isIn 2 = .ok (.if_icmp .lt 12, 3) := by decide +kernel
theorem dX1_isIn_5 : decode cX1_isIn 5 = .ok (.iload_n 0, 1) := by decide +kernel
theorem dX1_isIn_6 : decode cX1_isIn 6 = .ok (.iload_n 2, 1) := by decide +kernel
theorem dX1_isIn_7 : decode cX1_isIn 7 = .ok (.if_icmp .gt 7, 3) := by decide +kernel
theorem dX1_isIn_10 : decode cX1_isIn 10 = .ok (.iconst 1, 1) := by decide +kernel
theorem dX1_isIn_11 : decode cX1_isIn 11 = .ok (.goto 4, 3) := by decide +kernel
theorem dX1_isIn_14 : decode cX1_isIn 14 = .ok (.iconst 0, 1) := by decide +kernel
theorem dX1_isIn_15 : decode cX1_isIn 15 = .ok (.ireturn, 1) := by decide +kernel
theorem dX1_isTower_0 : decode cX1_isTower 0 = .ok (.iload_n 1, 1) := by decide +kernel
theorem dX1_isTower_1 : decode cX1_isTower 1 = .ok (.iconst 0, 1) := by decide +kernel
theorem dX1_isTower_2 : decode cX1_isTower 2 = .ok (.aload_n 0, 1) := by decide +kernel
theorem dX1_isTower_3 : decode cX1_isTower 3 = .ok (.getfield 29, 3) := by decide +kernel
theorem dX1_isTower_6 : decode cX1_isTower 6 = .ok (.iconst 1, 1) := by decide +kernel
theorem dX1_isTower_7 : decode cX1_isTower 7 = .ok (.isub, 1) := by decide +kernel
theorem dX1_isTower_8 : decode cX1_isTower 8 = .ok (.invokestatic 32, 3) := by decide +kernel
theorem dX1_isTower_11 : decode cX1_isTower 11 = .ok (.ireturn, 1) := by decide +kernel
theorem dX1_isTrader_0 : decode cX1_isTrader 0 = .ok (.iload_n 1, 1) := by decide +kernel
theorem dX1_isTrader_1 : decode cX1_isTrader 1 = .ok (.iconst 0, 1) := by decide +kernel
theorem dX1_isTrader_2 : decode cX1_isTrader 2 = .ok (.aload_n 0, 1) := by decide +kernel
theorem dX1_isTrader_3 : decode cX1_isTrader 3 = .ok (.getfield 36, 3) := by decide +kernel
theorem dX1_isTrader_6 : decode cX1_isTrader 6 = .ok (.iconst 1, 1) := by decide +kernel
theorem dX1_isTrader_7 : decode cX1_isTrader 7 = .ok (.isub, 1) := by decide +kernel
theorem dX1_isTrader_8 : decode cX1_isTrader 8 = .ok (.invokestatic 32, 3) := by decide +kernel
theorem dX1_isTrader_11 : decode cX1_isTrader 11 = .ok (.ireturn, 1) := by decide +kernel
theorem dX1_keep_0 : decode cX1_keep 0 = .ok (.aload_n 0, 1) := by decide +kernel
theorem dX1_keep_1 : decode cX1_keep 1 = .ok (.getfield 19, 3) := by decide +kernel
theorem dX1_keep_4 : decode cX1_keep 4 = .ok (.iconst 0, 1) := by decide +kernel
theorem dX1_keep_5 : decode cX1_keep 5 = .ok (.aload_n 0, 1) := by decide +kernel
theorem dX1_keep_6 : decode cX1_keep 6 = .ok (.getfield 22, 3) := by decide +kernel
theorem dX1_keep_9 : decode cX1_keep 9 = .ok (.iconst 0, 1) := by decide +kernel
theorem dX1_keep_10 : decode cX1_keep 10 = .ok (.bipush 71, 2) := by decide +kernel
theorem dX1_keep_12 : decode cX1_keep 12 = .ok (.invokestatic 39, 3) := by decide +kernel
theorem dX1_keep_15 : decode cX1_keep 15 = .ok (.return_, 1) := by decide +kernel
theorem dX1_bringBack_0 : decode cX1_bringBack 0 = .ok (.aload_n 0, 1) := by decide +kernel
theorem dX1_bringBack_1 : decode cX1_bringBack 1 = .ok (.getfield 22, 3) := by decide +kernel
theorem dX1_bringBack_4 : decode cX1_bringBack 4 = .ok (.iconst 0, 1) := by decide +kernel
theorem dX1_bringBack_5 : decode cX1_bringBack 5 = .ok (.aload_n 0, 1) := by decide +kernel
theorem dX1_bringBack_6 : decode cX1_bringBack 6 = .ok (.getfield 19, 3) := by decide +kernel
theorem dX1_bringBack_9 : decode cX1_bringBack 9 = .ok (.iconst 0, 1) := by decide +kernel
theorem dX1_bringBack_10 : decode cX1_bringBack 10 = .ok (.bipush 71, 2) := by decide +kernel
theorem dX1_bringBack_12 : decode cX1_bringBack 12 = .ok (.invokestatic 39, 3) := by decide +kernel
theorem dX1_bringBack_15 : decode cX1_bringBack 15 = .ok (.return_, 1) := by decide +kernel
theorem dX1_at_0 : decode cX1_at 0 = .ok (.bipush 23, 2) := by decide +kernel
theorem dX1_at_2 : decode cX1_at 2 = .ok (.bipush 8, 2) := by decide +kernel
theorem dX1_at_4 : decode cX1_at 4 = .ok (.iload_n 0, 1) := by decide +kernel
theorem dX1_at_5 : decode cX1_at 5 = .ok (.imul, 1) := by decide +kernel
theorem dX1_at_6 : decode cX1_at 6 = .ok (.iadd, 1) := by decide +kernel
theorem dX1_at_7 : decode cX1_at 7 = .ok (.iload_n 1, 1) := by decide +kernel
theorem dX1_at_8 : decode cX1_at 8 = .ok (.iadd, 1) := by decide +kernel
theorem dX1_at_9 : decode cX1_at 9 = .ok (.ireturn, 1) := by decide +kernel
theorem dX1_doves_0 : decode cX1_doves 0 = .ok (.iconst 0, 1) := by decide +kernel
theorem dX1_doves_1 : decode cX1_doves 1 = .ok (.istore_n 2, 1) := by decide +kernel
theorem dX1_doves_2 : decode cX1_doves 2 = .ok (.iconst 0, 1) := by decide +kernel
theorem dX1_doves_3 : decode cX1_doves 3 = .ok (.istore_n 3, 1) := by decide +kernel
theorem dX1_doves_4 : decode cX1_doves 4 = .ok (.iload_n 3, 1) := by decide +kernel
theorem dX1_doves_5 : decode cX1_doves 5 = .ok (.aload_n 0, 1) := by decide +kernel
theorem dX1_doves_6 : decode cX1_doves 6 = .ok (.getfield 36, 3) := by decide +kernel
theorem dX1_doves_9 : decode cX1_doves 9 = .ok (.if_icmp .ge 27, 3) := by decide +kernel
theorem dX1_doves_12 : decode cX1_doves 12 = .ok (.iload_n 2, 1) := by decide +kernel
theorem dX1_doves_13 : decode cX1_doves 13 = .ok (.iconst 0, 1) := by decide +kernel
theorem dX1_doves_14 : decode cX1_doves 14 = .ok (.aload_n 0, 1) := by decide +kernel
theorem dX1_doves_15 : decode cX1_doves 15 = .ok (.getfield 19, 3) := by decide +kernel
theorem dX1_doves_18 : decode cX1_doves 18 = .ok (.iload_n 3, 1) := by decide +kernel
theorem dX1_doves_19 : decode cX1_doves 19 = .ok (.iload_n 1, 1) := by decide +kernel
theorem dX1_doves_20 : decode cX1_doves 20 = .ok (.invokestatic 45, 3) := by decide +kernel
theorem dX1_doves_23 : decode cX1_doves 23 = .ok (.iaload, 1) := by decide +kernel
theorem dX1_doves_24 : decode cX1_doves 24 = .ok (.ineg, 1) := by decide +kernel
theorem dX1_doves_25 : decode cX1_doves 25 = .ok (.invokestatic 49, 3) := by decide +kernel
theorem dX1_doves_28 : decode cX1_doves 28 = .ok (.iadd, 1) := by decide +kernel
theorem dX1_doves_29 : decode cX1_doves 29 = .ok (.istore_n 2, 1) := by decide +kernel
theorem dX1_doves_30 : decode cX1_doves 30 = .ok (.iinc 3 1, 3) := by decide +kernel
theorem dX1_doves_33 : decode cX1_doves 33 = .ok (.goto (-29), 3) := by decide +kernel
theorem dX1_doves_36 : decode cX1_doves 36 = .ok (.iload_n 2, 1) := by decide +kernel
theorem dX1_doves_37 : decode cX1_doves 37 = .ok (.ireturn, 1) := by decide +kernel
theorem dX1_priceBehind_0 : decode cX1_priceBehind 0 = .ok (.iconst 0, 1) := by decide +kernel
theorem dX1_priceBehind_1 : decode cX1_priceBehind 1 = .ok (.aload_n 0, 1) := by decide +kernel
theorem dX1_priceBehind_2 : decode cX1_priceBehind 2 = .ok (.getfield 19, 3) := by decide +kernel
theorem dX1_priceBehind_5 : decode cX1_priceBehind 5 = .ok (.iconst 1, 1) := by decide +kernel
theorem dX1_priceBehind_6 : decode cX1_priceBehind 6 = .ok (.iload_n 1, 1) := by decide +kernel
theorem dX1_priceBehind_7 : decode cX1_priceBehind 7 = .ok (.iadd, 1) := by decide +kernel
theorem dX1_priceBehind_8 : decode cX1_priceBehind 8 = .ok (.iaload, 1) := by decide +kernel
theorem dX1_priceBehind_9 : decode cX1_priceBehind 9 = .ok (.iload_n 2, 1) := by decide +kernel
theorem dX1_priceBehind_10 : decode cX1_priceBehind 10 = .ok (.iadd, 1) := by decide +kernel
theorem dX1_priceBehind_11 : decode cX1_priceBehind 11 = .ok (.aload_n 0, 1) := by decide +kernel
theorem dX1_priceBehind_12 : decode cX1_priceBehind 12 = .ok (.getfield 9, 3) := by decide +kernel
theorem dX1_priceBehind_15 : decode cX1_priceBehind 15 = .ok (.iload_n 1, 1) := by decide +kernel
theorem dX1_priceBehind_16 : decode cX1_priceBehind 16 = .ok (.iaload, 1) := by decide +kernel
theorem dX1_priceBehind_17 : decode cX1_priceBehind 17 = .ok (.imul, 1) := by decide +kernel
theorem dX1_priceBehind_18 : decode cX1_priceBehind 18 = .ok (.iconst 2, 1) := by decide +kernel
theorem dX1_priceBehind_19 : decode cX1_priceBehind 19 = .ok (.aload_n 0, 1) := by decide +kernel
theorem dX1_priceBehind_20 : decode cX1_priceBehind 20 = .ok (.iload_n 1, 1) := by decide +kernel
theorem dX1_priceBehind_21 : decode cX1_priceBehind 21 = .ok (.invokevirtual 54, 3) := by decide +kernel
theorem dX1_priceBehind_24 : decode cX1_priceBehind 24 = .ok (.imul, 1) := by decide +kernel
theorem dX1_priceBehind_25 : decode cX1_priceBehind 25 = .ok (.isub, 1) := by decide +kernel
theorem dX1_priceBehind_26 : decode cX1_priceBehind 26 = .ok (.invokestatic 49, 3) := by decide +kernel
theorem dX1_priceBehind_29 : decode cX1_priceBehind 29 = .ok (.ireturn, 1) := by decide +kernel
theorem dX1_price_0 : decode cX1_price 0 = .ok (.aload_n 0, 1) := by decide +kernel
theorem dX1_price_1 : decode cX1_price 1 = .ok (.iload_n 1, 1) := by decide +kernel
theorem dX1_price_2 : decode cX1_price 2 = .ok (.iconst 0, 1) := by decide +kernel
theorem dX1_price_3 : decode cX1_price 3 = .ok (.invokevirtual 58, 3) := by decide +kernel
theorem dX1_price_6 : decode cX1_price 6 = .ok (.ireturn, 1) := by decide +kernel
theorem dX1_until_0 : decode cX1_until 0 = .ok (.iconst 1, 1) := by decide +kernel
theorem dX1_until_1 : decode cX1_until 1 = .ok (.istore_n 2, 1) := by decide +kernel
theorem dX1_until_2 : decode cX1_until 2 = .ok (.aload_n 0, 1) := by decide +kernel
theorem dX1_until_3 : decode cX1_until 3 = .ok (.getfield 19, 3) := by decide +kernel
theorem dX1_until_6 : decode cX1_until 6 = .ok (.iconst 0, 1) := by decide +kernel
theorem dX1_until_7 : decode cX1_until 7 = .ok (.iaload, 1) := by decide +kernel
theorem dX1_until_8 : decode cX1_until 8 = .ok (.iload_n 2, 1) := by decide +kernel
theorem dX1_until_9 : decode cX1_until 9 = .ok (.iadd, 1) := by decide +kernel
theorem dX1_until_10 : decode cX1_until 10 = .ok (.aload_n 0, 1) := by decide +kernel
theorem dX1_until_11 : decode cX1_until 11 = .ok (.getfield 13, 3) := by decide +kernel
theorem dX1_until_14 : decode cX1_until 14 = .ok (.iload_n 1, 1) := by decide +kernel
theorem dX1_until_15 : decode cX1_until 15 = .ok (.iaload, 1) := by decide +kernel
theorem dX1_until_16 : decode cX1_until 16 = .ok (.irem, 1) := by decide +kernel
theorem dX1_until_17 : decode cX1_until 17 = .ok (.aload_n 0, 1) := by decide +kernel
theorem dX1_until_18 : decode cX1_until 18 = .ok (.getfield 16, 3) := by decide +kernel
theorem dX1_until_21 : decode cX1_until 21 = .ok (.iload_n 1, 1) := by decide +kernel
theorem dX1_until_22 : decode cX1_until 22 = .ok (.iaload, 1) := by decide +kernel
theorem dX1_until_23 : decode cX1_until 23 = .ok (.if_icmp .eq 9, 3) := by decide +kernel
theorem dX1_until_26 : decode cX1_until 26 = .ok (.iinc 2 1, 3) := by decide +kernel
theorem dX1_until_29 : decode cX1_until 29 = .ok (.goto (-27), 3) := by decide +kernel
theorem dX1_until_32 : decode cX1_until 32 = .ok (.iload_n 2, 1) := by decide +kernel
theorem dX1_until_33 : decode cX1_until 33 = .ok (.ireturn, 1) := by decide +kernel
theorem dX1_secondOn_0 : decode cX1_secondOn 0 = .ok (.iconst 0, 1) := by decide +kernel
theorem dX1_secondOn_1 : decode cX1_secondOn 1 = .ok (.istore_n 1, 1) := by decide +kernel
theorem dX1_secondOn_2 : decode cX1_secondOn 2 = .ok (.aload_n 0, 1) := by decide +kernel
theorem dX1_secondOn_3 : decode cX1_secondOn 3 = .ok (.getfield 19, 3) := by decide +kernel
theorem dX1_secondOn_6 : decode cX1_secondOn 6 = .ok (.iconst 0, 1) := by decide +kernel
theorem dX1_secondOn_7 : decode cX1_secondOn 7 = .ok (.dup2, 1) := by decide +kernel
theorem dX1_secondOn_8 : decode cX1_secondOn 8 = .ok (.iaload, 1) := by decide +kernel
theorem dX1_secondOn_9 : decode cX1_secondOn 9 = .ok (.iconst 1, 1) := by decide +kernel
theorem dX1_secondOn_10 : decode cX1_secondOn 10 = .ok (.iadd, 1) := by decide +kernel
theorem dX1_secondOn_11 : decode cX1_secondOn 11 = .ok (.iastore, 1) := by decide +kernel
theorem dX1_secondOn_12 : decode cX1_secondOn 12 = .ok (.iconst 0, 1) := by decide +kernel
theorem dX1_secondOn_13 : decode cX1_secondOn 13 = .ok (.istore_n 2, 1) := by decide +kernel
theorem dX1_secondOn_14 : decode cX1_secondOn 14 = .ok (.iload_n 2, 1) := by decide +kernel
theorem dX1_secondOn_15 : decode cX1_secondOn 15 = .ok (.aload_n 0, 1) := by decide +kernel
theorem dX1_secondOn_16 : decode cX1_secondOn 16 = .ok (.getfield 29, 3) := by decide +kernel
theorem dX1_secondOn_19 : decode cX1_secondOn 19 = .ok (.if_icmp .ge 133, 3) := by decide +kernel
theorem dX1_secondOn_22 : decode cX1_secondOn 22 = .ok (.aload_n 0, 1) := by decide +kernel
theorem dX1_secondOn_23 : decode cX1_secondOn 23 = .ok (.getfield 19, 3) := by decide +kernel
theorem dX1_secondOn_26 : decode cX1_secondOn 26 = .ok (.iconst 0, 1) := by decide +kernel
theorem dX1_secondOn_27 : decode cX1_secondOn 27 = .ok (.iaload, 1) := by decide +kernel
theorem dX1_secondOn_28 : decode cX1_secondOn 28 = .ok (.aload_n 0, 1) := by decide +kernel
theorem dX1_secondOn_29 : decode cX1_secondOn 29 = .ok (.getfield 13, 3) := by decide +kernel
theorem dX1_secondOn_32 : decode cX1_secondOn 32 = .ok (.iload_n 2, 1) := by decide +kernel
theorem dX1_secondOn_33 : decode cX1_secondOn 33 = .ok (.iaload, 1) := by decide +kernel
theorem dX1_secondOn_34 : decode cX1_secondOn 34 = .ok (.irem, 1) := by decide +kernel
theorem dX1_secondOn_35 : decode cX1_secondOn 35 = .ok (.aload_n 0, 1) := by decide +kernel
theorem dX1_secondOn_36 : decode cX1_secondOn 36 = .ok (.getfield 16, 3) := by decide +kernel
theorem dX1_secondOn_39 : decode cX1_secondOn 39 = .ok (.iload_n 2, 1) := by decide +kernel
theorem dX1_secondOn_40 : decode cX1_secondOn 40 = .ok (.iaload, 1) := by decide +kernel
theorem dX1_secondOn_41 : decode cX1_secondOn 41 = .ok (.if_icmp .eq 18, 3) := by decide +kernel
theorem dX1_secondOn_44 : decode cX1_secondOn 44 = .ok (.aload_n 0, 1) := by decide +kernel
theorem dX1_secondOn_45 : decode cX1_secondOn 45 = .ok (.getfield 19, 3) := by decide +kernel
theorem dX1_secondOn_48 : decode cX1_secondOn 48 = .ok (.iconst 1, 1) := by decide +kernel
theorem dX1_secondOn_49 : decode cX1_secondOn 49 = .ok (.iload_n 2, 1) := by decide +kernel
theorem dX1_secondOn_50 : decode cX1_secondOn 50 = .ok (.iadd, 1) := by decide +kernel
theorem dX1_secondOn_51 : decode cX1_secondOn 51 = .ok (.dup2, 1) := by decide +kernel
theorem dX1_secondOn_52 : decode cX1_secondOn 52 = .ok (.iaload, 1) := by decide +kernel
theorem dX1_secondOn_53 : decode cX1_secondOn 53 = .ok (.iconst 1, 1) := by decide +kernel
theorem dX1_secondOn_54 : decode cX1_secondOn 54 = .ok (.iadd, 1) := by decide +kernel
theorem dX1_secondOn_55 : decode cX1_secondOn 55 = .ok (.iastore, 1) := by decide +kernel
theorem dX1_secondOn_56 : decode cX1_secondOn 56 = .ok (.goto 90, 3) := by decide +kernel
theorem dX1_secondOn_59 : decode cX1_secondOn 59 = .ok (.aload_n 0, 1) := by decide +kernel
theorem dX1_secondOn_60 : decode cX1_secondOn 60 = .ok (.iload_n 2, 1) := by decide +kernel
theorem dX1_secondOn_61 : decode cX1_secondOn 61 = .ok (.invokevirtual 61, 3) := by decide +kernel
theorem dX1_secondOn_64 : decode cX1_secondOn 64 = .ok (.istore_n 3, 1) := by decide +kernel
theorem dX1_secondOn_65 : decode cX1_secondOn 65 = .ok (.iconst 0, 1) := by decide +kernel
theorem dX1_secondOn_66 : decode cX1_secondOn 66 = .ok (.istore 4, 2) := by decide +kernel
theorem dX1_secondOn_68 : decode cX1_secondOn 68 = .ok (.iload 4, 2) := by decide +kernel
theorem dX1_secondOn_70 : decode cX1_secondOn 70 = .ok (.aload_n 0, 1) := by decide +kernel
theorem dX1_secondOn_71 : decode cX1_secondOn 71 = .ok (.getfield 36, 3) := by decide +kernel
theorem dX1_secondOn_74 : decode cX1_secondOn 74 = .ok (.if_icmp .ge 47, 3) := by decide +kernel
theorem dX1_secondOn_77 : decode cX1_secondOn 77 = .ok (.aload_n 0, 1) := by decide +kernel
theorem dX1_secondOn_78 : decode cX1_secondOn 78 = .ok (.getfield 19, 3) := by decide +kernel
theorem dX1_secondOn_81 : decode cX1_secondOn 81 = .ok (.bipush 17, 2) := by decide +kernel
theorem dX1_secondOn_83 : decode cX1_secondOn 83 = .ok (.iload 4, 2) := by decide +kernel
theorem dX1_secondOn_85 : decode cX1_secondOn 85 = .ok (.iadd, 1) := by decide +kernel
theorem dX1_secondOn_86 : decode cX1_secondOn 86 = .ok (.dup2, 1) := by decide +kernel
theorem dX1_secondOn_87 : decode cX1_secondOn 87 = .ok (.iaload, 1) := by decide +kernel
theorem dX1_secondOn_88 : decode cX1_secondOn 88 = .ok (.iload_n 3, 1) := by decide +kernel
theorem dX1_secondOn_89 : decode cX1_secondOn 89 = .ok (.aload_n 0, 1) := by decide +kernel
theorem dX1_secondOn_90 : decode cX1_secondOn 90 = .ok (.getfield 19, 3) := by decide +kernel
theorem dX1_secondOn_93 : decode cX1_secondOn 93 = .ok (.iload 4, 2) := by decide +kernel
theorem dX1_secondOn_95 : decode cX1_secondOn 95 = .ok (.iload_n 2, 1) := by decide +kernel
theorem dX1_secondOn_96 : decode cX1_secondOn 96 = .ok (.invokestatic 45, 3) := by decide +kernel
theorem dX1_secondOn_99 : decode cX1_secondOn 99 = .ok (.iaload, 1) := by decide +kernel
theorem dX1_secondOn_100 : decode cX1_secondOn 100 = .ok (.imul, 1) := by decide +kernel
theorem dX1_secondOn_101 : decode cX1_secondOn 101 = .ok (.iadd, 1) := by decide +kernel
theorem dX1_secondOn_102 : decode cX1_secondOn 102 = .ok (.iastore, 1) := by decide +kernel
theorem dX1_secondOn_103 : decode cX1_secondOn 103 = .ok (.aload_n 0, 1) := by decide +kernel
theorem dX1_secondOn_104 : decode cX1_secondOn 104 = .ok (.getfield 19, 3) := by decide +kernel
theorem dX1_secondOn_107 : decode cX1_secondOn 107 = .ok (.iload 4, 2) := by decide +kernel
theorem dX1_secondOn_109 : decode cX1_secondOn 109 = .ok (.iload_n 2, 1) := by decide +kernel
theorem dX1_secondOn_110 : decode cX1_secondOn 110 = .ok (.invokestatic 45, 3) := by decide +kernel
theorem dX1_secondOn_113 : decode cX1_secondOn 113 = .ok (.iconst 0, 1) := by decide +kernel
theorem dX1_secondOn_114 : decode cX1_secondOn 114 = .ok (.iastore, 1) := by decide +kernel
theorem dX1_secondOn_115 : decode cX1_secondOn 115 = .ok (.iinc 4 1, 3) := by decide +kernel
theorem dX1_secondOn_118 : decode cX1_secondOn 118 = .ok (.goto (-50), 3) := by decide +kernel
theorem dX1_secondOn_121 : decode cX1_secondOn 121 = .ok (.aload_n 0, 1) := by decide +kernel
theorem dX1_secondOn_122 : decode cX1_secondOn 122 = .ok (.getfield 19, 3) := by decide +kernel
theorem dX1_secondOn_125 : decode cX1_secondOn 125 = .ok (.iconst 1, 1) := by decide +kernel
theorem dX1_secondOn_126 : decode cX1_secondOn 126 = .ok (.iload_n 2, 1) := by decide +kernel
theorem dX1_secondOn_127 : decode cX1_secondOn 127 = .ok (.iadd, 1) := by decide +kernel
theorem dX1_secondOn_128 : decode cX1_secondOn 128 = .ok (.iconst 0, 1) := by decide +kernel
theorem dX1_secondOn_129 : decode cX1_secondOn 129 = .ok (.iastore, 1) := by decide +kernel
theorem dX1_secondOn_130 : decode cX1_secondOn 130 = .ok (.aload_n 0, 1) := by decide +kernel
theorem dX1_secondOn_131 : decode cX1_secondOn 131 = .ok (.getfield 19, 3) := by decide +kernel
theorem dX1_secondOn_134 : decode cX1_secondOn 134 = .ok (.bipush 9, 2) := by decide +kernel
theorem dX1_secondOn_136 : decode cX1_secondOn 136 = .ok (.iload_n 2, 1) := by decide +kernel
theorem dX1_secondOn_137 : decode cX1_secondOn 137 = .ok (.iadd, 1) := by decide +kernel
theorem dX1_secondOn_138 : decode cX1_secondOn 138 = .ok (.dup2, 1) := by decide +kernel
theorem dX1_secondOn_139 : decode cX1_secondOn 139 = .ok (.iaload, 1) := by decide +kernel
theorem dX1_secondOn_140 : decode cX1_secondOn 140 = .ok (.iconst 1, 1) := by decide +kernel
theorem dX1_secondOn_141 : decode cX1_secondOn 141 = .ok (.iadd, 1) := by decide +kernel
theorem dX1_secondOn_142 : decode cX1_secondOn 142 = .ok (.iastore, 1) := by decide +kernel
theorem dX1_secondOn_143 : decode cX1_secondOn 143 = .ok (.iinc 1 1, 3) := by decide +kernel
theorem dX1_secondOn_146 : decode cX1_secondOn 146 = .ok (.iinc 2 1, 3) := by decide +kernel
theorem dX1_secondOn_149 : decode cX1_secondOn 149 = .ok (.goto (-135), 3) := by decide +kernel
theorem dX1_secondOn_152 : decode cX1_secondOn 152 = .ok (.iload_n 1, 1) := by decide +kernel
theorem dX1_secondOn_153 : decode cX1_secondOn 153 = .ok (.ireturn, 1) := by decide +kernel
theorem dX1_secondsOn_0 : decode cX1_secondsOn 0 = .ok (.iconst 0, 1) := by decide +kernel
theorem dX1_secondsOn_1 : decode cX1_secondsOn 1 = .ok (.istore_n 2, 1) := by decide +kernel
theorem dX1_secondsOn_2 : decode cX1_secondsOn 2 = .ok (.iconst 0, 1) := by decide +kernel
theorem dX1_secondsOn_3 : decode cX1_secondsOn 3 = .ok (.istore_n 3, 1) := by decide +kernel
theorem dX1_secondsOn_4 : decode cX1_secondsOn 4 = .ok (.iload_n 3, 1) := by decide +kernel
theorem dX1_secondsOn_5 : decode cX1_secondsOn 5 = .ok (.iload_n 1, 1) := by decide +kernel
theorem dX1_secondsOn_6 : decode cX1_secondsOn 6 = .ok (.if_icmp .ge 16, 3) := by decide +kernel
theorem dX1_secondsOn_9 : decode cX1_secondsOn 9 = .ok (.iload_n 2, 1) := by decide +kernel
theorem dX1_secondsOn_10 : decode cX1_secondsOn 10 = .ok (.aload_n 0, 1) := by decide +kernel
theorem dX1_secondsOn_11 : decode cX1_secondsOn 11 = .ok (.invokevirtual 64, 3) := by decide +kernel
theorem dX1_secondsOn_14 : decode cX1_secondsOn 14 = .ok (.iadd, 1) := by decide +kernel
theorem dX1_secondsOn_15 : decode cX1_secondsOn 15 = .ok (.istore_n 2, 1) := by decide +kernel
theorem dX1_secondsOn_16 : decode cX1_secondsOn 16 = .ok (.iinc 3 1, 3) := by decide +kernel
theorem dX1_secondsOn_19 : decode cX1_secondsOn 19 = .ok (.goto (-15), 3) := by decide +kernel
theorem dX1_secondsOn_22 : decode cX1_secondsOn 22 = .ok (.iload_n 2, 1) := by decide +kernel
theorem dX1_secondsOn_23 : decode cX1_secondsOn 23 = .ok (.ireturn, 1) := by decide +kernel
theorem dX1_list_0 : decode cX1_list 0 = .ok (.aload_n 0, 1) := by decide +kernel
theorem dX1_list_1 : decode cX1_list 1 = .ok (.iconst 0, 1) := by decide +kernel
theorem dX1_list_2 : decode cX1_list 2 = .ok (.putfield 25, 3) := by decide +kernel
theorem dX1_list_5 : decode cX1_list 5 = .ok (.iload_n 1, 1) := by decide +kernel
theorem dX1_list_6 : decode cX1_list 6 = .ok (.iconst 1, 1) := by decide +kernel
theorem dX1_list_7 : decode cX1_list 7 = .ok (.bipush 9, 2) := by decide +kernel
theorem dX1_list_9 : decode cX1_list 9 = .ok (.invokestatic 32, 3) := by decide +kernel
theorem dX1_list_12 : decode cX1_list 12 = .ok (.ifCond .eq 24, 3) := by decide +kernel
theorem dX1_list_15 : decode cX1_list 15 = .ok (.iload_n 2, 1) := by decide +kernel
theorem dX1_list_16 : decode cX1_list 16 = .ok (.iconst 2, 1) := by decide +kernel
theorem dX1_list_17 : decode cX1_list 17 = .ok (.bipush 20, 2) := by decide +kernel
theorem dX1_list_19 : decode cX1_list 19 = .ok (.invokestatic 32, 3) := by decide +kernel
theorem dX1_list_22 : decode cX1_list 22 = .ok (.ifCond .eq 14, 3) := by decide +kernel
theorem dX1_list_25 : decode cX1_list 25 = .ok (.iload_n 3, 1) := by decide +kernel
theorem dX1_list_26 : decode cX1_list 26 = .ok (.iconst 0, 1) := by decide +kernel
theorem dX1_list_27 : decode cX1_list 27 = .ok (.iload_n 2, 1) := by decide +kernel
theorem dX1_list_28 : decode cX1_list 28 = .ok (.iconst 1, 1) := by decide +kernel
theorem dX1_list_29 : decode cX1_list 29 = .ok (.isub, 1) := by decide +kernel
theorem dX1_list_30 : decode cX1_list 30 = .ok (.invokestatic 32, 3) := by decide +kernel
theorem dX1_list_33 : decode cX1_list 33 = .ok (.ifCond .ne 9, 3) := by decide +kernel
theorem dX1_list_36 : decode cX1_list 36 = .ok (.aload_n 0, 1) := by decide +kernel
theorem dX1_list_37 : decode cX1_list 37 = .ok (.iconst 1, 1) := by decide +kernel
theorem dX1_list_38 : decode cX1_list 38 = .ok (.invokevirtual 68, 3) := by decide +kernel
theorem dX1_list_41 : decode cX1_list 41 = .ok (.ireturn, 1) := by decide +kernel
theorem dX1_list_42 : decode cX1_list 42 = .ok (.aload_n 0, 1) := by decide +kernel
theorem dX1_list_43 : decode cX1_list 43 = .ok (.getfield 29, 3) := by decide +kernel
theorem dX1_list_46 : decode cX1_list 46 = .ok (.bipush 8, 2) := by decide +kernel
theorem dX1_list_48 : decode cX1_list 48 = .ok (.if_icmp .ne 9, 3) := by decide +kernel
theorem dX1_list_51 : decode cX1_list 51 = .ok (.aload_n 0, 1) := by decide +kernel
theorem dX1_list_52 : decode cX1_list 52 = .ok (.iconst 2, 1) := by decide +kernel
theorem dX1_list_53 : decode cX1_list 53 = .ok (.invokevirtual 68, 3) := by decide +kernel
theorem dX1_list_56 : decode cX1_list 56 = .ok (.ireturn, 1) := by decide +kernel
theorem dX1_list_57 : decode cX1_list 57 = .ok (.aload_n 0, 1) := by decide +kernel
theorem dX1_list_58 : decode cX1_list 58 = .ok (.getfield 9, 3) := by decide +kernel
theorem dX1_list_61 : decode cX1_list 61 = .ok (.aload_n 0, 1) := by decide +kernel
theorem dX1_list_62 : decode cX1_list 62 = .ok (.getfield 29, 3) := by decide +kernel
theorem dX1_list_65 : decode cX1_list 65 = .ok (.iload_n 1, 1) := by decide +kernel
theorem dX1_list_66 : decode cX1_list 66 = .ok (.iastore, 1) := by decide +kernel
theorem dX1_list_67 : decode cX1_list 67 = .ok (.aload_n 0, 1) := by decide +kernel
theorem dX1_list_68 : decode cX1_list 68 = .ok (.getfield 13, 3) := by decide +kernel
theorem dX1_list_71 : decode cX1_list 71 = .ok (.aload_n 0, 1) := by decide +kernel
theorem dX1_list_72 : decode cX1_list 72 = .ok (.getfield 29, 3) := by decide +kernel
theorem dX1_list_75 : decode cX1_list 75 = .ok (.iload_n 2, 1) := by decide +kernel
theorem dX1_list_76 : decode cX1_list 76 = .ok (.iastore, 1) := by decide +kernel
theorem dX1_list_77 : decode cX1_list 77 = .ok (.aload_n 0, 1) := by decide +kernel
theorem dX1_list_78 : decode cX1_list 78 = .ok (.getfield 16, 3) := by decide +kernel
theorem dX1_list_81 : decode cX1_list 81 = .ok (.aload_n 0, 1) := by decide +kernel
theorem dX1_list_82 : decode cX1_list 82 = .ok (.getfield 29, 3) := by decide +kernel
theorem dX1_list_85 : decode cX1_list 85 = .ok (.iload_n 3, 1) := by decide +kernel
theorem dX1_list_86 : decode cX1_list 86 = .ok (.iastore, 1) := by decide +kernel
theorem dX1_list_87 : decode cX1_list 87 = .ok (.aload_n 0, 1) := by decide +kernel
theorem dX1_list_88 : decode cX1_list 88 = .ok (.dup, 1) := by decide +kernel
theorem dX1_list_89 : decode cX1_list 89 = .ok (.getfield 29, 3) := by decide +kernel
theorem dX1_list_92 : decode cX1_list 92 = .ok (.iconst 1, 1) := by decide +kernel
theorem dX1_list_93 : decode cX1_list 93 = .ok (.iadd, 1) := by decide +kernel
theorem dX1_list_94 : decode cX1_list 94 = .ok (.putfield 29, 3) := by decide +kernel
theorem dX1_list_97 : decode cX1_list 97 = .ok (.aload_n 0, 1) := by decide +kernel
theorem dX1_list_98 : decode cX1_list 98 = .ok (.getfield 29, 3) := by decide +kernel
theorem dX1_list_101 : decode cX1_list 101 = .ok (.iconst 1, 1) := by decide +kernel
theorem dX1_list_102 : decode cX1_list 102 = .ok (.isub, 1) := by decide +kernel
theorem dX1_list_103 : decode cX1_list 103 = .ok (.ireturn, 1) := by decide +kernel
theorem dX1_addTrader_0 : decode cX1_addTrader 0 = .ok (.aload_n 0, 1) := by decide +kernel
theorem dX1_addTrader_1 : decode cX1_addTrader 1 = .ok (.iconst 0, 1) := by decide +kernel
theorem dX1_addTrader_2 : decode cX1_addTrader 2 = .ok (.putfield 25, 3) := by decide +kernel
theorem dX1_addTrader_5 : decode cX1_addTrader 5 = .ok (.aload_n 0, 1) := by decide +kernel
theorem dX1_addTrader_6 : decode cX1_addTrader 6 = .ok (.getfield 36, 3) := by decide +kernel
theorem dX1_addTrader_9 : decode cX1_addTrader 9 = .ok (.bipush 6, 2) := by decide +kernel
theorem dX1_addTrader_11 : decode cX1_addTrader 11 = .ok (.if_icmp .ne 9, 3) := by decide +kernel
theorem dX1_addTrader_14 : decode cX1_addTrader 14 = .ok (.aload_n 0, 1) := by decide +kernel
theorem dX1_addTrader_15 : decode cX1_addTrader 15 = .ok (.iconst 1, 1) := by decide +kernel
theorem dX1_addTrader_16 : decode cX1_addTrader 16 = .ok (.invokevirtual 68, 3) := by decide +kernel
theorem dX1_addTrader_19 : decode cX1_addTrader 19 = .ok (.ireturn, 1) := by decide +kernel
theorem dX1_addTrader_20 : decode cX1_addTrader 20 = .ok (.aload_n 0, 1) := by decide +kernel
theorem dX1_addTrader_21 : decode cX1_addTrader 21 = .ok (.getfield 19, 3) := by decide +kernel
theorem dX1_addTrader_24 : decode cX1_addTrader 24 = .ok (.bipush 17, 2) := by decide +kernel
theorem dX1_addTrader_26 : decode cX1_addTrader 26 = .ok (.aload_n 0, 1) := by decide +kernel
theorem dX1_addTrader_27 : decode cX1_addTrader 27 = .ok (.getfield 36, 3) := by decide +kernel
theorem dX1_addTrader_30 : decode cX1_addTrader 30 = .ok (.iadd, 1) := by decide +kernel
theorem dX1_addTrader_31 : decode cX1_addTrader 31 = .ok (.bipush 100, 2) := by decide +kernel
theorem dX1_addTrader_33 : decode cX1_addTrader 33 = .ok (.iastore, 1) := by decide +kernel
theorem dX1_addTrader_34 : decode cX1_addTrader 34 = .ok (.aload_n 0, 1) := by decide +kernel
theorem dX1_addTrader_35 : decode cX1_addTrader 35 = .ok (.dup, 1) := by decide +kernel
theorem dX1_addTrader_36 : decode cX1_addTrader 36 = .ok (.getfield 36, 3) := by decide +kernel
theorem dX1_addTrader_39 : decode cX1_addTrader 39 = .ok (.iconst 1, 1) := by decide +kernel
theorem dX1_addTrader_40 : decode cX1_addTrader 40 = .ok (.iadd, 1) := by decide +kernel
theorem dX1_addTrader_41 : decode cX1_addTrader 41 = .ok (.putfield 36, 3) := by decide +kernel
theorem dX1_addTrader_44 : decode cX1_addTrader 44 = .ok (.aload_n 0, 1) := by decide +kernel
theorem dX1_addTrader_45 : decode cX1_addTrader 45 = .ok (.getfield 36, 3) := by decide +kernel
theorem dX1_addTrader_48 : decode cX1_addTrader 48 = .ok (.iconst 1, 1) := by decide +kernel
theorem dX1_addTrader_49 : decode cX1_addTrader 49 = .ok (.isub, 1) := by decide +kernel
theorem dX1_addTrader_50 : decode cX1_addTrader 50 = .ok (.ireturn, 1) := by decide +kernel
theorem dX1_can_0 : decode cX1_can 0 = .ok (.aload_n 0, 1) := by decide +kernel
theorem dX1_can_1 : decode cX1_can 1 = .ok (.aload_n 0, 1) := by decide +kernel
theorem dX1_can_2 : decode cX1_can 2 = .ok (.iload_n 1, 1) := by decide +kernel
theorem dX1_can_3 : decode cX1_can 3 = .ok (.invokevirtual 71, 3) := by decide +kernel
theorem dX1_can_6 : decode cX1_can 6 = .ok (.ifCond .eq 11, 3) := by decide +kernel
theorem dX1_can_9 : decode cX1_can 9 = .ok (.aload_n 0, 1) := by decide +kernel
theorem dX1_can_10 : decode cX1_can 10 = .ok (.iload_n 2, 1) := by decide +kernel
theorem dX1_can_11 : decode cX1_can 11 = .ok (.invokevirtual 75, 3) := by decide +kernel
theorem dX1_can_14 : decode cX1_can 14 = .ok (.ifCond .ne 7, 3) := by decide +kernel
theorem dX1_can_17 : decode cX1_can 17 = .ok (.iconst 1, 1) := by decide +kernel
theorem dX1_can_18 : decode cX1_can 18 = .ok (.goto 18, 3) := by decide +kernel
theorem dX1_can_21 : decode cX1_can 21 = .ok (.iload_n 3, 1) := by decide +kernel
theorem dX1_can_22 : decode cX1_can 22 = .ok (.iconst 1, 1) := by decide +kernel
theorem dX1_can_23 : decode cX1_can 23 = .ok (.bipush 9, 2) := by decide +kernel
theorem dX1_can_25 : decode cX1_can 25 = .ok (.invokestatic 32, 3) := by decide +kernel
theorem dX1_can_28 : decode cX1_can 28 = .ok (.ifCond .eq 7, 3) := by decide +kernel
theorem dX1_can_31 : decode cX1_can 31 = .ok (.iconst 0, 1) := by decide +kernel
theorem dX1_can_32 : decode cX1_can 32 = .ok (.goto 4, 3) := by decide +kernel
theorem dX1_can_35 : decode cX1_can 35 = .ok (.iconst 2, 1) := by decide +kernel
theorem dX1_can_36 : decode cX1_can 36 = .ok (.putfield 25, 3) := by decide +kernel
theorem dX1_can_39 : decode cX1_can 39 = .ok (.aload_n 0, 1) := by decide +kernel
theorem dX1_can_40 : decode cX1_can 40 = .ok (.getfield 25, 3) := by decide +kernel
theorem dX1_can_43 : decode cX1_can 43 = .ok (.ifCond .ne 7, 3) := by decide +kernel
theorem dX1_can_46 : decode cX1_can 46 = .ok (.iconst 1, 1) := by decide +kernel
theorem dX1_can_47 : decode cX1_can 47 = .ok (.goto 4, 3) := by decide +kernel
theorem dX1_can_50 : decode cX1_can 50 = .ok (.iconst 0, 1) := by decide +kernel
theorem dX1_can_51 : decode cX1_can 51 = .ok (.ireturn, 1) := by decide +kernel
theorem dX1_buy_0 : decode cX1_buy 0 = .ok (.aload_n 0, 1) := by decide +kernel
theorem dX1_buy_1 : decode cX1_buy 1 = .ok (.iload_n 1, 1) := by decide +kernel
theorem dX1_buy_2 : decode cX1_buy 2 = .ok (.iload_n 2, 1) := by decide +kernel
theorem dX1_buy_3 : decode cX1_buy 3 = .ok (.iload_n 3, 1) := by decide +kernel
theorem dX1_buy_4 : decode cX1_buy 4 = .ok (.invokevirtual 78, 3) := by decide +kernel
theorem dX1_buy_7 : decode cX1_buy 7 = .ok (.ifCond .ne 5, 3) := by decide +kernel
theorem dX1_buy_10 : decode cX1_buy 10 = .ok (.iconst 0, 1) := by decide +kernel
theorem dX1_buy_11 : decode cX1_buy 11 = .ok (.ireturn, 1) := by decide +kernel
theorem dX1_buy_12 : decode cX1_buy 12 = .ok (.aload_n 0, 1) := by decide +kernel
theorem dX1_buy_13 : decode cX1_buy 13 = .ok (.iload_n 2, 1) := by decide +kernel
theorem dX1_buy_14 : decode cX1_buy 14 = .ok (.invokevirtual 61, 3) := by decide +kernel
theorem dX1_buy_17 : decode cX1_buy 17 = .ok (.iload_n 3, 1) := by decide +kernel
theorem dX1_buy_18 : decode cX1_buy 18 = .ok (.imul, 1) := by decide +kernel
theorem dX1_buy_19 : decode cX1_buy 19 = .ok (.istore 4, 2) := by decide +kernel
theorem dX1_buy_21 : decode cX1_buy 21 = .ok (.aload_n 0, 1) := by decide +kernel
theorem dX1_buy_22 : decode cX1_buy 22 = .ok (.getfield 19, 3) := by decide +kernel
theorem dX1_buy_25 : decode cX1_buy 25 = .ok (.iload_n 1, 1) := by decide +kernel
theorem dX1_buy_26 : decode cX1_buy 26 = .ok (.iload_n 2, 1) := by decide +kernel
theorem dX1_buy_27 : decode cX1_buy 27 = .ok (.invokestatic 45, 3) := by decide +kernel
theorem dX1_buy_30 : decode cX1_buy 30 = .ok (.iaload, 1) := by decide +kernel
theorem dX1_buy_31 : decode cX1_buy 31 = .ok (.iload_n 3, 1) := by decide +kernel
theorem dX1_buy_32 : decode cX1_buy 32 = .ok (.iadd, 1) := by decide +kernel
theorem dX1_buy_33 : decode cX1_buy 33 = .ok (.bipush 9, 2) := by decide +kernel
theorem dX1_buy_35 : decode cX1_buy 35 = .ok (.if_icmp .gt 17, 3) := by decide +kernel
theorem dX1_buy_38 : decode cX1_buy 38 = .ok (.aload_n 0, 1) := by decide +kernel
theorem dX1_buy_39 : decode cX1_buy 39 = .ok (.getfield 19, 3) := by decide +kernel
theorem dX1_buy_42 : decode cX1_buy 42 = .ok (.bipush 17, 2) := by decide +kernel
theorem dX1_buy_44 : decode cX1_buy 44 = .ok (.iload_n 1, 1) := by decide +kernel
theorem dX1_buy_45 : decode cX1_buy 45 = .ok (.iadd, 1) := by decide +kernel
theorem dX1_buy_46 : decode cX1_buy 46 = .ok (.iaload, 1) := by decide +kernel
theorem dX1_buy_47 : decode cX1_buy 47 = .ok (.iload 4, 2) := by decide +kernel
theorem dX1_buy_49 : decode cX1_buy 49 = .ok (.if_icmp .ge 9, 3) := by decide +kernel
theorem dX1_buy_52 : decode cX1_buy 52 = .ok (.aload_n 0, 1) := by decide +kernel
theorem dX1_buy_53 : decode cX1_buy 53 = .ok (.iconst 3, 1) := by decide +kernel
theorem dX1_buy_54 : decode cX1_buy 54 = .ok (.invokevirtual 68, 3) := by decide +kernel
theorem dX1_buy_57 : decode cX1_buy 57 = .ok (.ireturn, 1) := by decide +kernel
theorem dX1_buy_58 : decode cX1_buy 58 = .ok (.aload_n 0, 1) := by decide +kernel
theorem dX1_buy_59 : decode cX1_buy 59 = .ok (.getfield 19, 3) := by decide +kernel
theorem dX1_buy_62 : decode cX1_buy 62 = .ok (.iload_n 1, 1) := by decide +kernel
theorem dX1_buy_63 : decode cX1_buy 63 = .ok (.iload_n 2, 1) := by decide +kernel
theorem dX1_buy_64 : decode cX1_buy 64 = .ok (.invokestatic 45, 3) := by decide +kernel
theorem dX1_buy_67 : decode cX1_buy 67 = .ok (.dup2, 1) := by decide +kernel
theorem dX1_buy_68 : decode cX1_buy 68 = .ok (.iaload, 1) := by decide +kernel
theorem dX1_buy_69 : decode cX1_buy 69 = .ok (.iload_n 3, 1) := by decide +kernel
theorem dX1_buy_70 : decode cX1_buy 70 = .ok (.iadd, 1) := by decide +kernel
theorem dX1_buy_71 : decode cX1_buy 71 = .ok (.iastore, 1) := by decide +kernel
theorem dX1_buy_72 : decode cX1_buy 72 = .ok (.aload_n 0, 1) := by decide +kernel
theorem dX1_buy_73 : decode cX1_buy 73 = .ok (.getfield 19, 3) := by decide +kernel
theorem dX1_buy_76 : decode cX1_buy 76 = .ok (.bipush 17, 2) := by decide +kernel
theorem dX1_buy_78 : decode cX1_buy 78 = .ok (.iload_n 1, 1) := by decide +kernel
theorem dX1_buy_79 : decode cX1_buy 79 = .ok (.iadd, 1) := by decide +kernel
theorem dX1_buy_80 : decode cX1_buy 80 = .ok (.dup2, 1) := by decide +kernel
theorem dX1_buy_81 : decode cX1_buy 81 = .ok (.iaload, 1) := by decide +kernel
theorem dX1_buy_82 : decode cX1_buy 82 = .ok (.iload 4, 2) := by decide +kernel
theorem dX1_buy_84 : decode cX1_buy 84 = .ok (.isub, 1) := by decide +kernel
theorem dX1_buy_85 : decode cX1_buy 85 = .ok (.iastore, 1) := by decide +kernel
theorem dX1_buy_86 : decode cX1_buy 86 = .ok (.iload 4, 2) := by decide +kernel
theorem dX1_buy_88 : decode cX1_buy 88 = .ok (.ireturn, 1) := by decide +kernel
theorem dX1_sold_0 : decode cX1_sold 0 = .ok (.aload_n 0, 1) := by decide +kernel
theorem dX1_sold_1 : decode cX1_sold 1 = .ok (.iload_n 2, 1) := by decide +kernel
theorem dX1_sold_2 : decode cX1_sold 2 = .ok (.invokevirtual 61, 3) := by decide +kernel
theorem dX1_sold_5 : decode cX1_sold 5 = .ok (.iload_n 3, 1) := by decide +kernel
theorem dX1_sold_6 : decode cX1_sold 6 = .ok (.imul, 1) := by decide +kernel
theorem dX1_sold_7 : decode cX1_sold 7 = .ok (.istore 4, 2) := by decide +kernel
theorem dX1_sold_9 : decode cX1_sold 9 = .ok (.aload_n 0, 1) := by decide +kernel
theorem dX1_sold_10 : decode cX1_sold 10 = .ok (.getfield 19, 3) := by decide +kernel
theorem dX1_sold_13 : decode cX1_sold 13 = .ok (.iload_n 1, 1) := by decide +kernel
theorem dX1_sold_14 : decode cX1_sold 14 = .ok (.iload_n 2, 1) := by decide +kernel
theorem dX1_sold_15 : decode cX1_sold 15 = .ok (.invokestatic 45, 3) := by decide +kernel
theorem dX1_sold_18 : decode cX1_sold 18 = .ok (.dup2, 1) := by decide +kernel
theorem dX1_sold_19 : decode cX1_sold 19 = .ok (.iaload, 1) := by decide +kernel
theorem dX1_sold_20 : decode cX1_sold 20 = .ok (.iload_n 3, 1) := by decide +kernel
theorem dX1_sold_21 : decode cX1_sold 21 = .ok (.isub, 1) := by decide +kernel
theorem dX1_sold_22 : decode cX1_sold 22 = .ok (.iastore, 1) := by decide +kernel
theorem dX1_sold_23 : decode cX1_sold 23 = .ok (.aload_n 0, 1) := by decide +kernel
theorem dX1_sold_24 : decode cX1_sold 24 = .ok (.getfield 19, 3) := by decide +kernel
theorem dX1_sold_27 : decode cX1_sold 27 = .ok (.bipush 17, 2) := by decide +kernel
theorem dX1_sold_29 : decode cX1_sold 29 = .ok (.iload_n 1, 1) := by decide +kernel
theorem dX1_sold_30 : decode cX1_sold 30 = .ok (.iadd, 1) := by decide +kernel
theorem dX1_sold_31 : decode cX1_sold 31 = .ok (.dup2, 1) := by decide +kernel
theorem dX1_sold_32 : decode cX1_sold 32 = .ok (.iaload, 1) := by decide +kernel
theorem dX1_sold_33 : decode cX1_sold 33 = .ok (.iload 4, 2) := by decide +kernel
theorem dX1_sold_35 : decode cX1_sold 35 = .ok (.iadd, 1) := by decide +kernel
theorem dX1_sold_36 : decode cX1_sold 36 = .ok (.iastore, 1) := by decide +kernel
theorem dX1_sold_37 : decode cX1_sold 37 = .ok (.iload 4, 2) := by decide +kernel
theorem dX1_sold_39 : decode cX1_sold 39 = .ok (.ireturn, 1) := by decide +kernel
theorem dX1_sell_0 : decode cX1_sell 0 = .ok (.aload_n 0, 1) := by decide +kernel
theorem dX1_sell_1 : decode cX1_sell 1 = .ok (.iload_n 1, 1) := by decide +kernel
theorem dX1_sell_2 : decode cX1_sell 2 = .ok (.iload_n 2, 1) := by decide +kernel
theorem dX1_sell_3 : decode cX1_sell 3 = .ok (.iload_n 3, 1) := by decide +kernel
theorem dX1_sell_4 : decode cX1_sell 4 = .ok (.invokevirtual 78, 3) := by decide +kernel
theorem dX1_sell_7 : decode cX1_sell 7 = .ok (.ifCond .ne 5, 3) := by decide +kernel
theorem dX1_sell_10 : decode cX1_sell 10 = .ok (.iconst 0, 1) := by decide +kernel
theorem dX1_sell_11 : decode cX1_sell 11 = .ok (.ireturn, 1) := by decide +kernel
theorem dX1_sell_12 : decode cX1_sell 12 = .ok (.aload_n 0, 1) := by decide +kernel
theorem dX1_sell_13 : decode cX1_sell 13 = .ok (.getfield 19, 3) := by decide +kernel
theorem dX1_sell_16 : decode cX1_sell 16 = .ok (.iload_n 1, 1) := by decide +kernel
theorem dX1_sell_17 : decode cX1_sell 17 = .ok (.iload_n 2, 1) := by decide +kernel
theorem dX1_sell_18 : decode cX1_sell 18 = .ok (.invokestatic 45, 3) := by decide +kernel
theorem dX1_sell_21 : decode cX1_sell 21 = .ok (.iaload, 1) := by decide +kernel
theorem dX1_sell_22 : decode cX1_sell 22 = .ok (.iload_n 3, 1) := by decide +kernel
theorem dX1_sell_23 : decode cX1_sell 23 = .ok (.isub, 1) := by decide +kernel
theorem dX1_sell_24 : decode cX1_sell 24 = .ok (.bipush (-9), 2) := by decide +kernel
theorem dX1_sell_26 : decode cX1_sell 26 = .ok (.if_icmp .ge 11, 3) := by decide +kernel
theorem dX1_sell_29 : decode cX1_sell 29 = .ok (.aload_n 0, 1) := by decide +kernel
theorem dX1_sell_30 : decode cX1_sell 30 = .ok (.iconst 3, 1) := by decide +kernel
theorem dX1_sell_31 : decode cX1_sell 31 = .ok (.invokevirtual 68, 3) := by decide +kernel
theorem dX1_sell_34 : decode cX1_sell 34 = .ok (.goto 10, 3) := by decide +kernel
theorem dX1_sell_37 : decode cX1_sell 37 = .ok (.aload_n 0, 1) := by decide +kernel
theorem dX1_sell_38 : decode cX1_sell 38 = .ok (.iload_n 1, 1) := by decide +kernel
theorem dX1_sell_39 : decode cX1_sell 39 = .ok (.iload_n 2, 1) := by decide +kernel
theorem dX1_sell_40 : decode cX1_sell 40 = .ok (.iload_n 3, 1) := by decide +kernel
theorem dX1_sell_41 : decode cX1_sell 41 = .ok (.invokevirtual 81, 3) := by decide +kernel
theorem dX1_sell_44 : decode cX1_sell 44 = .ok (.ireturn, 1) := by decide +kernel
theorem dX1_pass_0 : decode cX1_pass 0 = .ok (.aload_n 0, 1) := by decide +kernel
theorem dX1_pass_1 : decode cX1_pass 1 = .ok (.iconst 0, 1) := by decide +kernel
theorem dX1_pass_2 : decode cX1_pass 2 = .ok (.putfield 25, 3) := by decide +kernel
theorem dX1_pass_5 : decode cX1_pass 5 = .ok (.iload_n 1, 1) := by decide +kernel
theorem dX1_pass_6 : decode cX1_pass 6 = .ok (.iconst 1, 1) := by decide +kernel
theorem dX1_pass_7 : decode cX1_pass 7 = .ok (.bipush 60, 2) := by decide +kernel
theorem dX1_pass_9 : decode cX1_pass 9 = .ok (.invokestatic 32, 3) := by decide +kernel
theorem dX1_pass_12 : decode cX1_pass 12 = .ok (.ifCond .eq 11, 3) := by decide +kernel
theorem dX1_pass_15 : decode cX1_pass 15 = .ok (.aload_n 0, 1) := by decide +kernel
theorem dX1_pass_16 : decode cX1_pass 16 = .ok (.iload_n 1, 1) := by decide +kernel
theorem dX1_pass_17 : decode cX1_pass 17 = .ok (.invokevirtual 85, 3) := by decide +kernel
theorem dX1_pass_20 : decode cX1_pass 20 = .ok (.goto 8, 3) := by decide +kernel
theorem dX1_pass_23 : decode cX1_pass 23 = .ok (.aload_n 0, 1) := by decide +kernel
theorem dX1_pass_24 : decode cX1_pass 24 = .ok (.iconst 1, 1) := by decide +kernel
theorem dX1_pass_25 : decode cX1_pass 25 = .ok (.invokevirtual 68, 3) := by decide +kernel
theorem dX1_pass_28 : decode cX1_pass 28 = .ok (.ireturn, 1) := by decide +kernel
theorem dX1_second_0 : decode cX1_second 0 = .ok (.aload_n 0, 1) := by decide +kernel
theorem dX1_second_1 : decode cX1_second 1 = .ok (.aload_n 0, 1) := by decide +kernel
theorem dX1_second_2 : decode cX1_second 2 = .ok (.getfield 19, 3) := by decide +kernel
theorem dX1_second_5 : decode cX1_second 5 = .ok (.iconst 0, 1) := by decide +kernel
theorem dX1_second_6 : decode cX1_second 6 = .ok (.iaload, 1) := by decide +kernel
theorem dX1_second_7 : decode cX1_second 7 = .ok (.invokevirtual 88, 3) := by decide +kernel
theorem dX1_second_10 : decode cX1_second 10 = .ok (.ireturn, 1) := by decide +kernel
theorem dX1_towers_0 : decode cX1_towers 0 = .ok (.aload_n 0, 1) := by decide +kernel
theorem dX1_towers_1 : decode cX1_towers 1 = .ok (.aload_n 0, 1) := by decide +kernel
theorem dX1_towers_2 : decode cX1_towers 2 = .ok (.getfield 29, 3) := by decide +kernel
theorem dX1_towers_5 : decode cX1_towers 5 = .ok (.invokevirtual 88, 3) := by decide +kernel
theorem dX1_towers_8 : decode cX1_towers 8 = .ok (.ireturn, 1) := by decide +kernel
theorem dX1_silenceOf_0 : decode cX1_silenceOf 0 = .ok (.aload_n 0, 1) := by decide +kernel
theorem dX1_silenceOf_1 : decode cX1_silenceOf 1 = .ok (.iconst 0, 1) := by decide +kernel
theorem dX1_silenceOf_2 : decode cX1_silenceOf 2 = .ok (.putfield 25, 3) := by decide +kernel
theorem dX1_silenceOf_5 : decode cX1_silenceOf 5 = .ok (.aload_n 0, 1) := by decide +kernel
theorem dX1_silenceOf_6 : decode cX1_silenceOf 6 = .ok (.iload_n 1, 1) := by decide +kernel
theorem dX1_silenceOf_7 : decode cX1_silenceOf 7 = .ok (.invokevirtual 75, 3) := by decide +kernel
theorem dX1_silenceOf_10 : decode cX1_silenceOf 10 = .ok (.ifCond .eq 14, 3) := by decide +kernel
theorem dX1_silenceOf_13 : decode cX1_silenceOf 13 = .ok (.aload_n 0, 1) := by decide +kernel
theorem dX1_silenceOf_14 : decode cX1_silenceOf 14 = .ok (.getfield 19, 3) := by decide +kernel
theorem dX1_silenceOf_17 : decode cX1_silenceOf 17 = .ok (.iconst 1, 1) := by decide +kernel
theorem dX1_silenceOf_18 : decode cX1_silenceOf 18 = .ok (.iload_n 1, 1) := by decide +kernel
theorem dX1_silenceOf_19 : decode cX1_silenceOf 19 = .ok (.iadd, 1) := by decide +kernel
theorem dX1_silenceOf_20 : decode cX1_silenceOf 20 = .ok (.iaload, 1) := by decide +kernel
theorem dX1_silenceOf_21 : decode cX1_silenceOf 21 = .ok (.goto 8, 3) := by decide +kernel
theorem dX1_silenceOf_24 : decode cX1_silenceOf 24 = .ok (.aload_n 0, 1) := by decide +kernel
theorem dX1_silenceOf_25 : decode cX1_silenceOf 25 = .ok (.iconst 1, 1) := by decide +kernel
theorem dX1_silenceOf_26 : decode cX1_silenceOf 26 = .ok (.invokevirtual 68, 3) := by decide +kernel
theorem dX1_silenceOf_29 : decode cX1_silenceOf 29 = .ok (.ireturn, 1) := by decide +kernel
theorem dX1_dovesOn_0 : decode cX1_dovesOn 0 = .ok (.aload_n 0, 1) := by decide +kernel
theorem dX1_dovesOn_1 : decode cX1_dovesOn 1 = .ok (.iconst 0, 1) := by decide +kernel
theorem dX1_dovesOn_2 : decode cX1_dovesOn 2 = .ok (.putfield 25, 3) := by decide +kernel
theorem dX1_dovesOn_5 : decode cX1_dovesOn 5 = .ok (.aload_n 0, 1) := by decide +kernel
theorem dX1_dovesOn_6 : decode cX1_dovesOn 6 = .ok (.iload_n 1, 1) := by decide +kernel
theorem dX1_dovesOn_7 : decode cX1_dovesOn 7 = .ok (.invokevirtual 75, 3) := by decide +kernel
theorem dX1_dovesOn_10 : decode cX1_dovesOn 10 = .ok (.ifCond .eq 11, 3) := by decide +kernel
theorem dX1_dovesOn_13 : decode cX1_dovesOn 13 = .ok (.aload_n 0, 1) := by decide +kernel
theorem dX1_dovesOn_14 : decode cX1_dovesOn 14 = .ok (.iload_n 1, 1) := by decide +kernel
theorem dX1_dovesOn_15 : decode cX1_dovesOn 15 = .ok (.invokevirtual 54, 3) := by decide +kernel
theorem dX1_dovesOn_18 : decode cX1_dovesOn 18 = .ok (.goto 8, 3) := by decide +kernel
theorem dX1_dovesOn_21 : decode cX1_dovesOn 21 = .ok (.aload_n 0, 1) := by decide +kernel
theorem dX1_dovesOn_22 : decode cX1_dovesOn 22 = .ok (.iconst 1, 1) := by decide +kernel
theorem dX1_dovesOn_23 : decode cX1_dovesOn 23 = .ok (.invokevirtual 68, 3) := by decide +kernel
theorem dX1_dovesOn_26 : decode cX1_dovesOn 26 = .ok (.ireturn, 1) := by decide +kernel
theorem dX1_priceOf_0 : decode cX1_priceOf 0 = .ok (.aload_n 0, 1) := by decide +kernel
theorem dX1_priceOf_1 : decode cX1_priceOf 1 = .ok (.iconst 0, 1) := by decide +kernel
theorem dX1_priceOf_2 : decode cX1_priceOf 2 = .ok (.putfield 25, 3) := by decide +kernel
theorem dX1_priceOf_5 : decode cX1_priceOf 5 = .ok (.aload_n 0, 1) := by decide +kernel
theorem dX1_priceOf_6 : decode cX1_priceOf 6 = .ok (.iload_n 1, 1) := by decide +kernel
theorem dX1_priceOf_7 : decode cX1_priceOf 7 = .ok (.invokevirtual 75, 3) := by decide +kernel
theorem dX1_priceOf_10 : decode cX1_priceOf 10 = .ok (.ifCond .eq 11, 3) := by decide +kernel
theorem dX1_priceOf_13 : decode cX1_priceOf 13 = .ok (.aload_n 0, 1) := by decide +kernel
theorem dX1_priceOf_14 : decode cX1_priceOf 14 = .ok (.iload_n 1, 1) := by decide +kernel
theorem dX1_priceOf_15 : decode cX1_priceOf 15 = .ok (.invokevirtual 61, 3) := by decide +kernel
theorem dX1_priceOf_18 : decode cX1_priceOf 18 = .ok (.goto 8, 3) := by decide +kernel
theorem dX1_priceOf_21 : decode cX1_priceOf 21 = .ok (.aload_n 0, 1) := by decide +kernel
theorem dX1_priceOf_22 : decode cX1_priceOf 22 = .ok (.iconst 1, 1) := by decide +kernel
theorem dX1_priceOf_23 : decode cX1_priceOf 23 = .ok (.invokevirtual 68, 3) := by decide +kernel
theorem dX1_priceOf_26 : decode cX1_priceOf 26 = .ok (.ireturn, 1) := by decide +kernel
theorem dX1_secondsUntilStroke_0 : decode cX1_secondsUntilStroke 0 = .ok (.aload_n 0, 1) := by decide +kernel
theorem dX1_secondsUntilStroke_1 : decode cX1_secondsUntilStroke 1 = .ok (.iconst 0, 1) := by decide +kernel
theorem dX1_secondsUntilStroke_2 : decode cX1_secondsUntilStroke 2 = .ok (.putfield 25, 3) := by decide +kernel
theorem dX1_secondsUntilStroke_5 : decode cX1_secondsUntilStroke 5 = .ok (.aload_n 0, 1) := by decide +kernel
theorem dX1_secondsUntilStroke_6 : decode cX1_secondsUntilStroke 6 = .ok (.iload_n 1, 1) := by decide +kernel
theorem dX1_secondsUntilStroke_7 : decode cX1_secondsUntilStroke 7 = .ok (.invokevirtual 75, 3) := by decide +kernel
theorem dX1_secondsUntilStroke_10 : decode cX1_secondsUntilStroke 10 = .ok (.ifCond .eq 11, 3) := by decide +kernel
theorem dX1_secondsUntilStroke_13 : decode cX1_secondsUntilStroke 13 = .ok (.aload_n 0, 1) := by decide +kernel
theorem dX1_secondsUntilStroke_14 : decode cX1_secondsUntilStroke 14 = .ok (.iload_n 1, 1) := by decide +kernel
theorem dX1_secondsUntilStroke_15 : decode cX1_secondsUntilStroke 15 = .ok (.invokevirtual 91, 3) := by decide +kernel
theorem dX1_secondsUntilStroke_18 : decode cX1_secondsUntilStroke 18 = .ok (.goto 8, 3) := by decide +kernel
theorem dX1_secondsUntilStroke_21 : decode cX1_secondsUntilStroke 21 = .ok (.aload_n 0, 1) := by decide +kernel
theorem dX1_secondsUntilStroke_22 : decode cX1_secondsUntilStroke 22 = .ok (.iconst 1, 1) := by decide +kernel
theorem dX1_secondsUntilStroke_23 : decode cX1_secondsUntilStroke 23 = .ok (.invokevirtual 68, 3) := by decide +kernel
theorem dX1_secondsUntilStroke_26 : decode cX1_secondsUntilStroke 26 = .ok (.ireturn, 1) := by decide +kernel
theorem dX1_strokesOf_0 : decode cX1_strokesOf 0 = .ok (.aload_n 0, 1) := by decide +kernel
theorem dX1_strokesOf_1 : decode cX1_strokesOf 1 = .ok (.iconst 0, 1) := by decide +kernel
theorem dX1_strokesOf_2 : decode cX1_strokesOf 2 = .ok (.putfield 25, 3) := by decide +kernel
theorem dX1_strokesOf_5 : decode cX1_strokesOf 5 = .ok (.aload_n 0, 1) := by decide +kernel
theorem dX1_strokesOf_6 : decode cX1_strokesOf 6 = .ok (.iload_n 1, 1) := by decide +kernel
theorem dX1_strokesOf_7 : decode cX1_strokesOf 7 = .ok (.invokevirtual 75, 3) := by decide +kernel
theorem dX1_strokesOf_10 : decode cX1_strokesOf 10 = .ok (.ifCond .eq 15, 3) := by decide +kernel
theorem dX1_strokesOf_13 : decode cX1_strokesOf 13 = .ok (.aload_n 0, 1) := by decide +kernel
theorem dX1_strokesOf_14 : decode cX1_strokesOf 14 = .ok (.getfield 19, 3) := by decide +kernel
theorem dX1_strokesOf_17 : decode cX1_strokesOf 17 = .ok (.bipush 9, 2) := by decide +kernel
theorem dX1_strokesOf_19 : decode cX1_strokesOf 19 = .ok (.iload_n 1, 1) := by decide +kernel
theorem dX1_strokesOf_20 : decode cX1_strokesOf 20 = .ok (.iadd, 1) := by decide +kernel
theorem dX1_strokesOf_21 : decode cX1_strokesOf 21 = .ok (.iaload, 1) := by decide +kernel
theorem dX1_strokesOf_22 : decode cX1_strokesOf 22 = .ok (.goto 8, 3) := by decide +kernel
theorem dX1_strokesOf_25 : decode cX1_strokesOf 25 = .ok (.aload_n 0, 1) := by decide +kernel
theorem dX1_strokesOf_26 : decode cX1_strokesOf 26 = .ok (.iconst 1, 1) := by decide +kernel
theorem dX1_strokesOf_27 : decode cX1_strokesOf 27 = .ok (.invokevirtual 68, 3) := by decide +kernel
theorem dX1_strokesOf_30 : decode cX1_strokesOf 30 = .ok (.ireturn, 1) := by decide +kernel
theorem dX1_open_0 : decode cX1_open 0 = .ok (.iconst 0, 1) := by decide +kernel
theorem dX1_open_1 : decode cX1_open 1 = .ok (.istore_n 2, 1) := by decide +kernel
theorem dX1_open_2 : decode cX1_open 2 = .ok (.iconst 0, 1) := by decide +kernel
theorem dX1_open_3 : decode cX1_open 3 = .ok (.istore_n 3, 1) := by decide +kernel
theorem dX1_open_4 : decode cX1_open 4 = .ok (.iload_n 3, 1) := by decide +kernel
theorem dX1_open_5 : decode cX1_open 5 = .ok (.aload_n 0, 1) := by decide +kernel
theorem dX1_open_6 : decode cX1_open 6 = .ok (.getfield 36, 3) := by decide +kernel
theorem dX1_open_9 : decode cX1_open 9 = .ok (.if_icmp .ge 22, 3) := by decide +kernel
theorem dX1_open_12 : decode cX1_open 12 = .ok (.iload_n 2, 1) := by decide +kernel
theorem dX1_open_13 : decode cX1_open 13 = .ok (.aload_n 0, 1) := by decide +kernel
theorem dX1_open_14 : decode cX1_open 14 = .ok (.getfield 19, 3) := by decide +kernel
theorem dX1_open_17 : decode cX1_open 17 = .ok (.iload_n 3, 1) := by decide +kernel
theorem dX1_open_18 : decode cX1_open 18 = .ok (.iload_n 1, 1) := by decide +kernel
theorem dX1_open_19 : decode cX1_open 19 = .ok (.invokestatic 45, 3) := by decide +kernel
theorem dX1_open_22 : decode cX1_open 22 = .ok (.iaload, 1) := by decide +kernel
theorem dX1_open_23 : decode cX1_open 23 = .ok (.iadd, 1) := by decide +kernel
theorem dX1_open_24 : decode cX1_open 24 = .ok (.istore_n 2, 1) := by decide +kernel
theorem dX1_open_25 : decode cX1_open 25 = .ok (.iinc 3 1, 3) := by decide +kernel
theorem dX1_open_28 : decode cX1_open 28 = .ok (.goto (-24), 3) := by decide +kernel
theorem dX1_open_31 : decode cX1_open 31 = .ok (.iload_n 2, 1) := by decide +kernel
theorem dX1_open_32 : decode cX1_open 32 = .ok (.ireturn, 1) := by decide +kernel
theorem dX1_openSeconds_0 : decode cX1_openSeconds 0 = .ok (.aload_n 0, 1) := by decide +kernel
theorem dX1_openSeconds_1 : decode cX1_openSeconds 1 = .ok (.iconst 0, 1) := by decide +kernel
theorem dX1_openSeconds_2 : decode cX1_openSeconds 2 = .ok (.putfield 25, 3) := by decide +kernel
theorem dX1_openSeconds_5 : decode cX1_openSeconds 5 = .ok (.aload_n 0, 1) := by decide +kernel
theorem dX1_openSeconds_6 : decode cX1_openSeconds 6 = .ok (.iload_n 1, 1) := by decide +kernel
theorem dX1_openSeconds_7 : decode cX1_openSeconds 7 = .ok (.invokevirtual 75, 3) := by decide +kernel
theorem dX1_openSeconds_10 : decode cX1_openSeconds 10 = .ok (.ifCond .eq 11, 3) := by decide +kernel
theorem dX1_openSeconds_13 : decode cX1_openSeconds 13 = .ok (.aload_n 0, 1) := by decide +kernel
theorem dX1_openSeconds_14 : decode cX1_openSeconds 14 = .ok (.iload_n 1, 1) := by decide +kernel
theorem dX1_openSeconds_15 : decode cX1_openSeconds 15 = .ok (.invokevirtual 94, 3) := by decide +kernel
theorem dX1_openSeconds_18 : decode cX1_openSeconds 18 = .ok (.goto 8, 3) := by decide +kernel
theorem dX1_openSeconds_21 : decode cX1_openSeconds 21 = .ok (.aload_n 0, 1) := by decide +kernel
theorem dX1_openSeconds_22 : decode cX1_openSeconds 22 = .ok (.iconst 1, 1) := by decide +kernel
theorem dX1_openSeconds_23 : decode cX1_openSeconds 23 = .ok (.invokevirtual 68, 3) := by decide +kernel
theorem dX1_openSeconds_26 : decode cX1_openSeconds 26 = .ok (.ireturn, 1) := by decide +kernel
theorem dX1_dear_0 : decode cX1_dear 0 = .ok (.iconst (-1), 1) := by decide +kernel
theorem dX1_dear_1 : decode cX1_dear 1 = .ok (.istore_n 1, 1) := by decide +kernel
theorem dX1_dear_2 : decode cX1_dear 2 = .ok (.iconst 0, 1) := by decide +kernel
theorem dX1_dear_3 : decode cX1_dear 3 = .ok (.istore_n 2, 1) := by decide +kernel
theorem dX1_dear_4 : decode cX1_dear 4 = .ok (.iload_n 2, 1) := by decide +kernel
theorem dX1_dear_5 : decode cX1_dear 5 = .ok (.aload_n 0, 1) := by decide +kernel
theorem dX1_dear_6 : decode cX1_dear 6 = .ok (.getfield 29, 3) := by decide +kernel
theorem dX1_dear_9 : decode cX1_dear 9 = .ok (.if_icmp .ge 29, 3) := by decide +kernel
theorem dX1_dear_12 : decode cX1_dear 12 = .ok (.iload_n 1, 1) := by decide +kernel
theorem dX1_dear_13 : decode cX1_dear 13 = .ok (.iconst (-1), 1) := by decide +kernel
theorem dX1_dear_14 : decode cX1_dear 14 = .ok (.if_icmp .eq 16, 3) := by decide +kernel
theorem dX1_dear_17 : decode cX1_dear 17 = .ok (.aload_n 0, 1) := by decide +kernel
theorem dX1_dear_18 : decode cX1_dear 18 = .ok (.iload_n 2, 1) := by decide +kernel
theorem dX1_dear_19 : decode cX1_dear 19 = .ok (.invokevirtual 61, 3) := by decide +kernel
theorem dX1_dear_22 : decode cX1_dear 22 = .ok (.aload_n 0, 1) := by decide +kernel
theorem dX1_dear_23 : decode cX1_dear 23 = .ok (.iload_n 1, 1) := by decide +kernel
theorem dX1_dear_24 : decode cX1_dear 24 = .ok (.invokevirtual 61, 3) := by decide +kernel
theorem dX1_dear_27 : decode cX1_dear 27 = .ok (.if_icmp .le 5, 3) := by decide +kernel
theorem dX1_dear_30 : decode cX1_dear 30 = .ok (.iload_n 2, 1) := by decide +kernel
theorem dX1_dear_31 : decode cX1_dear 31 = .ok (.istore_n 1, 1) := by decide +kernel
theorem dX1_dear_32 : decode cX1_dear 32 = .ok (.iinc 2 1, 3) := by decide +kernel
theorem dX1_dear_35 : decode cX1_dear 35 = .ok (.goto (-31), 3) := by decide +kernel
theorem dX1_dear_38 : decode cX1_dear 38 = .ok (.iload_n 1, 1) := by decide +kernel
theorem dX1_dear_39 : decode cX1_dear 39 = .ok (.ireturn, 1) := by decide +kernel
theorem dX1_dearest_0 : decode cX1_dearest 0 = .ok (.aload_n 0, 1) := by decide +kernel
theorem dX1_dearest_1 : decode cX1_dearest 1 = .ok (.aload_n 0, 1) := by decide +kernel
theorem dX1_dearest_2 : decode cX1_dearest 2 = .ok (.invokevirtual 97, 3) := by decide +kernel
theorem dX1_dearest_5 : decode cX1_dearest 5 = .ok (.invokevirtual 88, 3) := by decide +kernel
theorem dX1_dearest_8 : decode cX1_dearest 8 = .ok (.ireturn, 1) := by decide +kernel
theorem dX1_next_0 : decode cX1_next 0 = .ok (.iconst (-1), 1) := by decide +kernel
theorem dX1_next_1 : decode cX1_next 1 = .ok (.istore_n 1, 1) := by decide +kernel
theorem dX1_next_2 : decode cX1_next 2 = .ok (.iconst 0, 1) := by decide +kernel
theorem dX1_next_3 : decode cX1_next 3 = .ok (.istore_n 2, 1) := by decide +kernel
theorem dX1_next_4 : decode cX1_next 4 = .ok (.iload_n 2, 1) := by decide +kernel
theorem dX1_next_5 : decode cX1_next 5 = .ok (.aload_n 0, 1) := by decide +kernel
theorem dX1_next_6 : decode cX1_next 6 = .ok (.getfield 29, 3) := by decide +kernel
theorem dX1_next_9 : decode cX1_next 9 = .ok (.if_icmp .ge 29, 3) := by decide +kernel
theorem dX1_next_12 : decode cX1_next 12 = .ok (.iload_n 1, 1) := by decide +kernel
theorem dX1_next_13 : decode cX1_next 13 = .ok (.iconst (-1), 1) := by decide +kernel
theorem dX1_next_14 : decode cX1_next 14 = .ok (.if_icmp .eq 16, 3) := by decide +kernel
theorem dX1_next_17 : decode cX1_next 17 = .ok (.aload_n 0, 1) := by decide +kernel
theorem dX1_next_18 : decode cX1_next 18 = .ok (.iload_n 2, 1) := by decide +kernel
theorem dX1_next_19 : decode cX1_next 19 = .ok (.invokevirtual 91, 3) := by decide +kernel
theorem dX1_next_22 : decode cX1_next 22 = .ok (.aload_n 0, 1) := by decide +kernel
theorem dX1_next_23 : decode cX1_next 23 = .ok (.iload_n 1, 1) := by decide +kernel
theorem dX1_next_24 : decode cX1_next 24 = .ok (.invokevirtual 91, 3) := by decide +kernel
theorem dX1_next_27 : decode cX1_next 27 = .ok (.if_icmp .ge 5, 3) := by decide +kernel
theorem dX1_next_30 : decode cX1_next 30 = .ok (.iload_n 2, 1) := by decide +kernel
theorem dX1_next_31 : decode cX1_next 31 = .ok (.istore_n 1, 1) := by decide +kernel
theorem dX1_next_32 : decode cX1_next 32 = .ok (.iinc 2 1, 3) := by decide +kernel
theorem dX1_next_35 : decode cX1_next 35 = .ok (.goto (-31), 3) := by decide +kernel
theorem dX1_next_38 : decode cX1_next 38 = .ok (.iload_n 1, 1) := by decide +kernel
theorem dX1_next_39 : decode cX1_next 39 = .ok (.ireturn, 1) := by decide +kernel
theorem dX1_nextToStrike_0 : decode cX1_nextToStrike 0 = .ok (.aload_n 0, 1) := by decide +kernel
theorem dX1_nextToStrike_1 : decode cX1_nextToStrike 1 = .ok (.aload_n 0, 1) := by decide +kernel
theorem dX1_nextToStrike_2 : decode cX1_nextToStrike 2 = .ok (.invokevirtual 100, 3) := by decide +kernel
theorem dX1_nextToStrike_5 : decode cX1_nextToStrike 5 = .ok (.invokevirtual 88, 3) := by decide +kernel
theorem dX1_nextToStrike_8 : decode cX1_nextToStrike 8 = .ok (.ireturn, 1) := by decide +kernel
theorem dX1_traders_0 : decode cX1_traders 0 = .ok (.aload_n 0, 1) := by decide +kernel
theorem dX1_traders_1 : decode cX1_traders 1 = .ok (.aload_n 0, 1) := by decide +kernel
theorem dX1_traders_2 : decode cX1_traders 2 = .ok (.getfield 36, 3) := by decide +kernel
theorem dX1_traders_5 : decode cX1_traders 5 = .ok (.invokevirtual 88, 3) := by decide +kernel
theorem dX1_traders_8 : decode cX1_traders 8 = .ok (.ireturn, 1) := by decide +kernel
theorem dX1_purseOf_0 : decode cX1_purseOf 0 = .ok (.aload_n 0, 1) := by decide +kernel
theorem dX1_purseOf_1 : decode cX1_purseOf 1 = .ok (.iconst 0, 1) := by decide +kernel
theorem dX1_purseOf_2 : decode cX1_purseOf 2 = .ok (.putfield 25, 3) := by decide +kernel
theorem dX1_purseOf_5 : decode cX1_purseOf 5 = .ok (.aload_n 0, 1) := by decide +kernel
theorem dX1_purseOf_6 : decode cX1_purseOf 6 = .ok (.iload_n 1, 1) := by decide +kernel
theorem dX1_purseOf_7 : decode cX1_purseOf 7 = .ok (.invokevirtual 71, 3) := by decide +kernel
theorem dX1_purseOf_10 : decode cX1_purseOf 10 = .ok (.ifCond .eq 15, 3) := by decide +kernel
theorem dX1_purseOf_13 : decode cX1_purseOf 13 = .ok (.aload_n 0, 1) := by decide +kernel
theorem dX1_purseOf_14 : decode cX1_purseOf 14 = .ok (.getfield 19, 3) := by decide +kernel
theorem dX1_purseOf_17 : decode cX1_purseOf 17 = .ok (.bipush 17, 2) := by decide +kernel
theorem dX1_purseOf_19 : decode cX1_purseOf 19 = .ok (.iload_n 1, 1) := by decide +kernel
theorem dX1_purseOf_20 : decode cX1_purseOf 20 = .ok (.iadd, 1) := by decide +kernel
theorem dX1_purseOf_21 : decode cX1_purseOf 21 = .ok (.iaload, 1) := by decide +kernel
theorem dX1_purseOf_22 : decode cX1_purseOf 22 = .ok (.goto 8, 3) := by decide +kernel
theorem dX1_purseOf_25 : decode cX1_purseOf 25 = .ok (.aload_n 0, 1) := by decide +kernel
theorem dX1_purseOf_26 : decode cX1_purseOf 26 = .ok (.iconst 1, 1) := by decide +kernel
theorem dX1_purseOf_27 : decode cX1_purseOf 27 = .ok (.invokevirtual 68, 3) := by decide +kernel
theorem dX1_purseOf_30 : decode cX1_purseOf 30 = .ok (.ireturn, 1) := by decide +kernel
theorem dX1_holds_0 : decode cX1_holds 0 = .ok (.aload_n 0, 1) := by decide +kernel
theorem dX1_holds_1 : decode cX1_holds 1 = .ok (.iconst 0, 1) := by decide +kernel
theorem dX1_holds_2 : decode cX1_holds 2 = .ok (.putfield 25, 3) := by decide +kernel
theorem dX1_holds_5 : decode cX1_holds 5 = .ok (.aload_n 0, 1) := by decide +kernel
theorem dX1_holds_6 : decode cX1_holds 6 = .ok (.iload_n 1, 1) := by decide +kernel
theorem dX1_holds_7 : decode cX1_holds 7 = .ok (.invokevirtual 71, 3) := by decide +kernel
theorem dX1_holds_10 : decode cX1_holds 10 = .ok (.ifCond .eq 24, 3) := by decide +kernel
theorem dX1_holds_13 : decode cX1_holds 13 = .ok (.aload_n 0, 1) := by decide +kernel
theorem dX1_holds_14 : decode cX1_holds 14 = .ok (.iload_n 2, 1) := by decide +kernel
theorem dX1_holds_15 : decode cX1_holds 15 = .ok (.invokevirtual 75, 3) := by decide +kernel
theorem dX1_holds_18 : decode cX1_holds 18 = .ok (.ifCond .eq 16, 3) := by decide +kernel
theorem dX1_holds_21 : decode cX1_holds 21 = .ok (.aload_n 0, 1) := by decide +kernel
theorem dX1_holds_22 : decode cX1_holds 22 = .ok (.getfield 19, 3) := by decide +kernel
theorem dX1_holds_25 : decode cX1_holds 25 = .ok (.iload_n 1, 1) := by decide +kernel
theorem dX1_holds_26 : decode cX1_holds 26 = .ok (.iload_n 2, 1) := by decide +kernel
theorem dX1_holds_27 : decode cX1_holds 27 = .ok (.invokestatic 45, 3) := by decide +kernel
theorem dX1_holds_30 : decode cX1_holds 30 = .ok (.iaload, 1) := by decide +kernel
theorem dX1_holds_31 : decode cX1_holds 31 = .ok (.goto 8, 3) := by decide +kernel
theorem dX1_holds_34 : decode cX1_holds 34 = .ok (.aload_n 0, 1) := by decide +kernel
theorem dX1_holds_35 : decode cX1_holds 35 = .ok (.iconst 1, 1) := by decide +kernel
theorem dX1_holds_36 : decode cX1_holds 36 = .ok (.invokevirtual 68, 3) := by decide +kernel
theorem dX1_holds_39 : decode cX1_holds 39 = .ok (.ireturn, 1) := by decide +kernel
theorem dX1_worth_0 : decode cX1_worth 0 = .ok (.aload_n 0, 1) := by decide +kernel
theorem dX1_worth_1 : decode cX1_worth 1 = .ok (.getfield 19, 3) := by decide +kernel
theorem dX1_worth_4 : decode cX1_worth 4 = .ok (.bipush 17, 2) := by decide +kernel
theorem dX1_worth_6 : decode cX1_worth 6 = .ok (.iload_n 1, 1) := by decide +kernel
theorem dX1_worth_7 : decode cX1_worth 7 = .ok (.iadd, 1) := by decide +kernel
theorem dX1_worth_8 : decode cX1_worth 8 = .ok (.iaload, 1) := by decide +kernel
theorem dX1_worth_9 : decode cX1_worth 9 = .ok (.istore_n 2, 1) := by decide +kernel
theorem dX1_worth_10 : decode cX1_worth 10 = .ok (.iconst 0, 1) := by decide +kernel
theorem dX1_worth_11 : decode cX1_worth 11 = .ok (.istore_n 3, 1) := by decide +kernel
theorem dX1_worth_12 : decode cX1_worth 12 = .ok (.iload_n 3, 1) := by decide +kernel
theorem dX1_worth_13 : decode cX1_worth 13 = .ok (.aload_n 0, 1) := by decide +kernel
theorem dX1_worth_14 : decode cX1_worth 14 = .ok (.getfield 29, 3) := by decide +kernel
theorem dX1_worth_17 : decode cX1_worth 17 = .ok (.if_icmp .ge 28, 3) := by decide +kernel
theorem dX1_worth_20 : decode cX1_worth 20 = .ok (.iload_n 2, 1) := by decide +kernel
theorem dX1_worth_21 : decode cX1_worth 21 = .ok (.aload_n 0, 1) := by decide +kernel
theorem dX1_worth_22 : decode cX1_worth 22 = .ok (.iload_n 3, 1) := by decide +kernel
theorem dX1_worth_23 : decode cX1_worth 23 = .ok (.invokevirtual 61, 3) := by decide +kernel
theorem dX1_worth_26 : decode cX1_worth 26 = .ok (.aload_n 0, 1) := by decide +kernel
theorem dX1_worth_27 : decode cX1_worth 27 = .ok (.getfield 19, 3) := by decide +kernel
theorem dX1_worth_30 : decode cX1_worth 30 = .ok (.iload_n 1, 1) := by decide +kernel
theorem dX1_worth_31 : decode cX1_worth 31 = .ok (.iload_n 3, 1) := by decide +kernel
theorem dX1_worth_32 : decode cX1_worth 32 = .ok (.invokestatic 45, 3) := by decide +kernel
theorem dX1_worth_35 : decode cX1_worth 35 = .ok (.iaload, 1) := by decide +kernel
theorem dX1_worth_36 : decode cX1_worth 36 = .ok (.imul, 1) := by decide +kernel
theorem dX1_worth_37 : decode cX1_worth 37 = .ok (.iadd, 1) := by decide +kernel
theorem dX1_worth_38 : decode cX1_worth 38 = .ok (.istore_n 2, 1) := by decide +kernel
theorem dX1_worth_39 : decode cX1_worth 39 = .ok (.iinc 3 1, 3) := by decide +kernel
theorem dX1_worth_42 : decode cX1_worth 42 = .ok (.goto (-30), 3) := by decide +kernel
theorem dX1_worth_45 : decode cX1_worth 45 = .ok (.iload_n 2, 1) := by decide +kernel
theorem dX1_worth_46 : decode cX1_worth 46 = .ok (.ireturn, 1) := by decide +kernel
theorem dX1_worthOf_0 : decode cX1_worthOf 0 = .ok (.aload_n 0, 1) := by decide +kernel
theorem dX1_worthOf_1 : decode cX1_worthOf 1 = .ok (.iconst 0, 1) := by decide +kernel
theorem dX1_worthOf_2 : decode cX1_worthOf 2 = .ok (.putfield 25, 3) := by decide +kernel
theorem dX1_worthOf_5 : decode cX1_worthOf 5 = .ok (.aload_n 0, 1) := by decide +kernel
theorem dX1_worthOf_6 : decode cX1_worthOf 6 = .ok (.iload_n 1, 1) := by decide +kernel
theorem dX1_worthOf_7 : decode cX1_worthOf 7 = .ok (.invokevirtual 71, 3) := by decide +kernel
theorem dX1_worthOf_10 : decode cX1_worthOf 10 = .ok (.ifCond .eq 11, 3) := by decide +kernel
theorem dX1_worthOf_13 : decode cX1_worthOf 13 = .ok (.aload_n 0, 1) := by decide +kernel
theorem dX1_worthOf_14 : decode cX1_worthOf 14 = .ok (.iload_n 1, 1) := by decide +kernel
theorem dX1_worthOf_15 : decode cX1_worthOf 15 = .ok (.invokevirtual 103, 3) := by decide +kernel
theorem dX1_worthOf_18 : decode cX1_worthOf 18 = .ok (.goto 8, 3) := by decide +kernel
theorem dX1_worthOf_21 : decode cX1_worthOf 21 = .ok (.aload_n 0, 1) := by decide +kernel
theorem dX1_worthOf_22 : decode cX1_worthOf 22 = .ok (.iconst 1, 1) := by decide +kernel
theorem dX1_worthOf_23 : decode cX1_worthOf 23 = .ok (.invokevirtual 68, 3) := by decide +kernel
theorem dX1_worthOf_26 : decode cX1_worthOf 26 = .ok (.ireturn, 1) := by decide +kernel
theorem dX1_rich_0 : decode cX1_rich 0 = .ok (.iconst (-1), 1) := by decide +kernel
theorem dX1_rich_1 : decode cX1_rich 1 = .ok (.istore_n 1, 1) := by decide +kernel
theorem dX1_rich_2 : decode cX1_rich 2 = .ok (.iconst 0, 1) := by decide +kernel
theorem dX1_rich_3 : decode cX1_rich 3 = .ok (.istore_n 2, 1) := by decide +kernel
theorem dX1_rich_4 : decode cX1_rich 4 = .ok (.iload_n 2, 1) := by decide +kernel
theorem dX1_rich_5 : decode cX1_rich 5 = .ok (.aload_n 0, 1) := by decide +kernel
theorem dX1_rich_6 : decode cX1_rich 6 = .ok (.getfield 36, 3) := by decide +kernel
theorem dX1_rich_9 : decode cX1_rich 9 = .ok (.if_icmp .ge 29, 3) := by decide +kernel
theorem dX1_rich_12 : decode cX1_rich 12 = .ok (.iload_n 1, 1) := by decide +kernel
theorem dX1_rich_13 : decode cX1_rich 13 = .ok (.iconst (-1), 1) := by decide +kernel
theorem dX1_rich_14 : decode cX1_rich 14 = .ok (.if_icmp .eq 16, 3) := by decide +kernel
theorem dX1_rich_17 : decode cX1_rich 17 = .ok (.aload_n 0, 1) := by decide +kernel
theorem dX1_rich_18 : decode cX1_rich 18 = .ok (.iload_n 2, 1) := by decide +kernel
theorem dX1_rich_19 : decode cX1_rich 19 = .ok (.invokevirtual 103, 3) := by decide +kernel
theorem dX1_rich_22 : decode cX1_rich 22 = .ok (.aload_n 0, 1) := by decide +kernel
theorem dX1_rich_23 : decode cX1_rich 23 = .ok (.iload_n 1, 1) := by decide +kernel
theorem dX1_rich_24 : decode cX1_rich 24 = .ok (.invokevirtual 103, 3) := by decide +kernel
theorem dX1_rich_27 : decode cX1_rich 27 = .ok (.if_icmp .le 5, 3) := by decide +kernel
theorem dX1_rich_30 : decode cX1_rich 30 = .ok (.iload_n 2, 1) := by decide +kernel
theorem dX1_rich_31 : decode cX1_rich 31 = .ok (.istore_n 1, 1) := by decide +kernel
theorem dX1_rich_32 : decode cX1_rich 32 = .ok (.iinc 2 1, 3) := by decide +kernel
theorem dX1_rich_35 : decode cX1_rich 35 = .ok (.goto (-31), 3) := by decide +kernel
theorem dX1_rich_38 : decode cX1_rich 38 = .ok (.iload_n 1, 1) := by decide +kernel
theorem dX1_rich_39 : decode cX1_rich 39 = .ok (.ireturn, 1) := by decide +kernel
theorem dX1_richest_0 : decode cX1_richest 0 = .ok (.aload_n 0, 1) := by decide +kernel
theorem dX1_richest_1 : decode cX1_richest 1 = .ok (.aload_n 0, 1) := by decide +kernel
theorem dX1_richest_2 : decode cX1_richest 2 = .ok (.invokevirtual 106, 3) := by decide +kernel
theorem dX1_richest_5 : decode cX1_richest 5 = .ok (.invokevirtual 88, 3) := by decide +kernel
theorem dX1_richest_8 : decode cX1_richest 8 = .ok (.ireturn, 1) := by decide +kernel
theorem dX1_shorts_0 : decode cX1_shorts 0 = .ok (.iconst 0, 1) := by decide +kernel
theorem dX1_shorts_1 : decode cX1_shorts 1 = .ok (.istore_n 2, 1) := by decide +kernel
theorem dX1_shorts_2 : decode cX1_shorts 2 = .ok (.iconst 0, 1) := by decide +kernel
theorem dX1_shorts_3 : decode cX1_shorts 3 = .ok (.istore_n 3, 1) := by decide +kernel
theorem dX1_shorts_4 : decode cX1_shorts 4 = .ok (.iload_n 3, 1) := by decide +kernel
theorem dX1_shorts_5 : decode cX1_shorts 5 = .ok (.aload_n 0, 1) := by decide +kernel
theorem dX1_shorts_6 : decode cX1_shorts 6 = .ok (.getfield 29, 3) := by decide +kernel
theorem dX1_shorts_9 : decode cX1_shorts 9 = .ok (.if_icmp .ge 30, 3) := by decide +kernel
theorem dX1_shorts_12 : decode cX1_shorts 12 = .ok (.iload_n 2, 1) := by decide +kernel
theorem dX1_shorts_13 : decode cX1_shorts 13 = .ok (.aload_n 0, 1) := by decide +kernel
theorem dX1_shorts_14 : decode cX1_shorts 14 = .ok (.getfield 19, 3) := by decide +kernel
theorem dX1_shorts_17 : decode cX1_shorts 17 = .ok (.iload_n 1, 1) := by decide +kernel
theorem dX1_shorts_18 : decode cX1_shorts 18 = .ok (.iload_n 3, 1) := by decide +kernel
theorem dX1_shorts_19 : decode cX1_shorts 19 = .ok (.invokestatic 45, 3) := by decide +kernel
theorem dX1_shorts_22 : decode cX1_shorts 22 = .ok (.iaload, 1) := by decide +kernel
theorem dX1_shorts_23 : decode cX1_shorts 23 = .ok (.ifCond .ge 7, 3) := by decide +kernel
theorem dX1_shorts_26 : decode cX1_shorts 26 = .ok (.iconst 1, 1) := by decide +kernel
theorem dX1_shorts_27 : decode cX1_shorts 27 = .ok (.goto 4, 3) := by decide +kernel
theorem dX1_shorts_30 : decode cX1_shorts 30 = .ok (.iconst 0, 1) := by decide +kernel
theorem dX1_shorts_31 : decode cX1_shorts 31 = .ok (.iadd, 1) := by decide +kernel
theorem dX1_shorts_32 : decode cX1_shorts 32 = .ok (.istore_n 2, 1) := by decide +kernel
theorem dX1_shorts_33 : decode cX1_shorts 33 = .ok (.iinc 3 1, 3) := by decide +kernel
theorem dX1_shorts_36 : decode cX1_shorts 36 = .ok (.goto (-32), 3) := by decide +kernel
theorem dX1_shorts_39 : decode cX1_shorts 39 = .ok (.iload_n 2, 1) := by decide +kernel
theorem dX1_shorts_40 : decode cX1_shorts 40 = .ok (.ireturn, 1) := by decide +kernel
theorem dX1_shortsOf_0 : decode cX1_shortsOf 0 = .ok (.aload_n 0, 1) := by decide +kernel
theorem dX1_shortsOf_1 : decode cX1_shortsOf 1 = .ok (.iconst 0, 1) := by decide +kernel
theorem dX1_shortsOf_2 : decode cX1_shortsOf 2 = .ok (.putfield 25, 3) := by decide +kernel
theorem dX1_shortsOf_5 : decode cX1_shortsOf 5 = .ok (.aload_n 0, 1) := by decide +kernel
theorem dX1_shortsOf_6 : decode cX1_shortsOf 6 = .ok (.iload_n 1, 1) := by decide +kernel
theorem dX1_shortsOf_7 : decode cX1_shortsOf 7 = .ok (.invokevirtual 71, 3) := by decide +kernel
theorem dX1_shortsOf_10 : decode cX1_shortsOf 10 = .ok (.ifCond .eq 11, 3) := by decide +kernel
theorem dX1_shortsOf_13 : decode cX1_shortsOf 13 = .ok (.aload_n 0, 1) := by decide +kernel
theorem dX1_shortsOf_14 : decode cX1_shortsOf 14 = .ok (.iload_n 1, 1) := by decide +kernel
theorem dX1_shortsOf_15 : decode cX1_shortsOf 15 = .ok (.invokevirtual 109, 3) := by decide +kernel
theorem dX1_shortsOf_18 : decode cX1_shortsOf 18 = .ok (.goto 8, 3) := by decide +kernel
theorem dX1_shortsOf_21 : decode cX1_shortsOf 21 = .ok (.aload_n 0, 1) := by decide +kernel
theorem dX1_shortsOf_22 : decode cX1_shortsOf 22 = .ok (.iconst 1, 1) := by decide +kernel
theorem dX1_shortsOf_23 : decode cX1_shortsOf 23 = .ok (.invokevirtual 68, 3) := by decide +kernel
theorem dX1_shortsOf_26 : decode cX1_shortsOf 26 = .ok (.ireturn, 1) := by decide +kernel
theorem dX1_owing_0 : decode cX1_owing 0 = .ok (.iconst 0, 1) := by decide +kernel
theorem dX1_owing_1 : decode cX1_owing 1 = .ok (.istore_n 1, 1) := by decide +kernel
theorem dX1_owing_2 : decode cX1_owing 2 = .ok (.iconst 0, 1) := by decide +kernel
theorem dX1_owing_3 : decode cX1_owing 3 = .ok (.istore_n 2, 1) := by decide +kernel
theorem dX1_owing_4 : decode cX1_owing 4 = .ok (.iload_n 2, 1) := by decide +kernel
theorem dX1_owing_5 : decode cX1_owing 5 = .ok (.aload_n 0, 1) := by decide +kernel
theorem dX1_owing_6 : decode cX1_owing 6 = .ok (.getfield 36, 3) := by decide +kernel
theorem dX1_owing_9 : decode cX1_owing 9 = .ok (.if_icmp .ge 29, 3) := by decide +kernel
theorem dX1_owing_12 : decode cX1_owing 12 = .ok (.iload_n 1, 1) := by decide +kernel
theorem dX1_owing_13 : decode cX1_owing 13 = .ok (.aload_n 0, 1) := by decide +kernel
theorem dX1_owing_14 : decode cX1_owing 14 = .ok (.getfield 19, 3) := by decide +kernel
theorem dX1_owing_17 : decode cX1_owing 17 = .ok (.bipush 17, 2) := by decide +kernel
theorem dX1_owing_19 : decode cX1_owing 19 = .ok (.iload_n 2, 1) := by decide +kernel
theorem dX1_owing_20 : decode cX1_owing 20 = .ok (.iadd, 1) := by decide +kernel
theorem dX1_owing_21 : decode cX1_owing 21 = .ok (.iaload, 1) := by decide +kernel
theorem dX1_owing_22 : decode cX1_owing 22 = .ok (.ifCond .ge 7, 3) := by decide +kernel
theorem dX1_owing_25 : decode cX1_owing 25 = .ok (.iconst 1, 1) := by decide +kernel
theorem dX1_owing_26 : decode cX1_owing 26 = .ok (.goto 4, 3) := by decide +kernel
theorem dX1_owing_29 : decode cX1_owing 29 = .ok (.iconst 0, 1) := by decide +kernel
theorem dX1_owing_30 : decode cX1_owing 30 = .ok (.iadd, 1) := by decide +kernel
theorem dX1_owing_31 : decode cX1_owing 31 = .ok (.istore_n 1, 1) := by decide +kernel
theorem dX1_owing_32 : decode cX1_owing 32 = .ok (.iinc 2 1, 3) := by decide +kernel
theorem dX1_owing_35 : decode cX1_owing 35 = .ok (.goto (-31), 3) := by decide +kernel
theorem dX1_owing_38 : decode cX1_owing 38 = .ok (.iload_n 1, 1) := by decide +kernel
theorem dX1_owing_39 : decode cX1_owing 39 = .ok (.ireturn, 1) := by decide +kernel
theorem dX1_inDebt_0 : decode cX1_inDebt 0 = .ok (.aload_n 0, 1) := by decide +kernel
theorem dX1_inDebt_1 : decode cX1_inDebt 1 = .ok (.aload_n 0, 1) := by decide +kernel
theorem dX1_inDebt_2 : decode cX1_inDebt 2 = .ok (.invokevirtual 112, 3) := by decide +kernel
theorem dX1_inDebt_5 : decode cX1_inDebt 5 = .ok (.invokevirtual 88, 3) := by decide +kernel
theorem dX1_inDebt_8 : decode cX1_inDebt 8 = .ok (.ireturn, 1) := by decide +kernel
theorem dX1_closing_0 : decode cX1_closing 0 = .ok (.aload_n 0, 1) := by decide +kernel
theorem dX1_closing_1 : decode cX1_closing 1 = .ok (.iload_n 1, 1) := by decide +kernel
theorem dX1_closing_2 : decode cX1_closing 2 = .ok (.aload_n 0, 1) := by decide +kernel
theorem dX1_closing_3 : decode cX1_closing 3 = .ok (.iload_n 1, 1) := by decide +kernel
theorem dX1_closing_4 : decode cX1_closing 4 = .ok (.invokevirtual 91, 3) := by decide +kernel
theorem dX1_closing_7 : decode cX1_closing 7 = .ok (.iconst 1, 1) := by decide +kernel
theorem dX1_closing_8 : decode cX1_closing 8 = .ok (.isub, 1) := by decide +kernel
theorem dX1_closing_9 : decode cX1_closing 9 = .ok (.invokevirtual 58, 3) := by decide +kernel
theorem dX1_closing_12 : decode cX1_closing 12 = .ok (.ireturn, 1) := by decide +kernel
theorem dX1_closingPrice_0 : decode cX1_closingPrice 0 = .ok (.aload_n 0, 1) := by decide +kernel
theorem dX1_closingPrice_1 : decode cX1_closingPrice 1 = .ok (.iconst 0, 1) := by decide +kernel
theorem dX1_closingPrice_2 : decode cX1_closingPrice 2 = .ok (.putfield 25, 3) := by decide +kernel
theorem dX1_closingPrice_5 : decode cX1_closingPrice 5 = .ok (.aload_n 0, 1) := by decide +kernel
theorem dX1_closingPrice_6 : decode cX1_closingPrice 6 = .ok (.iload_n 1, 1) := by decide +kernel
theorem dX1_closingPrice_7 : decode cX1_closingPrice 7 = .ok (.invokevirtual 75, 3) := by decide +kernel
theorem dX1_closingPrice_10 : decode cX1_closingPrice 10 = .ok (.ifCond .eq 11, 3) := by decide +kernel
theorem dX1_closingPrice_13 : decode cX1_closingPrice 13 = .ok (.aload_n 0, 1) := by decide +kernel
theorem dX1_closingPrice_14 : decode cX1_closingPrice 14 = .ok (.iload_n 1, 1) := by decide +kernel
theorem dX1_closingPrice_15 : decode cX1_closingPrice 15 = .ok (.invokevirtual 115, 3) := by decide +kernel
theorem dX1_closingPrice_18 : decode cX1_closingPrice 18 = .ok (.goto 8, 3) := by decide +kernel
theorem dX1_closingPrice_21 : decode cX1_closingPrice 21 = .ok (.aload_n 0, 1) := by decide +kernel
theorem dX1_closingPrice_22 : decode cX1_closingPrice 22 = .ok (.iconst 1, 1) := by decide +kernel
theorem dX1_closingPrice_23 : decode cX1_closingPrice 23 = .ok (.invokevirtual 68, 3) := by decide +kernel
theorem dX1_closingPrice_26 : decode cX1_closingPrice 26 = .ok (.ireturn, 1) := by decide +kernel
theorem dX1_priceIn_0 : decode cX1_priceIn 0 = .ok (.aload_n 0, 1) := by decide +kernel
theorem dX1_priceIn_1 : decode cX1_priceIn 1 = .ok (.iconst 0, 1) := by decide +kernel
theorem dX1_priceIn_2 : decode cX1_priceIn 2 = .ok (.putfield 25, 3) := by decide +kernel
theorem dX1_priceIn_5 : decode cX1_priceIn 5 = .ok (.aload_n 0, 1) := by decide +kernel
theorem dX1_priceIn_6 : decode cX1_priceIn 6 = .ok (.iload_n 1, 1) := by decide +kernel
theorem dX1_priceIn_7 : decode cX1_priceIn 7 = .ok (.invokevirtual 75, 3) := by decide +kernel
theorem dX1_priceIn_10 : decode cX1_priceIn 10 = .ok (.ifCond .ne 9, 3) := by decide +kernel
theorem dX1_priceIn_13 : decode cX1_priceIn 13 = .ok (.aload_n 0, 1) := by decide +kernel
theorem dX1_priceIn_14 : decode cX1_priceIn 14 = .ok (.iconst 1, 1) := by decide +kernel
theorem dX1_priceIn_15 : decode cX1_priceIn 15 = .ok (.invokevirtual 68, 3) := by decide +kernel
theorem dX1_priceIn_18 : decode cX1_priceIn 18 = .ok (.ireturn, 1) := by decide +kernel
theorem dX1_priceIn_19 : decode cX1_priceIn 19 = .ok (.iload_n 2, 1) := by decide +kernel
theorem dX1_priceIn_20 : decode cX1_priceIn 20 = .ok (.iconst 1, 1) := by decide +kernel
theorem dX1_priceIn_21 : decode cX1_priceIn 21 = .ok (.bipush 60, 2) := by decide +kernel
theorem dX1_priceIn_23 : decode cX1_priceIn 23 = .ok (.invokestatic 32, 3) := by decide +kernel
theorem dX1_priceIn_26 : decode cX1_priceIn 26 = .ok (.ifCond .ne 9, 3) := by decide +kernel
theorem dX1_priceIn_29 : decode cX1_priceIn 29 = .ok (.aload_n 0, 1) := by decide +kernel
theorem dX1_priceIn_30 : decode cX1_priceIn 30 = .ok (.iconst 2, 1) := by decide +kernel
theorem dX1_priceIn_31 : decode cX1_priceIn 31 = .ok (.invokevirtual 68, 3) := by decide +kernel
theorem dX1_priceIn_34 : decode cX1_priceIn 34 = .ok (.ireturn, 1) := by decide +kernel
theorem dX1_priceIn_35 : decode cX1_priceIn 35 = .ok (.aload_n 0, 1) := by decide +kernel
theorem dX1_priceIn_36 : decode cX1_priceIn 36 = .ok (.invokevirtual 118, 3) := by decide +kernel
theorem dX1_priceIn_39 : decode cX1_priceIn 39 = .ok (.aload_n 0, 1) := by decide +kernel
theorem dX1_priceIn_40 : decode cX1_priceIn 40 = .ok (.iload_n 2, 1) := by decide +kernel
theorem dX1_priceIn_41 : decode cX1_priceIn 41 = .ok (.invokevirtual 85, 3) := by decide +kernel
theorem dX1_priceIn_44 : decode cX1_priceIn 44 = .ok (.pop, 1) := by decide +kernel
theorem dX1_priceIn_45 : decode cX1_priceIn 45 = .ok (.aload_n 0, 1) := by decide +kernel
theorem dX1_priceIn_46 : decode cX1_priceIn 46 = .ok (.iload_n 1, 1) := by decide +kernel
theorem dX1_priceIn_47 : decode cX1_priceIn 47 = .ok (.invokevirtual 61, 3) := by decide +kernel
theorem dX1_priceIn_50 : decode cX1_priceIn 50 = .ok (.istore_n 3, 1) := by decide +kernel
theorem dX1_priceIn_51 : decode cX1_priceIn 51 = .ok (.aload_n 0, 1) := by decide +kernel
theorem dX1_priceIn_52 : decode cX1_priceIn 52 = .ok (.invokevirtual 121, 3) := by decide +kernel
theorem dX1_priceIn_55 : decode cX1_priceIn 55 = .ok (.iload_n 3, 1) := by decide +kernel
theorem dX1_priceIn_56 : decode cX1_priceIn 56 = .ok (.ireturn, 1) := by decide +kernel
theorem dX1_worthIn_0 : decode cX1_worthIn 0 = .ok (.aload_n 0, 1) := by decide +kernel
theorem dX1_worthIn_1 : decode cX1_worthIn 1 = .ok (.iconst 0, 1) := by decide +kernel
theorem dX1_worthIn_2 : decode cX1_worthIn 2 = .ok (.putfield 25, 3) := by decide +kernel
theorem dX1_worthIn_5 : decode cX1_worthIn 5 = .ok (.aload_n 0, 1) := by decide +kernel
theorem dX1_worthIn_6 : decode cX1_worthIn 6 = .ok (.iload_n 1, 1) := by decide +kernel
theorem dX1_worthIn_7 : decode cX1_worthIn 7 = .ok (.invokevirtual 71, 3) := by decide +kernel
theorem dX1_worthIn_10 : decode cX1_worthIn 10 = .ok (.ifCond .ne 9, 3) := by decide +kernel
theorem dX1_worthIn_13 : decode cX1_worthIn 13 = .ok (.aload_n 0, 1) := by decide +kernel
theorem dX1_worthIn_14 : decode cX1_worthIn 14 = .ok (.iconst 1, 1) := by decide +kernel
theorem dX1_worthIn_15 : decode cX1_worthIn 15 = .ok (.invokevirtual 68, 3) := by decide +kernel
theorem dX1_worthIn_18 : decode cX1_worthIn 18 = .ok (.ireturn, 1) := by decide +kernel
theorem dX1_worthIn_19 : decode cX1_worthIn 19 = .ok (.iload_n 2, 1) := by decide +kernel
theorem dX1_worthIn_20 : decode cX1_worthIn 20 = .ok (.iconst 1, 1) := by decide +kernel
theorem dX1_worthIn_21 : decode cX1_worthIn 21 = .ok (.bipush 60, 2) := by decide +kernel
theorem dX1_worthIn_23 : decode cX1_worthIn 23 = .ok (.invokestatic 32, 3) := by decide +kernel
theorem dX1_worthIn_26 : decode cX1_worthIn 26 = .ok (.ifCond .ne 9, 3) := by decide +kernel
theorem dX1_worthIn_29 : decode cX1_worthIn 29 = .ok (.aload_n 0, 1) := by decide +kernel
theorem dX1_worthIn_30 : decode cX1_worthIn 30 = .ok (.iconst 2, 1) := by decide +kernel
theorem dX1_worthIn_31 : decode cX1_worthIn 31 = .ok (.invokevirtual 68, 3) := by decide +kernel
theorem dX1_worthIn_34 : decode cX1_worthIn 34 = .ok (.ireturn, 1) := by decide +kernel
theorem dX1_worthIn_35 : decode cX1_worthIn 35 = .ok (.aload_n 0, 1) := by decide +kernel
theorem dX1_worthIn_36 : decode cX1_worthIn 36 = .ok (.invokevirtual 118, 3) := by decide +kernel
theorem dX1_worthIn_39 : decode cX1_worthIn 39 = .ok (.aload_n 0, 1) := by decide +kernel
theorem dX1_worthIn_40 : decode cX1_worthIn 40 = .ok (.iload_n 2, 1) := by decide +kernel
theorem dX1_worthIn_41 : decode cX1_worthIn 41 = .ok (.invokevirtual 85, 3) := by decide +kernel
theorem dX1_worthIn_44 : decode cX1_worthIn 44 = .ok (.pop, 1) := by decide +kernel
theorem dX1_worthIn_45 : decode cX1_worthIn 45 = .ok (.aload_n 0, 1) := by decide +kernel
theorem dX1_worthIn_46 : decode cX1_worthIn 46 = .ok (.iload_n 1, 1) := by decide +kernel
theorem dX1_worthIn_47 : decode cX1_worthIn 47 = .ok (.invokevirtual 103, 3) := by decide +kernel
theorem dX1_worthIn_50 : decode cX1_worthIn 50 = .ok (.istore_n 3, 1) := by decide +kernel
theorem dX1_worthIn_51 : decode cX1_worthIn 51 = .ok (.aload_n 0, 1) := by decide +kernel
theorem dX1_worthIn_52 : decode cX1_worthIn 52 = .ok (.invokevirtual 121, 3) := by decide +kernel
theorem dX1_worthIn_55 : decode cX1_worthIn 55 = .ok (.iload_n 3, 1) := by decide +kernel
theorem dX1_worthIn_56 : decode cX1_worthIn 56 = .ok (.ireturn, 1) := by decide +kernel
theorem dX1_toBuy_0 : decode cX1_toBuy 0 = .ok (.iconst (-1), 1) := by decide +kernel
theorem dX1_toBuy_1 : decode cX1_toBuy 1 = .ok (.istore_n 1, 1) := by decide +kernel
theorem dX1_toBuy_2 : decode cX1_toBuy 2 = .ok (.iconst 0, 1) := by decide +kernel
theorem dX1_toBuy_3 : decode cX1_toBuy 3 = .ok (.istore_n 2, 1) := by decide +kernel
theorem dX1_toBuy_4 : decode cX1_toBuy 4 = .ok (.iconst 0, 1) := by decide +kernel
theorem dX1_toBuy_5 : decode cX1_toBuy 5 = .ok (.istore_n 3, 1) := by decide +kernel
theorem dX1_toBuy_6 : decode cX1_toBuy 6 = .ok (.iload_n 3, 1) := by decide +kernel
theorem dX1_toBuy_7 : decode cX1_toBuy 7 = .ok (.aload_n 0, 1) := by decide +kernel
theorem dX1_toBuy_8 : decode cX1_toBuy 8 = .ok (.getfield 29, 3) := by decide +kernel
theorem dX1_toBuy_11 : decode cX1_toBuy 11 = .ok (.if_icmp .ge 36, 3) := by decide +kernel
theorem dX1_toBuy_14 : decode cX1_toBuy 14 = .ok (.aload_n 0, 1) := by decide +kernel
theorem dX1_toBuy_15 : decode cX1_toBuy 15 = .ok (.iload_n 3, 1) := by decide +kernel
theorem dX1_toBuy_16 : decode cX1_toBuy 16 = .ok (.invokevirtual 115, 3) := by decide +kernel
theorem dX1_toBuy_19 : decode cX1_toBuy 19 = .ok (.aload_n 0, 1) := by decide +kernel
theorem dX1_toBuy_20 : decode cX1_toBuy 20 = .ok (.iload_n 3, 1) := by decide +kernel
theorem dX1_toBuy_21 : decode cX1_toBuy 21 = .ok (.invokevirtual 61, 3) := by decide +kernel
theorem dX1_toBuy_24 : decode cX1_toBuy 24 = .ok (.isub, 1) := by decide +kernel
theorem dX1_toBuy_25 : decode cX1_toBuy 25 = .ok (.istore 4, 2) := by decide +kernel
theorem dX1_toBuy_27 : decode cX1_toBuy 27 = .ok (.iload 4, 2) := by decide +kernel
theorem dX1_toBuy_29 : decode cX1_toBuy 29 = .ok (.iload_n 2, 1) := by decide +kernel
theorem dX1_toBuy_30 : decode cX1_toBuy 30 = .ok (.if_icmp .gt 6, 3) := by decide +kernel
theorem dX1_toBuy_33 : decode cX1_toBuy 33 = .ok (.goto 8, 3) := by decide +kernel
theorem dX1_toBuy_36 : decode cX1_toBuy 36 = .ok (.iload_n 3, 1) := by decide +kernel
theorem dX1_toBuy_37 : decode cX1_toBuy 37 = .ok (.istore_n 1, 1) := by decide +kernel
theorem dX1_toBuy_38 : decode cX1_toBuy 38 = .ok (.iload 4, 2) := by decide +kernel
theorem dX1_toBuy_40 : decode cX1_toBuy 40 = .ok (.istore_n 2, 1) := by decide +kernel
theorem dX1_toBuy_41 : decode cX1_toBuy 41 = .ok (.iinc 3 1, 3) := by decide +kernel
theorem dX1_toBuy_44 : decode cX1_toBuy 44 = .ok (.goto (-38), 3) := by decide +kernel
theorem dX1_toBuy_47 : decode cX1_toBuy 47 = .ok (.iload_n 1, 1) := by decide +kernel
theorem dX1_toBuy_48 : decode cX1_toBuy 48 = .ok (.ireturn, 1) := by decide +kernel
theorem dX1_bestToBuy_0 : decode cX1_bestToBuy 0 = .ok (.aload_n 0, 1) := by decide +kernel
theorem dX1_bestToBuy_1 : decode cX1_bestToBuy 1 = .ok (.aload_n 0, 1) := by decide +kernel
theorem dX1_bestToBuy_2 : decode cX1_bestToBuy 2 = .ok (.invokevirtual 124, 3) := by decide +kernel
theorem dX1_bestToBuy_5 : decode cX1_bestToBuy 5 = .ok (.invokevirtual 88, 3) := by decide +kernel
theorem dX1_bestToBuy_8 : decode cX1_bestToBuy 8 = .ok (.ireturn, 1) := by decide +kernel
theorem dX1_bestToSell_0 : decode cX1_bestToSell 0 = .ok (.aload_n 0, 1) := by decide +kernel
theorem dX1_bestToSell_1 : decode cX1_bestToSell 1 = .ok (.iconst 0, 1) := by decide +kernel
theorem dX1_bestToSell_2 : decode cX1_bestToSell 2 = .ok (.putfield 25, 3) := by decide +kernel
theorem dX1_bestToSell_5 : decode cX1_bestToSell 5 = .ok (.aload_n 0, 1) := by decide +kernel
theorem dX1_bestToSell_6 : decode cX1_bestToSell 6 = .ok (.iload_n 1, 1) := by decide +kernel
theorem dX1_bestToSell_7 : decode cX1_bestToSell 7 = .ok (.invokevirtual 71, 3) := by decide +kernel
theorem dX1_bestToSell_10 : decode cX1_bestToSell 10 = .ok (.ifCond .eq 11, 3) := by decide +kernel
theorem dX1_bestToSell_13 : decode cX1_bestToSell 13 = .ok (.aload_n 0, 1) := by decide +kernel
theorem dX1_bestToSell_14 : decode cX1_bestToSell 14 = .ok (.iload_n 2, 1) := by decide +kernel
theorem dX1_bestToSell_15 : decode cX1_bestToSell 15 = .ok (.invokevirtual 75, 3) := by decide +kernel
theorem dX1_bestToSell_18 : decode cX1_bestToSell 18 = .ok (.ifCond .ne 9, 3) := by decide +kernel
theorem dX1_bestToSell_21 : decode cX1_bestToSell 21 = .ok (.aload_n 0, 1) := by decide +kernel
theorem dX1_bestToSell_22 : decode cX1_bestToSell 22 = .ok (.iconst 1, 1) := by decide +kernel
theorem dX1_bestToSell_23 : decode cX1_bestToSell 23 = .ok (.invokevirtual 68, 3) := by decide +kernel
theorem dX1_bestToSell_26 : decode cX1_bestToSell 26 = .ok (.ireturn, 1) := by decide +kernel
theorem dX1_bestToSell_27 : decode cX1_bestToSell 27 = .ok (.aload_n 0, 1) := by decide +kernel
theorem dX1_bestToSell_28 : decode cX1_bestToSell 28 = .ok (.iload_n 2, 1) := by decide +kernel
theorem dX1_bestToSell_29 : decode cX1_bestToSell 29 = .ok (.invokevirtual 91, 3) := by decide +kernel
theorem dX1_bestToSell_32 : decode cX1_bestToSell 32 = .ok (.istore_n 3, 1) := by decide +kernel
theorem dX1_bestToSell_33 : decode cX1_bestToSell 33 = .ok (.bipush 9, 2) := by decide +kernel
theorem dX1_bestToSell_35 : decode cX1_bestToSell 35 = .ok (.aload_n 0, 1) := by decide +kernel
theorem dX1_bestToSell_36 : decode cX1_bestToSell 36 = .ok (.getfield 19, 3) := by decide +kernel
theorem dX1_bestToSell_39 : decode cX1_bestToSell 39 = .ok (.iload_n 1, 1) := by decide +kernel
theorem dX1_bestToSell_40 : decode cX1_bestToSell 40 = .ok (.iload_n 2, 1) := by decide +kernel
theorem dX1_bestToSell_41 : decode cX1_bestToSell 41 = .ok (.invokestatic 45, 3) := by decide +kernel
theorem dX1_bestToSell_44 : decode cX1_bestToSell 44 = .ok (.iaload, 1) := by decide +kernel
theorem dX1_bestToSell_45 : decode cX1_bestToSell 45 = .ok (.bipush 9, 2) := by decide +kernel
theorem dX1_bestToSell_47 : decode cX1_bestToSell 47 = .ok (.iadd, 1) := by decide +kernel
theorem dX1_bestToSell_48 : decode cX1_bestToSell 48 = .ok (.invokestatic 127, 3) := by decide +kernel
theorem dX1_bestToSell_51 : decode cX1_bestToSell 51 = .ok (.istore 4, 2) := by decide +kernel
theorem dX1_bestToSell_53 : decode cX1_bestToSell 53 = .ok (.iconst 0, 1) := by decide +kernel
theorem dX1_bestToSell_54 : decode cX1_bestToSell 54 = .ok (.istore 5, 2) := by decide +kernel
theorem dX1_bestToSell_56 : decode cX1_bestToSell 56 = .ok (.iconst 0, 1) := by decide +kernel
theorem dX1_bestToSell_57 : decode cX1_bestToSell 57 = .ok (.istore 6, 2) := by decide +kernel
theorem dX1_bestToSell_59 : decode cX1_bestToSell 59 = .ok (.aload_n 0, 1) := by decide +kernel
theorem dX1_bestToSell_60 : decode cX1_bestToSell 60 = .ok (.invokevirtual 118, 3) := by decide +kernel
theorem dX1_bestToSell_63 : decode cX1_bestToSell 63 = .ok (.iconst 0, 1) := by decide +kernel
theorem dX1_bestToSell_64 : decode cX1_bestToSell 64 = .ok (.istore 7, 2) := by decide +kernel
theorem dX1_bestToSell_66 : decode cX1_bestToSell 66 = .ok (.iload 7, 2) := by decide +kernel
theorem dX1_bestToSell_68 : decode cX1_bestToSell 68 = .ok (.iload 4, 2) := by decide +kernel
theorem dX1_bestToSell_70 : decode cX1_bestToSell 70 = .ok (.if_icmp .gt 58, 3) := by decide +kernel
theorem dX1_bestToSell_73 : decode cX1_bestToSell 73 = .ok (.aload_n 0, 1) := by decide +kernel
theorem dX1_bestToSell_74 : decode cX1_bestToSell 74 = .ok (.iload_n 1, 1) := by decide +kernel
theorem dX1_bestToSell_75 : decode cX1_bestToSell 75 = .ok (.iload_n 2, 1) := by decide +kernel
theorem dX1_bestToSell_76 : decode cX1_bestToSell 76 = .ok (.iload 7, 2) := by decide +kernel
theorem dX1_bestToSell_78 : decode cX1_bestToSell 78 = .ok (.invokevirtual 81, 3) := by decide +kernel
theorem dX1_bestToSell_81 : decode cX1_bestToSell 81 = .ok (.pop, 1) := by decide +kernel
theorem dX1_bestToSell_82 : decode cX1_bestToSell 82 = .ok (.aload_n 0, 1) := by decide +kernel
theorem dX1_bestToSell_83 : decode cX1_bestToSell 83 = .ok (.iload_n 3, 1) := by decide +kernel
theorem dX1_bestToSell_84 : decode cX1_bestToSell 84 = .ok (.invokevirtual 85, 3) := by decide +kernel
theorem dX1_bestToSell_87 : decode cX1_bestToSell 87 = .ok (.pop, 1) := by decide +kernel
theorem dX1_bestToSell_88 : decode cX1_bestToSell 88 = .ok (.aload_n 0, 1) := by decide +kernel
theorem dX1_bestToSell_89 : decode cX1_bestToSell 89 = .ok (.iload_n 1, 1) := by decide +kernel
theorem dX1_bestToSell_90 : decode cX1_bestToSell 90 = .ok (.invokevirtual 103, 3) := by decide +kernel
theorem dX1_bestToSell_93 : decode cX1_bestToSell 93 = .ok (.istore 8, 2) := by decide +kernel
theorem dX1_bestToSell_95 : decode cX1_bestToSell 95 = .ok (.aload_n 0, 1) := by decide +kernel
theorem dX1_bestToSell_96 : decode cX1_bestToSell 96 = .ok (.invokevirtual 121, 3) := by decide +kernel
theorem dX1_bestToSell_99 : decode cX1_bestToSell 99 = .ok (.iload 7, 2) := by decide +kernel
theorem dX1_bestToSell_101 : decode cX1_bestToSell 101 = .ok (.ifCond .le 13, 3) := by decide +kernel
theorem dX1_bestToSell_104 : decode cX1_bestToSell 104 = .ok (.iload 8, 2) := by decide +kernel
theorem dX1_bestToSell_106 : decode cX1_bestToSell 106 = .ok (.iload 6, 2) := by decide +kernel
theorem dX1_bestToSell_108 : decode cX1_bestToSell 108 = .ok (.if_icmp .gt 6, 3) := by decide +kernel
theorem dX1_bestToSell_111 : decode cX1_bestToSell 111 = .ok (.goto 11, 3) := by decide +kernel
theorem dX1_bestToSell_114 : decode cX1_bestToSell 114 = .ok (.iload 7, 2) := by decide +kernel
theorem dX1_bestToSell_116 : decode cX1_bestToSell 116 = .ok (.istore 5, 2) := by decide +kernel
theorem dX1_bestToSell_118 : decode cX1_bestToSell 118 = .ok (.iload 8, 2) := by decide +kernel
theorem dX1_bestToSell_120 : decode cX1_bestToSell 120 = .ok (.istore 6, 2) := by decide +kernel
theorem dX1_bestToSell_122 : decode cX1_bestToSell 122 = .ok (.iinc 7 1, 3) := by decide +kernel
theorem dX1_bestToSell_125 : decode cX1_bestToSell 125 = .ok (.goto (-59), 3) := by decide +kernel
theorem dX1_bestToSell_128 : decode cX1_bestToSell 128 = .ok (.iload 5, 2) := by decide +kernel
theorem dX1_bestToSell_130 : decode cX1_bestToSell 130 = .ok (.ireturn, 1) := by decide +kernel
theorem dX1_secondsUntilDebt_0 : decode cX1_secondsUntilDebt 0 = .ok (.aload_n 0, 1) := by decide +kernel
theorem dX1_secondsUntilDebt_1 : decode cX1_secondsUntilDebt 1 = .ok (.iconst 0, 1) := by decide +kernel
theorem dX1_secondsUntilDebt_2 : decode cX1_secondsUntilDebt 2 = .ok (.putfield 25, 3) := by decide +kernel
theorem dX1_secondsUntilDebt_5 : decode cX1_secondsUntilDebt 5 = .ok (.aload_n 0, 1) := by decide +kernel
theorem dX1_secondsUntilDebt_6 : decode cX1_secondsUntilDebt 6 = .ok (.iload_n 1, 1) := by decide +kernel
theorem dX1_secondsUntilDebt_7 : decode cX1_secondsUntilDebt 7 = .ok (.invokevirtual 71, 3) := by decide +kernel
theorem dX1_secondsUntilDebt_10 : decode cX1_secondsUntilDebt 10 = .ok (.ifCond .ne 9, 3) := by decide +kernel
theorem dX1_secondsUntilDebt_13 : decode cX1_secondsUntilDebt 13 = .ok (.aload_n 0, 1) := by decide +kernel
theorem dX1_secondsUntilDebt_14 : decode cX1_secondsUntilDebt 14 = .ok (.iconst 1, 1) := by decide +kernel
theorem dX1_secondsUntilDebt_15 : decode cX1_secondsUntilDebt 15 = .ok (.invokevirtual 68, 3) := by decide +kernel
theorem dX1_secondsUntilDebt_18 : decode cX1_secondsUntilDebt 18 = .ok (.ireturn, 1) := by decide +kernel
theorem dX1_secondsUntilDebt_19 : decode cX1_secondsUntilDebt 19 = .ok (.aload_n 0, 1) := by decide +kernel
theorem dX1_secondsUntilDebt_20 : decode cX1_secondsUntilDebt 20 = .ok (.invokevirtual 118, 3) := by decide +kernel
theorem dX1_secondsUntilDebt_23 : decode cX1_secondsUntilDebt 23 = .ok (.iconst 0, 1) := by decide +kernel
theorem dX1_secondsUntilDebt_24 : decode cX1_secondsUntilDebt 24 = .ok (.istore_n 2, 1) := by decide +kernel
theorem dX1_secondsUntilDebt_25 : decode cX1_secondsUntilDebt 25 = .ok (.iload_n 2, 1) := by decide +kernel
theorem dX1_secondsUntilDebt_26 : decode cX1_secondsUntilDebt 26 = .ok (.bipush 100, 2) := by decide +kernel
theorem dX1_secondsUntilDebt_28 : decode cX1_secondsUntilDebt 28 = .ok (.if_icmp .gt 26, 3) := by decide +kernel
theorem dX1_secondsUntilDebt_31 : decode cX1_secondsUntilDebt 31 = .ok (.aload_n 0, 1) := by decide +kernel
theorem dX1_secondsUntilDebt_32 : decode cX1_secondsUntilDebt 32 = .ok (.getfield 19, 3) := by decide +kernel
theorem dX1_secondsUntilDebt_35 : decode cX1_secondsUntilDebt 35 = .ok (.bipush 17, 2) := by decide +kernel
theorem dX1_secondsUntilDebt_37 : decode cX1_secondsUntilDebt 37 = .ok (.iload_n 1, 1) := by decide +kernel
theorem dX1_secondsUntilDebt_38 : decode cX1_secondsUntilDebt 38 = .ok (.iadd, 1) := by decide +kernel
theorem dX1_secondsUntilDebt_39 : decode cX1_secondsUntilDebt 39 = .ok (.iaload, 1) := by decide +kernel
theorem dX1_secondsUntilDebt_40 : decode cX1_secondsUntilDebt 40 = .ok (.ifCond .lt 14, 3) := by decide +kernel
theorem dX1_secondsUntilDebt_43 : decode cX1_secondsUntilDebt 43 = .ok (.aload_n 0, 1) := by decide +kernel
theorem dX1_secondsUntilDebt_44 : decode cX1_secondsUntilDebt 44 = .ok (.invokevirtual 64, 3) := by decide +kernel
theorem dX1_secondsUntilDebt_47 : decode cX1_secondsUntilDebt 47 = .ok (.pop, 1) := by decide +kernel
theorem dX1_secondsUntilDebt_48 : decode cX1_secondsUntilDebt 48 = .ok (.iinc 2 1, 3) := by decide +kernel
theorem dX1_secondsUntilDebt_51 : decode cX1_secondsUntilDebt 51 = .ok (.goto (-26), 3) := by decide +kernel
theorem dX1_secondsUntilDebt_54 : decode cX1_secondsUntilDebt 54 = .ok (.aload_n 0, 1) := by decide +kernel
theorem dX1_secondsUntilDebt_55 : decode cX1_secondsUntilDebt 55 = .ok (.invokevirtual 121, 3) := by decide +kernel
theorem dX1_secondsUntilDebt_58 : decode cX1_secondsUntilDebt 58 = .ok (.iload_n 2, 1) := by decide +kernel
theorem dX1_secondsUntilDebt_59 : decode cX1_secondsUntilDebt 59 = .ok (.bipush 100, 2) := by decide +kernel
theorem dX1_secondsUntilDebt_61 : decode cX1_secondsUntilDebt 61 = .ok (.if_icmp .le 7, 3) := by decide +kernel
theorem dX1_secondsUntilDebt_64 : decode cX1_secondsUntilDebt 64 = .ok (.iconst (-1), 1) := by decide +kernel
theorem dX1_secondsUntilDebt_65 : decode cX1_secondsUntilDebt 65 = .ok (.goto 4, 3) := by decide +kernel
theorem dX1_secondsUntilDebt_68 : decode cX1_secondsUntilDebt 68 = .ok (.iload_n 2, 1) := by decide +kernel
theorem dX1_secondsUntilDebt_69 : decode cX1_secondsUntilDebt 69 = .ok (.ireturn, 1) := by decide +kernel
theorem dX1_meanPrice_0 : decode cX1_meanPrice 0 = .ok (.aload_n 0, 1) := by decide +kernel
theorem dX1_meanPrice_1 : decode cX1_meanPrice 1 = .ok (.iconst 0, 1) := by decide +kernel
theorem dX1_meanPrice_2 : decode cX1_meanPrice 2 = .ok (.putfield 25, 3) := by decide +kernel
theorem dX1_meanPrice_5 : decode cX1_meanPrice 5 = .ok (.iconst 0, 1) := by decide +kernel
theorem dX1_meanPrice_6 : decode cX1_meanPrice 6 = .ok (.istore_n 1, 1) := by decide +kernel
theorem dX1_meanPrice_7 : decode cX1_meanPrice 7 = .ok (.iconst 0, 1) := by decide +kernel
theorem dX1_meanPrice_8 : decode cX1_meanPrice 8 = .ok (.istore_n 2, 1) := by decide +kernel
theorem dX1_meanPrice_9 : decode cX1_meanPrice 9 = .ok (.iload_n 2, 1) := by decide +kernel
theorem dX1_meanPrice_10 : decode cX1_meanPrice 10 = .ok (.aload_n 0, 1) := by decide +kernel
theorem dX1_meanPrice_11 : decode cX1_meanPrice 11 = .ok (.getfield 29, 3) := by decide +kernel
theorem dX1_meanPrice_14 : decode cX1_meanPrice 14 = .ok (.if_icmp .ge 17, 3) := by decide +kernel
theorem dX1_meanPrice_17 : decode cX1_meanPrice 17 = .ok (.iload_n 1, 1) := by decide +kernel
theorem dX1_meanPrice_18 : decode cX1_meanPrice 18 = .ok (.aload_n 0, 1) := by decide +kernel
theorem dX1_meanPrice_19 : decode cX1_meanPrice 19 = .ok (.iload_n 2, 1) := by decide +kernel
theorem dX1_meanPrice_20 : decode cX1_meanPrice 20 = .ok (.invokevirtual 61, 3) := by decide +kernel
theorem dX1_meanPrice_23 : decode cX1_meanPrice 23 = .ok (.iadd, 1) := by decide +kernel
theorem dX1_meanPrice_24 : decode cX1_meanPrice 24 = .ok (.istore_n 1, 1) := by decide +kernel
theorem dX1_meanPrice_25 : decode cX1_meanPrice 25 = .ok (.iinc 2 1, 3) := by decide +kernel
theorem dX1_meanPrice_28 : decode cX1_meanPrice 28 = .ok (.goto (-19), 3) := by decide +kernel
theorem dX1_meanPrice_31 : decode cX1_meanPrice 31 = .ok (.aload_n 0, 1) := by decide +kernel
theorem dX1_meanPrice_32 : decode cX1_meanPrice 32 = .ok (.getfield 29, 3) := by decide +kernel
theorem dX1_meanPrice_35 : decode cX1_meanPrice 35 = .ok (.ifCond .ne 7, 3) := by decide +kernel
theorem dX1_meanPrice_38 : decode cX1_meanPrice 38 = .ok (.dconst 0, 1) := by decide +kernel
theorem dX1_meanPrice_39 : decode cX1_meanPrice 39 = .ok (.goto 11, 3) := by decide +kernel
theorem dX1_meanPrice_42 : decode cX1_meanPrice 42 = .ok (.iload_n 1, 1) := by decide +kernel
theorem dX1_meanPrice_43 : decode cX1_meanPrice 43 = .ok (.i2d, 1) := by decide +kernel
theorem dX1_meanPrice_44 : decode cX1_meanPrice 44 = .ok (.aload_n 0, 1) := by decide +kernel
theorem dX1_meanPrice_45 : decode cX1_meanPrice 45 = .ok (.getfield 29, 3) := by decide +kernel
theorem dX1_meanPrice_48 : decode cX1_meanPrice 48 = .ok (.i2d, 1) := by decide +kernel
theorem dX1_meanPrice_49 : decode cX1_meanPrice 49 = .ok (.ddiv, 1) := by decide +kernel
theorem dX1_meanPrice_50 : decode cX1_meanPrice 50 = .ok (.dreturn, 1) := by decide +kernel
theorem dX1_digest_0 : decode cX1_digest 0 = .ok (.aload_n 0, 1) := by decide +kernel
theorem dX1_digest_1 : decode cX1_digest 1 = .ok (.iconst 0, 1) := by decide +kernel
theorem dX1_digest_2 : decode cX1_digest 2 = .ok (.putfield 25, 3) := by decide +kernel
theorem dX1_digest_5 : decode cX1_digest 5 = .ok (.bipush 8, 2) := by decide +kernel
theorem dX1_digest_7 : decode cX1_digest 7 = .ok (.newarray .int, 2) := by decide +kernel
theorem dX1_digest_9 : decode cX1_digest 9 = .ok (.dup, 1) := by decide +kernel
theorem dX1_digest_10 : decode cX1_digest 10 = .ok (.iconst 0, 1) := by decide +kernel
theorem dX1_digest_11 : decode cX1_digest 11 = .ok (.aload_n 0, 1) := by decide +kernel
theorem dX1_digest_12 : decode cX1_digest 12 = .ok (.getfield 19, 3) := by decide +kernel
theorem dX1_digest_15 : decode cX1_digest 15 = .ok (.iconst 0, 1) := by decide +kernel
theorem dX1_digest_16 : decode cX1_digest 16 = .ok (.iaload, 1) := by decide +kernel
theorem dX1_digest_17 : decode cX1_digest 17 = .ok (.iastore, 1) := by decide +kernel
theorem dX1_digest_18 : decode cX1_digest 18 = .ok (.dup, 1) := by decide +kernel
theorem dX1_digest_19 : decode cX1_digest 19 = .ok (.iconst 1, 1) := by decide +kernel
theorem dX1_digest_20 : decode cX1_digest 20 = .ok (.aload_n 0, 1) := by decide +kernel
theorem dX1_digest_21 : decode cX1_digest 21 = .ok (.getfield 29, 3) := by decide +kernel
theorem dX1_digest_24 : decode cX1_digest 24 = .ok (.iastore, 1) := by decide +kernel
theorem dX1_digest_25 : decode cX1_digest 25 = .ok (.dup, 1) := by decide +kernel
theorem dX1_digest_26 : decode cX1_digest 26 = .ok (.iconst 2, 1) := by decide +kernel
theorem dX1_digest_27 : decode cX1_digest 27 = .ok (.aload_n 0, 1) := by decide +kernel
theorem dX1_digest_28 : decode cX1_digest 28 = .ok (.getfield 36, 3) := by decide +kernel
theorem dX1_digest_31 : decode cX1_digest 31 = .ok (.iastore, 1) := by decide +kernel
theorem dX1_digest_32 : decode cX1_digest 32 = .ok (.dup, 1) := by decide +kernel
theorem dX1_digest_33 : decode cX1_digest 33 = .ok (.iconst 3, 1) := by decide +kernel
theorem dX1_digest_34 : decode cX1_digest 34 = .ok (.aload_n 0, 1) := by decide +kernel
theorem dX1_digest_35 : decode cX1_digest 35 = .ok (.invokevirtual 97, 3) := by decide +kernel
theorem dX1_digest_38 : decode cX1_digest 38 = .ok (.iastore, 1) := by decide +kernel
theorem dX1_digest_39 : decode cX1_digest 39 = .ok (.dup, 1) := by decide +kernel
theorem dX1_digest_40 : decode cX1_digest 40 = .ok (.iconst 4, 1) := by decide +kernel
theorem dX1_digest_41 : decode cX1_digest 41 = .ok (.aload_n 0, 1) := by decide +kernel
theorem dX1_digest_42 : decode cX1_digest 42 = .ok (.invokevirtual 100, 3) := by decide +kernel
theorem dX1_digest_45 : decode cX1_digest 45 = .ok (.iastore, 1) := by decide +kernel
theorem dX1_digest_46 : decode cX1_digest 46 = .ok (.dup, 1) := by decide +kernel
theorem dX1_digest_47 : decode cX1_digest 47 = .ok (.iconst 5, 1) := by decide +kernel
theorem dX1_digest_48 : decode cX1_digest 48 = .ok (.aload_n 0, 1) := by decide +kernel
theorem dX1_digest_49 : decode cX1_digest 49 = .ok (.invokevirtual 106, 3) := by decide +kernel
theorem dX1_digest_52 : decode cX1_digest 52 = .ok (.iastore, 1) := by decide +kernel
theorem dX1_digest_53 : decode cX1_digest 53 = .ok (.dup, 1) := by decide +kernel
theorem dX1_digest_54 : decode cX1_digest 54 = .ok (.bipush 6, 2) := by decide +kernel
theorem dX1_digest_56 : decode cX1_digest 56 = .ok (.aload_n 0, 1) := by decide +kernel
theorem dX1_digest_57 : decode cX1_digest 57 = .ok (.invokevirtual 112, 3) := by decide +kernel
theorem dX1_digest_60 : decode cX1_digest 60 = .ok (.iastore, 1) := by decide +kernel
theorem dX1_digest_61 : decode cX1_digest 61 = .ok (.dup, 1) := by decide +kernel
theorem dX1_digest_62 : decode cX1_digest 62 = .ok (.bipush 7, 2) := by decide +kernel
theorem dX1_digest_64 : decode cX1_digest 64 = .ok (.aload_n 0, 1) := by decide +kernel
theorem dX1_digest_65 : decode cX1_digest 65 = .ok (.invokevirtual 124, 3) := by decide +kernel
theorem dX1_digest_68 : decode cX1_digest 68 = .ok (.iastore, 1) := by decide +kernel
theorem dX1_digest_69 : decode cX1_digest 69 = .ok (.astore_n 1, 1) := by decide +kernel
theorem dX1_digest_70 : decode cX1_digest 70 = .ok (.ldc2_w 130, 3) := by decide +kernel
theorem dX1_digest_73 : decode cX1_digest 73 = .ok (.lstore_n 2, 1) := by decide +kernel
theorem dX1_digest_74 : decode cX1_digest 74 = .ok (.aload_n 1, 1) := by decide +kernel
theorem dX1_digest_75 : decode cX1_digest 75 = .ok (.astore 4, 2) := by decide +kernel
theorem dX1_digest_77 : decode cX1_digest 77 = .ok (.aload 4, 2) := by decide +kernel
theorem dX1_digest_79 : decode cX1_digest 79 = .ok (.arraylength, 1) := by decide +kernel
theorem dX1_digest_80 : decode cX1_digest 80 = .ok (.istore 5, 2) := by decide +kernel
theorem dX1_digest_82 : decode cX1_digest 82 = .ok (.iconst 0, 1) := by decide +kernel
theorem dX1_digest_83 : decode cX1_digest 83 = .ok (.istore 6, 2) := by decide +kernel
theorem dX1_digest_85 : decode cX1_digest 85 = .ok (.iload 6, 2) := by decide +kernel
theorem dX1_digest_87 : decode cX1_digest 87 = .ok (.iload 5, 2) := by decide +kernel
theorem dX1_digest_89 : decode cX1_digest 89 = .ok (.if_icmp .ge 26, 3) := by decide +kernel
theorem dX1_digest_92 : decode cX1_digest 92 = .ok (.aload 4, 2) := by decide +kernel
theorem dX1_digest_94 : decode cX1_digest 94 = .ok (.iload 6, 2) := by decide +kernel
theorem dX1_digest_96 : decode cX1_digest 96 = .ok (.iaload, 1) := by decide +kernel
theorem dX1_digest_97 : decode cX1_digest 97 = .ok (.istore 7, 2) := by decide +kernel
theorem dX1_digest_99 : decode cX1_digest 99 = .ok (.lload_n 2, 1) := by decide +kernel
theorem dX1_digest_100 : decode cX1_digest 100 = .ok (.ldc2_w 132, 3) := by decide +kernel
theorem dX1_digest_103 : decode cX1_digest 103 = .ok (.lmul, 1) := by decide +kernel
theorem dX1_digest_104 : decode cX1_digest 104 = .ok (.iload 7, 2) := by decide +kernel
theorem dX1_digest_106 : decode cX1_digest 106 = .ok (.i2l, 1) := by decide +kernel
theorem dX1_digest_107 : decode cX1_digest 107 = .ok (.ladd, 1) := by decide +kernel
theorem dX1_digest_108 : decode cX1_digest 108 = .ok (.lstore_n 2, 1) := by decide +kernel
theorem dX1_digest_109 : decode cX1_digest 109 = .ok (.iinc 6 1, 3) := by decide +kernel
theorem dX1_digest_112 : decode cX1_digest 112 = .ok (.goto (-27), 3) := by decide +kernel
theorem dX1_digest_115 : decode cX1_digest 115 = .ok (.iconst 0, 1) := by decide +kernel
theorem dX1_digest_116 : decode cX1_digest 116 = .ok (.istore 4, 2) := by decide +kernel
theorem dX1_digest_118 : decode cX1_digest 118 = .ok (.iload 4, 2) := by decide +kernel
theorem dX1_digest_120 : decode cX1_digest 120 = .ok (.aload_n 0, 1) := by decide +kernel
theorem dX1_digest_121 : decode cX1_digest 121 = .ok (.getfield 29, 3) := by decide +kernel
theorem dX1_digest_124 : decode cX1_digest 124 = .ok (.if_icmp .ge 128, 3) := by decide +kernel
theorem dX1_digest_127 : decode cX1_digest 127 = .ok (.bipush 7, 2) := by decide +kernel
theorem dX1_digest_129 : decode cX1_digest 129 = .ok (.newarray .int, 2) := by decide +kernel
theorem dX1_digest_131 : decode cX1_digest 131 = .ok (.dup, 1) := by decide +kernel
theorem dX1_digest_132 : decode cX1_digest 132 = .ok (.iconst 0, 1) := by decide +kernel
theorem dX1_digest_133 : decode cX1_digest 133 = .ok (.aload_n 0, 1) := by decide +kernel
theorem dX1_digest_134 : decode cX1_digest 134 = .ok (.getfield 19, 3) := by decide +kernel
theorem dX1_digest_137 : decode cX1_digest 137 = .ok (.iconst 1, 1) := by decide +kernel
theorem dX1_digest_138 : decode cX1_digest 138 = .ok (.iload 4, 2) := by decide +kernel
theorem dX1_digest_140 : decode cX1_digest 140 = .ok (.iadd, 1) := by decide +kernel
theorem dX1_digest_141 : decode cX1_digest 141 = .ok (.iaload, 1) := by decide +kernel
theorem dX1_digest_142 : decode cX1_digest 142 = .ok (.iastore, 1) := by decide +kernel
theorem dX1_digest_143 : decode cX1_digest 143 = .ok (.dup, 1) := by decide +kernel
theorem dX1_digest_144 : decode cX1_digest 144 = .ok (.iconst 1, 1) := by decide +kernel
theorem dX1_digest_145 : decode cX1_digest 145 = .ok (.aload_n 0, 1) := by decide +kernel
theorem dX1_digest_146 : decode cX1_digest 146 = .ok (.iload 4, 2) := by decide +kernel
theorem dX1_digest_148 : decode cX1_digest 148 = .ok (.invokevirtual 54, 3) := by decide +kernel
theorem dX1_digest_151 : decode cX1_digest 151 = .ok (.iastore, 1) := by decide +kernel
theorem dX1_digest_152 : decode cX1_digest 152 = .ok (.dup, 1) := by decide +kernel
theorem dX1_digest_153 : decode cX1_digest 153 = .ok (.iconst 2, 1) := by decide +kernel
theorem dX1_digest_154 : decode cX1_digest 154 = .ok (.aload_n 0, 1) := by decide +kernel
theorem dX1_digest_155 : decode cX1_digest 155 = .ok (.iload 4, 2) := by decide +kernel
theorem dX1_digest_157 : decode cX1_digest 157 = .ok (.invokevirtual 61, 3) := by decide +kernel
theorem dX1_digest_160 : decode cX1_digest 160 = .ok (.iastore, 1) := by decide +kernel
theorem dX1_digest_161 : decode cX1_digest 161 = .ok (.dup, 1) := by decide +kernel
theorem dX1_digest_162 : decode cX1_digest 162 = .ok (.iconst 3, 1) := by decide +kernel
theorem dX1_digest_163 : decode cX1_digest 163 = .ok (.aload_n 0, 1) := by decide +kernel
theorem dX1_digest_164 : decode cX1_digest 164 = .ok (.iload 4, 2) := by decide +kernel
theorem dX1_digest_166 : decode cX1_digest 166 = .ok (.invokevirtual 91, 3) := by decide +kernel
theorem dX1_digest_169 : decode cX1_digest 169 = .ok (.iastore, 1) := by decide +kernel
theorem dX1_digest_170 : decode cX1_digest 170 = .ok (.dup, 1) := by decide +kernel
theorem dX1_digest_171 : decode cX1_digest 171 = .ok (.iconst 4, 1) := by decide +kernel
theorem dX1_digest_172 : decode cX1_digest 172 = .ok (.aload_n 0, 1) := by decide +kernel
theorem dX1_digest_173 : decode cX1_digest 173 = .ok (.getfield 19, 3) := by decide +kernel
theorem dX1_digest_176 : decode cX1_digest 176 = .ok (.bipush 9, 2) := by decide +kernel
theorem dX1_digest_178 : decode cX1_digest 178 = .ok (.iload 4, 2) := by decide +kernel
theorem dX1_digest_180 : decode cX1_digest 180 = .ok (.iadd, 1) := by decide +kernel
theorem dX1_digest_181 : decode cX1_digest 181 = .ok (.iaload, 1) := by decide +kernel
theorem dX1_digest_182 : decode cX1_digest 182 = .ok (.iastore, 1) := by decide +kernel
theorem dX1_digest_183 : decode cX1_digest 183 = .ok (.dup, 1) := by decide +kernel
theorem dX1_digest_184 : decode cX1_digest 184 = .ok (.iconst 5, 1) := by decide +kernel
theorem dX1_digest_185 : decode cX1_digest 185 = .ok (.aload_n 0, 1) := by decide +kernel
theorem dX1_digest_186 : decode cX1_digest 186 = .ok (.iload 4, 2) := by decide +kernel
theorem dX1_digest_188 : decode cX1_digest 188 = .ok (.invokevirtual 94, 3) := by decide +kernel
theorem dX1_digest_191 : decode cX1_digest 191 = .ok (.iastore, 1) := by decide +kernel
theorem dX1_digest_192 : decode cX1_digest 192 = .ok (.dup, 1) := by decide +kernel
theorem dX1_digest_193 : decode cX1_digest 193 = .ok (.bipush 6, 2) := by decide +kernel
theorem dX1_digest_195 : decode cX1_digest 195 = .ok (.aload_n 0, 1) := by decide +kernel
theorem dX1_digest_196 : decode cX1_digest 196 = .ok (.iload 4, 2) := by decide +kernel
theorem dX1_digest_198 : decode cX1_digest 198 = .ok (.invokevirtual 115, 3) := by decide +kernel
theorem dX1_digest_201 : decode cX1_digest 201 = .ok (.iastore, 1) := by decide +kernel
theorem dX1_digest_202 : decode cX1_digest 202 = .ok (.astore 5, 2) := by decide +kernel
theorem dX1_digest_204 : decode cX1_digest 204 = .ok (.aload 5, 2) := by decide +kernel
theorem dX1_digest_206 : decode cX1_digest 206 = .ok (.astore 6, 2) := by decide +kernel
theorem dX1_digest_208 : decode cX1_digest 208 = .ok (.aload 6, 2) := by decide +kernel
theorem dX1_digest_210 : decode cX1_digest 210 = .ok (.arraylength, 1) := by decide +kernel
theorem dX1_digest_211 : decode cX1_digest 211 = .ok (.istore 7, 2) := by decide +kernel
theorem dX1_digest_213 : decode cX1_digest 213 = .ok (.iconst 0, 1) := by decide +kernel
theorem dX1_digest_214 : decode cX1_digest 214 = .ok (.istore 8, 2) := by decide +kernel
theorem dX1_digest_216 : decode cX1_digest 216 = .ok (.iload 8, 2) := by decide +kernel
theorem dX1_digest_218 : decode cX1_digest 218 = .ok (.iload 7, 2) := by decide +kernel
theorem dX1_digest_220 : decode cX1_digest 220 = .ok (.if_icmp .ge 26, 3) := by decide +kernel
theorem dX1_digest_223 : decode cX1_digest 223 = .ok (.aload 6, 2) := by decide +kernel
theorem dX1_digest_225 : decode cX1_digest 225 = .ok (.iload 8, 2) := by decide +kernel
theorem dX1_digest_227 : decode cX1_digest 227 = .ok (.iaload, 1) := by decide +kernel
theorem dX1_digest_228 : decode cX1_digest 228 = .ok (.istore 9, 2) := by decide +kernel
theorem dX1_digest_230 : decode cX1_digest 230 = .ok (.lload_n 2, 1) := by decide +kernel
theorem dX1_digest_231 : decode cX1_digest 231 = .ok (.ldc2_w 132, 3) := by decide +kernel
theorem dX1_digest_234 : decode cX1_digest 234 = .ok (.lmul, 1) := by decide +kernel
theorem dX1_digest_235 : decode cX1_digest 235 = .ok (.iload 9, 2) := by decide +kernel
theorem dX1_digest_237 : decode cX1_digest 237 = .ok (.i2l, 1) := by decide +kernel
theorem dX1_digest_238 : decode cX1_digest 238 = .ok (.ladd, 1) := by decide +kernel
theorem dX1_digest_239 : decode cX1_digest 239 = .ok (.lstore_n 2, 1) := by decide +kernel
theorem dX1_digest_240 : decode cX1_digest 240 = .ok (.iinc 8 1, 3) := by decide +kernel
theorem dX1_digest_243 : decode cX1_digest 243 = .ok (.goto (-27), 3) := by decide +kernel
theorem dX1_digest_246 : decode cX1_digest 246 = .ok (.iinc 4 1, 3) := by decide +kernel
theorem dX1_digest_249 : decode cX1_digest 249 = .ok (.goto (-131), 3) := by decide +kernel
theorem dX1_digest_252 : decode cX1_digest 252 = .ok (.iconst 0, 1) := by decide +kernel
theorem dX1_digest_253 : decode cX1_digest 253 = .ok (.istore 4, 2) := by decide +kernel
theorem dX1_digest_255 : decode cX1_digest 255 = .ok (.iload 4, 2) := by decide +kernel
theorem dX1_digest_257 : decode cX1_digest 257 = .ok (.aload_n 0, 1) := by decide +kernel
theorem dX1_digest_258 : decode cX1_digest 258 = .ok (.getfield 36, 3) := by decide +kernel
theorem dX1_digest_261 : decode cX1_digest 261 = .ok (.if_icmp .ge 93, 3) := by decide +kernel
theorem dX1_digest_264 : decode cX1_digest 264 = .ok (.lload_n 2, 1) := by decide +kernel
theorem dX1_digest_265 : decode cX1_digest 265 = .ok (.ldc2_w 132, 3) := by decide +kernel
theorem dX1_digest_268 : decode cX1_digest 268 = .ok (.lmul, 1) := by decide +kernel
theorem dX1_digest_269 : decode cX1_digest 269 = .ok (.aload_n 0, 1) := by decide +kernel
theorem dX1_digest_270 : decode cX1_digest 270 = .ok (.getfield 19, 3) := by decide +kernel
theorem dX1_digest_273 : decode cX1_digest 273 = .ok (.bipush 17, 2) := by decide +kernel
theorem dX1_digest_275 : decode cX1_digest 275 = .ok (.iload 4, 2) := by decide +kernel
theorem dX1_digest_277 : decode cX1_digest 277 = .ok (.iadd, 1) := by decide +kernel
theorem dX1_digest_278 : decode cX1_digest 278 = .ok (.iaload, 1) := by decide +kernel
theorem dX1_digest_279 : decode cX1_digest 279 = .ok (.i2l, 1) := by decide +kernel
theorem dX1_digest_280 : decode cX1_digest 280 = .ok (.ladd, 1) := by decide +kernel
theorem dX1_digest_281 : decode cX1_digest 281 = .ok (.lstore_n 2, 1) := by decide +kernel
theorem dX1_digest_282 : decode cX1_digest 282 = .ok (.lload_n 2, 1) := by decide +kernel
theorem dX1_digest_283 : decode cX1_digest 283 = .ok (.ldc2_w 132, 3) := by decide +kernel
theorem dX1_digest_286 : decode cX1_digest 286 = .ok (.lmul, 1) := by decide +kernel
theorem dX1_digest_287 : decode cX1_digest 287 = .ok (.aload_n 0, 1) := by decide +kernel
theorem dX1_digest_288 : decode cX1_digest 288 = .ok (.iload 4, 2) := by decide +kernel
theorem dX1_digest_290 : decode cX1_digest 290 = .ok (.invokevirtual 103, 3) := by decide +kernel
theorem dX1_digest_293 : decode cX1_digest 293 = .ok (.i2l, 1) := by decide +kernel
theorem dX1_digest_294 : decode cX1_digest 294 = .ok (.ladd, 1) := by decide +kernel
theorem dX1_digest_295 : decode cX1_digest 295 = .ok (.lstore_n 2, 1) := by decide +kernel
theorem dX1_digest_296 : decode cX1_digest 296 = .ok (.lload_n 2, 1) := by decide +kernel
theorem dX1_digest_297 : decode cX1_digest 297 = .ok (.ldc2_w 132, 3) := by decide +kernel
theorem dX1_digest_300 : decode cX1_digest 300 = .ok (.lmul, 1) := by decide +kernel
theorem dX1_digest_301 : decode cX1_digest 301 = .ok (.aload_n 0, 1) := by decide +kernel
theorem dX1_digest_302 : decode cX1_digest 302 = .ok (.iload 4, 2) := by decide +kernel
theorem dX1_digest_304 : decode cX1_digest 304 = .ok (.invokevirtual 109, 3) := by decide +kernel
theorem dX1_digest_307 : decode cX1_digest 307 = .ok (.i2l, 1) := by decide +kernel
theorem dX1_digest_308 : decode cX1_digest 308 = .ok (.ladd, 1) := by decide +kernel
theorem dX1_digest_309 : decode cX1_digest 309 = .ok (.lstore_n 2, 1) := by decide +kernel
theorem dX1_digest_310 : decode cX1_digest 310 = .ok (.iconst 0, 1) := by decide +kernel
theorem dX1_digest_311 : decode cX1_digest 311 = .ok (.istore 5, 2) := by decide +kernel
theorem dX1_digest_313 : decode cX1_digest 313 = .ok (.iload 5, 2) := by decide +kernel
theorem dX1_digest_315 : decode cX1_digest 315 = .ok (.aload_n 0, 1) := by decide +kernel
theorem dX1_digest_316 : decode cX1_digest 316 = .ok (.getfield 29, 3) := by decide +kernel
theorem dX1_digest_319 : decode cX1_digest 319 = .ok (.if_icmp .ge 29, 3) := by decide +kernel
theorem dX1_digest_322 : decode cX1_digest 322 = .ok (.lload_n 2, 1) := by decide +kernel
theorem dX1_digest_323 : decode cX1_digest 323 = .ok (.ldc2_w 132, 3) := by decide +kernel
theorem dX1_digest_326 : decode cX1_digest 326 = .ok (.lmul, 1) := by decide +kernel
theorem dX1_digest_327 : decode cX1_digest 327 = .ok (.aload_n 0, 1) := by decide +kernel
theorem dX1_digest_328 : decode cX1_digest 328 = .ok (.getfield 19, 3) := by decide +kernel
theorem dX1_digest_331 : decode cX1_digest 331 = .ok (.iload 4, 2) := by decide +kernel
theorem dX1_digest_333 : decode cX1_digest 333 = .ok (.iload 5, 2) := by decide +kernel
theorem dX1_digest_335 : decode cX1_digest 335 = .ok (.invokestatic 45, 3) := by decide +kernel
theorem dX1_digest_338 : decode cX1_digest 338 = .ok (.iaload, 1) := by decide +kernel
theorem dX1_digest_339 : decode cX1_digest 339 = .ok (.i2l, 1) := by decide +kernel
theorem dX1_digest_340 : decode cX1_digest 340 = .ok (.ladd, 1) := by decide +kernel
theorem dX1_digest_341 : decode cX1_digest 341 = .ok (.lstore_n 2, 1) := by decide +kernel
theorem dX1_digest_342 : decode cX1_digest 342 = .ok (.iinc 5 1, 3) := by decide +kernel
theorem dX1_digest_345 : decode cX1_digest 345 = .ok (.goto (-32), 3) := by decide +kernel
theorem dX1_digest_348 : decode cX1_digest 348 = .ok (.iinc 4 1, 3) := by decide +kernel
theorem dX1_digest_351 : decode cX1_digest 351 = .ok (.goto (-96), 3) := by decide +kernel
theorem dX1_digest_354 : decode cX1_digest 354 = .ok (.lload_n 2, 1) := by decide +kernel
theorem dX1_digest_355 : decode cX1_digest 355 = .ok (.lreturn, 1) := by decide +kernel
theorem dJ9_floorMod_7cf53_0 : decode cJ9_floorMod_7cf53 0 = .ok (.iload_n 0, 1) := by decide +kernel
theorem dJ9_floorMod_7cf53_1 : decode cJ9_floorMod_7cf53 1 = .ok (.iload_n 1, 1) := by decide +kernel
theorem dJ9_floorMod_7cf53_2 : decode cJ9_floorMod_7cf53 2 = .ok (.irem, 1) := by decide +kernel
theorem dJ9_floorMod_7cf53_3 : decode cJ9_floorMod_7cf53 3 = .ok (.istore_n 2, 1) := by decide +kernel
theorem dJ9_floorMod_7cf53_4 : decode cJ9_floorMod_7cf53 4 = .ok (.iload_n 0, 1) := by decide +kernel
theorem dJ9_floorMod_7cf53_5 : decode cJ9_floorMod_7cf53 5 = .ok (.iload_n 1, 1) := by decide +kernel
theorem dJ9_floorMod_7cf53_6 : decode cJ9_floorMod_7cf53 6 = .ok (.ixor, 1) := by decide +kernel
theorem dJ9_floorMod_7cf53_7 : decode cJ9_floorMod_7cf53 7 = .ok (.ifCond .ge 11, 3) := by decide +kernel
theorem dJ9_floorMod_7cf53_10 : decode cJ9_floorMod_7cf53 10 = .ok (.iload_n 2, 1) := by decide +kernel
theorem dJ9_floorMod_7cf53_11 : decode cJ9_floorMod_7cf53 11 = .ok (.ifCond .eq 7, 3) := by decide +kernel
theorem dJ9_floorMod_7cf53_14 : decode cJ9_floorMod_7cf53 14 = .ok (.iload_n 2, 1) := by decide +kernel
theorem dJ9_floorMod_7cf53_15 : decode cJ9_floorMod_7cf53 15 = .ok (.iload_n 1, 1) := by decide +kernel
theorem dJ9_floorMod_7cf53_16 : decode cJ9_floorMod_7cf53 16 = .ok (.iadd, 1) := by decide +kernel
theorem dJ9_floorMod_7cf53_17 : decode cJ9_floorMod_7cf53 17 = .ok (.ireturn, 1) := by decide +kernel
theorem dJ9_floorMod_7cf53_18 : decode cJ9_floorMod_7cf53 18 = .ok (.iload_n 2, 1) := by decide +kernel
theorem dJ9_floorMod_7cf53_19 : decode cJ9_floorMod_7cf53 19 = .ok (.ireturn, 1) := by decide +kernel
theorem dJ9_max_7cf53_0 : decode cJ9_max_7cf53 0 = .ok (.iload_n 0, 1) := by decide +kernel
theorem dJ9_max_7cf53_1 : decode cJ9_max_7cf53 1 = .ok (.iload_n 1, 1) := by decide +kernel
theorem dJ9_max_7cf53_2 : decode cJ9_max_7cf53 2 = .ok (.if_icmp .lt 7, 3) := by decide +kernel
theorem dJ9_max_7cf53_5 : decode cJ9_max_7cf53 5 = .ok (.iload_n 0, 1) := by decide +kernel
theorem dJ9_max_7cf53_6 : decode cJ9_max_7cf53 6 = .ok (.goto 4, 3) := by decide +kernel
theorem dJ9_max_7cf53_9 : decode cJ9_max_7cf53 9 = .ok (.iload_n 1, 1) := by decide +kernel
theorem dJ9_max_7cf53_10 : decode cJ9_max_7cf53 10 = .ok (.ireturn, 1) := by decide +kernel
theorem dJ9_min_7cf53_0 : decode cJ9_min_7cf53 0 = .ok (.iload_n 0, 1) := by decide +kernel
theorem dJ9_min_7cf53_1 : decode cJ9_min_7cf53 1 = .ok (.iload_n 1, 1) := by decide +kernel
theorem dJ9_min_7cf53_2 : decode cJ9_min_7cf53 2 = .ok (.if_icmp .gt 7, 3) := by decide +kernel
theorem dJ9_min_7cf53_5 : decode cJ9_min_7cf53 5 = .ok (.iload_n 0, 1) := by decide +kernel
theorem dJ9_min_7cf53_6 : decode cJ9_min_7cf53 6 = .ok (.goto 4, 3) := by decide +kernel
theorem dJ9_min_7cf53_9 : decode cJ9_min_7cf53 9 = .ok (.iload_n 1, 1) := by decide +kernel
theorem dJ9_min_7cf53_10 : decode cJ9_min_7cf53 10 = .ok (.ireturn, 1) := by decide +kernel
end
section
theorem dL_list_0 : decode cL_list 0 = .ok (.aload 4, 2) := by decide +kernel
theorem dL_list_2 : decode cL_list 2 = .ok (.iconst 0, 1) := by decide +kernel
theorem dL_list_3 : decode cL_list 3 = .ok (.aload_n 0, 1) := by decide +kernel
theorem dL_list_4 : decode cL_list 4 = .ok (.iload_n 1, 1) := by decide +kernel
theorem dL_list_5 : decode cL_list 5 = .ok (.iload_n 2, 1) := by decide +kernel
theorem dL_list_6 : decode cL_list 6 = .ok (.iload_n 3, 1) := by decide +kernel
theorem dL_list_7 : decode cL_list 7 = .ok (.invokevirtual 7, 3) := by decide +kernel
theorem dL_list_10 : decode cL_list 10 = .ok (.i2l, 1) := by decide +kernel
theorem dL_list_11 : decode cL_list 11 = .ok (.lastore, 1) := by decide +kernel
theorem dL_list_12 : decode cL_list 12 = .ok (.goto 11, 3) := by decide +kernel
theorem dL_list_15 : decode cL_list 15 = .ok (.astore 5, 2) := by decide +kernel
theorem dL_list_17 : decode cL_list 17 = .ok (.iconst 1, 1) := by decide +kernel
theorem dL_list_18 : decode cL_list 18 = .ok (.ireturn, 1) := by decide +kernel
theorem dL_list_19 : decode cL_list 19 = .ok (.astore 5, 2) := by decide +kernel
theorem dL_list_21 : decode cL_list 21 = .ok (.iconst 2, 1) := by decide +kernel
theorem dL_list_22 : decode cL_list 22 = .ok (.ireturn, 1) := by decide +kernel
theorem dL_list_23 : decode cL_list 23 = .ok (.iconst 0, 1) := by decide +kernel
theorem dL_list_24 : decode cL_list 24 = .ok (.ireturn, 1) := by decide +kernel
theorem dL_addTrader_0 : decode cL_addTrader 0 = .ok (.aload_n 1, 1) := by decide +kernel
theorem dL_addTrader_1 : decode cL_addTrader 1 = .ok (.iconst 0, 1) := by decide +kernel
theorem dL_addTrader_2 : decode cL_addTrader 2 = .ok (.aload_n 0, 1) := by decide +kernel
theorem dL_addTrader_3 : decode cL_addTrader 3 = .ok (.invokevirtual 17, 3) := by decide +kernel
theorem dL_addTrader_6 : decode cL_addTrader 6 = .ok (.i2l, 1) := by decide +kernel
theorem dL_addTrader_7 : decode cL_addTrader 7 = .ok (.lastore, 1) := by decide +kernel
theorem dL_addTrader_8 : decode cL_addTrader 8 = .ok (.goto 6, 3) := by decide +kernel
theorem dL_addTrader_11 : decode cL_addTrader 11 = .ok (.astore_n 2, 1) := by decide +kernel
theorem dL_addTrader_12 : decode cL_addTrader 12 = .ok (.iconst 1, 1) := by decide +kernel
theorem dL_addTrader_13 : decode cL_addTrader 13 = .ok (.ireturn, 1) := by decide +kernel
theorem dL_addTrader_14 : decode cL_addTrader 14 = .ok (.iconst 0, 1) := by decide +kernel
theorem dL_addTrader_15 : decode cL_addTrader 15 = .ok (.ireturn, 1) := by decide +kernel
theorem dL_buy_0 : decode cL_buy 0 = .ok (.aload 4, 2) := by decide +kernel
theorem dL_buy_2 : decode cL_buy 2 = .ok (.iconst 0, 1) := by decide +kernel
theorem dL_buy_3 : decode cL_buy 3 = .ok (.aload_n 0, 1) := by decide +kernel
theorem dL_buy_4 : decode cL_buy 4 = .ok (.iload_n 1, 1) := by decide +kernel
theorem dL_buy_5 : decode cL_buy 5 = .ok (.iload_n 2, 1) := by decide +kernel
theorem dL_buy_6 : decode cL_buy 6 = .ok (.iload_n 3, 1) := by decide +kernel
theorem dL_buy_7 : decode cL_buy 7 = .ok (.invokevirtual 21, 3) := by decide +kernel
theorem dL_buy_10 : decode cL_buy 10 = .ok (.i2l, 1) := by decide +kernel
theorem dL_buy_11 : decode cL_buy 11 = .ok (.lastore, 1) := by decide +kernel
theorem dL_buy_12 : decode cL_buy 12 = .ok (.goto 15, 3) := by decide +kernel
theorem dL_buy_15 : decode cL_buy 15 = .ok (.astore 5, 2) := by decide +kernel
theorem dL_buy_17 : decode cL_buy 17 = .ok (.iconst 1, 1) := by decide +kernel
theorem dL_buy_18 : decode cL_buy 18 = .ok (.ireturn, 1) := by decide +kernel
theorem dL_buy_19 : decode cL_buy 19 = .ok (.astore 5, 2) := by decide +kernel
theorem dL_buy_21 : decode cL_buy 21 = .ok (.iconst 2, 1) := by decide +kernel
theorem dL_buy_22 : decode cL_buy 22 = .ok (.ireturn, 1) := by decide +kernel
theorem dL_buy_23 : decode cL_buy 23 = .ok (.astore 5, 2) := by decide +kernel
theorem dL_buy_25 : decode cL_buy 25 = .ok (.iconst 3, 1) := by decide +kernel
theorem dL_buy_26 : decode cL_buy 26 = .ok (.ireturn, 1) := by decide +kernel
theorem dL_buy_27 : decode cL_buy 27 = .ok (.iconst 0, 1) := by decide +kernel
theorem dL_buy_28 : decode cL_buy 28 = .ok (.ireturn, 1) := by decide +kernel
theorem dL_sell_0 : decode cL_sell 0 = .ok (.aload 4, 2) := by decide +kernel
theorem dL_sell_2 : decode cL_sell 2 = .ok (.iconst 0, 1) := by decide +kernel
theorem dL_sell_3 : decode cL_sell 3 = .ok (.aload_n 0, 1) := by decide +kernel
theorem dL_sell_4 : decode cL_sell 4 = .ok (.iload_n 1, 1) := by decide +kernel
theorem dL_sell_5 : decode cL_sell 5 = .ok (.iload_n 2, 1) := by decide +kernel
theorem dL_sell_6 : decode cL_sell 6 = .ok (.iload_n 3, 1) := by decide +kernel
theorem dL_sell_7 : decode cL_sell 7 = .ok (.invokevirtual 26, 3) := by decide +kernel
theorem dL_sell_10 : decode cL_sell 10 = .ok (.i2l, 1) := by decide +kernel
theorem dL_sell_11 : decode cL_sell 11 = .ok (.lastore, 1) := by decide +kernel
theorem dL_sell_12 : decode cL_sell 12 = .ok (.goto 15, 3) := by decide +kernel
theorem dL_sell_15 : decode cL_sell 15 = .ok (.astore 5, 2) := by decide +kernel
theorem dL_sell_17 : decode cL_sell 17 = .ok (.iconst 1, 1) := by decide +kernel
theorem dL_sell_18 : decode cL_sell 18 = .ok (.ireturn, 1) := by decide +kernel
theorem dL_sell_19 : decode cL_sell 19 = .ok (.astore 5, 2) := by decide +kernel
theorem dL_sell_21 : decode cL_sell 21 = .ok (.iconst 2, 1) := by decide +kernel
theorem dL_sell_22 : decode cL_sell 22 = .ok (.ireturn, 1) := by decide +kernel
theorem dL_sell_23 : decode cL_sell 23 = .ok (.astore 5, 2) := by decide +kernel
theorem dL_sell_25 : decode cL_sell 25 = .ok (.iconst 3, 1) := by decide +kernel
theorem dL_sell_26 : decode cL_sell 26 = .ok (.ireturn, 1) := by decide +kernel
theorem dL_sell_27 : decode cL_sell 27 = .ok (.iconst 0, 1) := by decide +kernel
theorem dL_sell_28 : decode cL_sell 28 = .ok (.ireturn, 1) := by decide +kernel
theorem dL_pass_0 : decode cL_pass 0 = .ok (.aload_n 2, 1) := by decide +kernel
theorem dL_pass_1 : decode cL_pass 1 = .ok (.iconst 0, 1) := by decide +kernel
theorem dL_pass_2 : decode cL_pass 2 = .ok (.aload_n 0, 1) := by decide +kernel
theorem dL_pass_3 : decode cL_pass 3 = .ok (.iload_n 1, 1) := by decide +kernel
theorem dL_pass_4 : decode cL_pass 4 = .ok (.invokevirtual 29, 3) := by decide +kernel
theorem dL_pass_7 : decode cL_pass 7 = .ok (.i2l, 1) := by decide +kernel
theorem dL_pass_8 : decode cL_pass 8 = .ok (.lastore, 1) := by decide +kernel
theorem dL_pass_9 : decode cL_pass 9 = .ok (.goto 6, 3) := by decide +kernel
theorem dL_pass_12 : decode cL_pass 12 = .ok (.astore_n 3, 1) := by decide +kernel
theorem dL_pass_13 : decode cL_pass 13 = .ok (.iconst 1, 1) := by decide +kernel
theorem dL_pass_14 : decode cL_pass 14 = .ok (.ireturn, 1) := by decide +kernel
theorem dL_pass_15 : decode cL_pass 15 = .ok (.iconst 0, 1) := by decide +kernel
theorem dL_pass_16 : decode cL_pass 16 = .ok (.ireturn, 1) := by decide +kernel
theorem dL_silenceOf_0 : decode cL_silenceOf 0 = .ok (.aload_n 2, 1) := by decide +kernel
theorem dL_silenceOf_1 : decode cL_silenceOf 1 = .ok (.iconst 0, 1) := by decide +kernel
theorem dL_silenceOf_2 : decode cL_silenceOf 2 = .ok (.aload_n 0, 1) := by decide +kernel
theorem dL_silenceOf_3 : decode cL_silenceOf 3 = .ok (.iload_n 1, 1) := by decide +kernel
theorem dL_silenceOf_4 : decode cL_silenceOf 4 = .ok (.invokevirtual 33, 3) := by decide +kernel
theorem dL_silenceOf_7 : decode cL_silenceOf 7 = .ok (.i2l, 1) := by decide +kernel
theorem dL_silenceOf_8 : decode cL_silenceOf 8 = .ok (.lastore, 1) := by decide +kernel
theorem dL_silenceOf_9 : decode cL_silenceOf 9 = .ok (.goto 6, 3) := by decide +kernel
theorem dL_silenceOf_12 : decode cL_silenceOf 12 = .ok (.astore_n 3, 1) := by decide +kernel
theorem dL_silenceOf_13 : decode cL_silenceOf 13 = .ok (.iconst 1, 1) := by decide +kernel
theorem dL_silenceOf_14 : decode cL_silenceOf 14 = .ok (.ireturn, 1) := by decide +kernel
theorem dL_silenceOf_15 : decode cL_silenceOf 15 = .ok (.iconst 0, 1) := by decide +kernel
theorem dL_silenceOf_16 : decode cL_silenceOf 16 = .ok (.ireturn, 1) := by decide +kernel
theorem dL_dovesOn_0 : decode cL_dovesOn 0 = .ok (.aload_n 2, 1) := by decide +kernel
theorem dL_dovesOn_1 : decode cL_dovesOn 1 = .ok (.iconst 0, 1) := by decide +kernel
theorem dL_dovesOn_2 : decode cL_dovesOn 2 = .ok (.aload_n 0, 1) := by decide +kernel
theorem dL_dovesOn_3 : decode cL_dovesOn 3 = .ok (.iload_n 1, 1) := by decide +kernel
theorem dL_dovesOn_4 : decode cL_dovesOn 4 = .ok (.invokevirtual 36, 3) := by decide +kernel
theorem dL_dovesOn_7 : decode cL_dovesOn 7 = .ok (.i2l, 1) := by decide +kernel
theorem dL_dovesOn_8 : decode cL_dovesOn 8 = .ok (.lastore, 1) := by decide +kernel
theorem dL_dovesOn_9 : decode cL_dovesOn 9 = .ok (.goto 6, 3) := by decide +kernel
theorem dL_dovesOn_12 : decode cL_dovesOn 12 = .ok (.astore_n 3, 1) := by decide +kernel
theorem dL_dovesOn_13 : decode cL_dovesOn 13 = .ok (.iconst 1, 1) := by decide +kernel
theorem dL_dovesOn_14 : decode cL_dovesOn 14 = .ok (.ireturn, 1) := by decide +kernel
theorem dL_dovesOn_15 : decode cL_dovesOn 15 = .ok (.iconst 0, 1) := by decide +kernel
theorem dL_dovesOn_16 : decode cL_dovesOn 16 = .ok (.ireturn, 1) := by decide +kernel
theorem dL_priceOf_0 : decode cL_priceOf 0 = .ok (.aload_n 2, 1) := by decide +kernel
theorem dL_priceOf_1 : decode cL_priceOf 1 = .ok (.iconst 0, 1) := by decide +kernel
theorem dL_priceOf_2 : decode cL_priceOf 2 = .ok (.aload_n 0, 1) := by decide +kernel
theorem dL_priceOf_3 : decode cL_priceOf 3 = .ok (.iload_n 1, 1) := by decide +kernel
theorem dL_priceOf_4 : decode cL_priceOf 4 = .ok (.invokevirtual 39, 3) := by decide +kernel
theorem dL_priceOf_7 : decode cL_priceOf 7 = .ok (.i2l, 1) := by decide +kernel
theorem dL_priceOf_8 : decode cL_priceOf 8 = .ok (.lastore, 1) := by decide +kernel
theorem dL_priceOf_9 : decode cL_priceOf 9 = .ok (.goto 6, 3) := by decide +kernel
theorem dL_priceOf_12 : decode cL_priceOf 12 = .ok (.astore_n 3, 1) := by decide +kernel
theorem dL_priceOf_13 : decode cL_priceOf 13 = .ok (.iconst 1, 1) := by decide +kernel
theorem dL_priceOf_14 : decode cL_priceOf 14 = .ok (.ireturn, 1) := by decide +kernel
theorem dL_priceOf_15 : decode cL_priceOf 15 = .ok (.iconst 0, 1) := by decide +kernel
theorem dL_priceOf_16 : decode cL_priceOf 16 = .ok (.ireturn, 1) := by decide +kernel
theorem dL_secondsUntilStroke_0 : decode cL_secondsUntilStroke 0 = .ok (.aload_n 2, 1) := by decide +kernel
theorem dL_secondsUntilStroke_1 : decode cL_secondsUntilStroke 1 = .ok (.iconst 0, 1) := by decide +kernel
theorem dL_secondsUntilStroke_2 : decode cL_secondsUntilStroke 2 = .ok (.aload_n 0, 1) := by decide +kernel
theorem dL_secondsUntilStroke_3 : decode cL_secondsUntilStroke 3 = .ok (.iload_n 1, 1) := by decide +kernel
theorem dL_secondsUntilStroke_4 : decode cL_secondsUntilStroke 4 = .ok (.invokevirtual 42, 3) := by decide +kernel
theorem dL_secondsUntilStroke_7 : decode cL_secondsUntilStroke 7 = .ok (.i2l, 1) := by decide +kernel
theorem dL_secondsUntilStroke_8 : decode cL_secondsUntilStroke 8 = .ok (.lastore, 1) := by decide +kernel
theorem dL_secondsUntilStroke_9 : decode cL_secondsUntilStroke 9 = .ok (.goto 6, 3) := by decide +kernel
theorem dL_secondsUntilStroke_12 : decode cL_secondsUntilStroke 12 = .ok (.astore_n 3, 1) := by decide +kernel
theorem dL_secondsUntilStroke_13 : decode cL_secondsUntilStroke 13 = .ok (.iconst 1, 1) := by decide +kernel
theorem dL_secondsUntilStroke_14 : decode cL_secondsUntilStroke 14 = .ok (.ireturn, 1) := by decide +kernel
theorem dL_secondsUntilStroke_15 : decode cL_secondsUntilStroke 15 = .ok (.iconst 0, 1) := by decide +kernel
theorem dL_secondsUntilStroke_16 : decode cL_secondsUntilStroke 16 = .ok (.ireturn, 1) := by decide +kernel
theorem dL_strokesOf_0 : decode cL_strokesOf 0 = .ok (.aload_n 2, 1) := by decide +kernel
theorem dL_strokesOf_1 : decode cL_strokesOf 1 = .ok (.iconst 0, 1) := by decide +kernel
theorem dL_strokesOf_2 : decode cL_strokesOf 2 = .ok (.aload_n 0, 1) := by decide +kernel
theorem dL_strokesOf_3 : decode cL_strokesOf 3 = .ok (.iload_n 1, 1) := by decide +kernel
theorem dL_strokesOf_4 : decode cL_strokesOf 4 = .ok (.invokevirtual 45, 3) := by decide +kernel
theorem dL_strokesOf_7 : decode cL_strokesOf 7 = .ok (.i2l, 1) := by decide +kernel
theorem dL_strokesOf_8 : decode cL_strokesOf 8 = .ok (.lastore, 1) := by decide +kernel
theorem dL_strokesOf_9 : decode cL_strokesOf 9 = .ok (.goto 6, 3) := by decide +kernel
theorem dL_strokesOf_12 : decode cL_strokesOf 12 = .ok (.astore_n 3, 1) := by decide +kernel
theorem dL_strokesOf_13 : decode cL_strokesOf 13 = .ok (.iconst 1, 1) := by decide +kernel
theorem dL_strokesOf_14 : decode cL_strokesOf 14 = .ok (.ireturn, 1) := by decide +kernel
theorem dL_strokesOf_15 : decode cL_strokesOf 15 = .ok (.iconst 0, 1) := by decide +kernel
theorem dL_strokesOf_16 : decode cL_strokesOf 16 = .ok (.ireturn, 1) := by decide +kernel
theorem dL_openSeconds_0 : decode cL_openSeconds 0 = .ok (.aload_n 2, 1) := by decide +kernel
theorem dL_openSeconds_1 : decode cL_openSeconds 1 = .ok (.iconst 0, 1) := by decide +kernel
theorem dL_openSeconds_2 : decode cL_openSeconds 2 = .ok (.aload_n 0, 1) := by decide +kernel
theorem dL_openSeconds_3 : decode cL_openSeconds 3 = .ok (.iload_n 1, 1) := by decide +kernel
theorem dL_openSeconds_4 : decode cL_openSeconds 4 = .ok (.invokevirtual 48, 3) := by decide +kernel
theorem dL_openSeconds_7 : decode cL_openSeconds 7 = .ok (.i2l, 1) := by decide +kernel
theorem dL_openSeconds_8 : decode cL_openSeconds 8 = .ok (.lastore, 1) := by decide +kernel
theorem dL_openSeconds_9 : decode cL_openSeconds 9 = .ok (.goto 6, 3) := by decide +kernel
theorem dL_openSeconds_12 : decode cL_openSeconds 12 = .ok (.astore_n 3, 1) := by decide +kernel
theorem dL_openSeconds_13 : decode cL_openSeconds 13 = .ok (.iconst 1, 1) := by decide +kernel
theorem dL_openSeconds_14 : decode cL_openSeconds 14 = .ok (.ireturn, 1) := by decide +kernel
theorem dL_openSeconds_15 : decode cL_openSeconds 15 = .ok (.iconst 0, 1) := by decide +kernel
theorem dL_openSeconds_16 : decode cL_openSeconds 16 = .ok (.ireturn, 1) := by decide +kernel
theorem dL_purseOf_0 : decode cL_purseOf 0 = .ok (.aload_n 2, 1) := by decide +kernel
theorem dL_purseOf_1 : decode cL_purseOf 1 = .ok (.iconst 0, 1) := by decide +kernel
theorem dL_purseOf_2 : decode cL_purseOf 2 = .ok (.aload_n 0, 1) := by decide +kernel
theorem dL_purseOf_3 : decode cL_purseOf 3 = .ok (.iload_n 1, 1) := by decide +kernel
theorem dL_purseOf_4 : decode cL_purseOf 4 = .ok (.invokevirtual 51, 3) := by decide +kernel
theorem dL_purseOf_7 : decode cL_purseOf 7 = .ok (.i2l, 1) := by decide +kernel
theorem dL_purseOf_8 : decode cL_purseOf 8 = .ok (.lastore, 1) := by decide +kernel
theorem dL_purseOf_9 : decode cL_purseOf 9 = .ok (.goto 6, 3) := by decide +kernel
theorem dL_purseOf_12 : decode cL_purseOf 12 = .ok (.astore_n 3, 1) := by decide +kernel
theorem dL_purseOf_13 : decode cL_purseOf 13 = .ok (.iconst 1, 1) := by decide +kernel
theorem dL_purseOf_14 : decode cL_purseOf 14 = .ok (.ireturn, 1) := by decide +kernel
theorem dL_purseOf_15 : decode cL_purseOf 15 = .ok (.iconst 0, 1) := by decide +kernel
theorem dL_purseOf_16 : decode cL_purseOf 16 = .ok (.ireturn, 1) := by decide +kernel
theorem dL_holds_0 : decode cL_holds 0 = .ok (.aload_n 3, 1) := by decide +kernel
theorem dL_holds_1 : decode cL_holds 1 = .ok (.iconst 0, 1) := by decide +kernel
theorem dL_holds_2 : decode cL_holds 2 = .ok (.aload_n 0, 1) := by decide +kernel
theorem dL_holds_3 : decode cL_holds 3 = .ok (.iload_n 1, 1) := by decide +kernel
theorem dL_holds_4 : decode cL_holds 4 = .ok (.iload_n 2, 1) := by decide +kernel
theorem dL_holds_5 : decode cL_holds 5 = .ok (.invokevirtual 54, 3) := by decide +kernel
theorem dL_holds_8 : decode cL_holds 8 = .ok (.i2l, 1) := by decide +kernel
theorem dL_holds_9 : decode cL_holds 9 = .ok (.lastore, 1) := by decide +kernel
theorem dL_holds_10 : decode cL_holds 10 = .ok (.goto 7, 3) := by decide +kernel
theorem dL_holds_13 : decode cL_holds 13 = .ok (.astore 4, 2) := by decide +kernel
theorem dL_holds_15 : decode cL_holds 15 = .ok (.iconst 1, 1) := by decide +kernel
theorem dL_holds_16 : decode cL_holds 16 = .ok (.ireturn, 1) := by decide +kernel
theorem dL_holds_17 : decode cL_holds 17 = .ok (.iconst 0, 1) := by decide +kernel
theorem dL_holds_18 : decode cL_holds 18 = .ok (.ireturn, 1) := by decide +kernel
theorem dL_worthOf_0 : decode cL_worthOf 0 = .ok (.aload_n 2, 1) := by decide +kernel
theorem dL_worthOf_1 : decode cL_worthOf 1 = .ok (.iconst 0, 1) := by decide +kernel
theorem dL_worthOf_2 : decode cL_worthOf 2 = .ok (.aload_n 0, 1) := by decide +kernel
theorem dL_worthOf_3 : decode cL_worthOf 3 = .ok (.iload_n 1, 1) := by decide +kernel
theorem dL_worthOf_4 : decode cL_worthOf 4 = .ok (.invokevirtual 58, 3) := by decide +kernel
theorem dL_worthOf_7 : decode cL_worthOf 7 = .ok (.i2l, 1) := by decide +kernel
theorem dL_worthOf_8 : decode cL_worthOf 8 = .ok (.lastore, 1) := by decide +kernel
theorem dL_worthOf_9 : decode cL_worthOf 9 = .ok (.goto 6, 3) := by decide +kernel
theorem dL_worthOf_12 : decode cL_worthOf 12 = .ok (.astore_n 3, 1) := by decide +kernel
theorem dL_worthOf_13 : decode cL_worthOf 13 = .ok (.iconst 1, 1) := by decide +kernel
theorem dL_worthOf_14 : decode cL_worthOf 14 = .ok (.ireturn, 1) := by decide +kernel
theorem dL_worthOf_15 : decode cL_worthOf 15 = .ok (.iconst 0, 1) := by decide +kernel
theorem dL_worthOf_16 : decode cL_worthOf 16 = .ok (.ireturn, 1) := by decide +kernel
theorem dL_shortsOf_0 : decode cL_shortsOf 0 = .ok (.aload_n 2, 1) := by decide +kernel
theorem dL_shortsOf_1 : decode cL_shortsOf 1 = .ok (.iconst 0, 1) := by decide +kernel
theorem dL_shortsOf_2 : decode cL_shortsOf 2 = .ok (.aload_n 0, 1) := by decide +kernel
theorem dL_shortsOf_3 : decode cL_shortsOf 3 = .ok (.iload_n 1, 1) := by decide +kernel
theorem dL_shortsOf_4 : decode cL_shortsOf 4 = .ok (.invokevirtual 61, 3) := by decide +kernel
theorem dL_shortsOf_7 : decode cL_shortsOf 7 = .ok (.i2l, 1) := by decide +kernel
theorem dL_shortsOf_8 : decode cL_shortsOf 8 = .ok (.lastore, 1) := by decide +kernel
theorem dL_shortsOf_9 : decode cL_shortsOf 9 = .ok (.goto 6, 3) := by decide +kernel
theorem dL_shortsOf_12 : decode cL_shortsOf 12 = .ok (.astore_n 3, 1) := by decide +kernel
theorem dL_shortsOf_13 : decode cL_shortsOf 13 = .ok (.iconst 1, 1) := by decide +kernel
theorem dL_shortsOf_14 : decode cL_shortsOf 14 = .ok (.ireturn, 1) := by decide +kernel
theorem dL_shortsOf_15 : decode cL_shortsOf 15 = .ok (.iconst 0, 1) := by decide +kernel
theorem dL_shortsOf_16 : decode cL_shortsOf 16 = .ok (.ireturn, 1) := by decide +kernel
theorem dL_closingPrice_0 : decode cL_closingPrice 0 = .ok (.aload_n 2, 1) := by decide +kernel
theorem dL_closingPrice_1 : decode cL_closingPrice 1 = .ok (.iconst 0, 1) := by decide +kernel
theorem dL_closingPrice_2 : decode cL_closingPrice 2 = .ok (.aload_n 0, 1) := by decide +kernel
theorem dL_closingPrice_3 : decode cL_closingPrice 3 = .ok (.iload_n 1, 1) := by decide +kernel
theorem dL_closingPrice_4 : decode cL_closingPrice 4 = .ok (.invokevirtual 64, 3) := by decide +kernel
theorem dL_closingPrice_7 : decode cL_closingPrice 7 = .ok (.i2l, 1) := by decide +kernel
theorem dL_closingPrice_8 : decode cL_closingPrice 8 = .ok (.lastore, 1) := by decide +kernel
theorem dL_closingPrice_9 : decode cL_closingPrice 9 = .ok (.goto 6, 3) := by decide +kernel
theorem dL_closingPrice_12 : decode cL_closingPrice 12 = .ok (.astore_n 3, 1) := by decide +kernel
theorem dL_closingPrice_13 : decode cL_closingPrice 13 = .ok (.iconst 1, 1) := by decide +kernel
theorem dL_closingPrice_14 : decode cL_closingPrice 14 = .ok (.ireturn, 1) := by decide +kernel
theorem dL_closingPrice_15 : decode cL_closingPrice 15 = .ok (.iconst 0, 1) := by decide +kernel
theorem dL_closingPrice_16 : decode cL_closingPrice 16 = .ok (.ireturn, 1) := by decide +kernel
theorem dL_priceIn_0 : decode cL_priceIn 0 = .ok (.aload_n 3, 1) := by decide +kernel
theorem dL_priceIn_1 : decode cL_priceIn 1 = .ok (.iconst 0, 1) := by decide +kernel
theorem dL_priceIn_2 : decode cL_priceIn 2 = .ok (.aload_n 0, 1) := by decide +kernel
theorem dL_priceIn_3 : decode cL_priceIn 3 = .ok (.iload_n 1, 1) := by decide +kernel
theorem dL_priceIn_4 : decode cL_priceIn 4 = .ok (.iload_n 2, 1) := by decide +kernel
theorem dL_priceIn_5 : decode cL_priceIn 5 = .ok (.invokevirtual 67, 3) := by decide +kernel
theorem dL_priceIn_8 : decode cL_priceIn 8 = .ok (.i2l, 1) := by decide +kernel
theorem dL_priceIn_9 : decode cL_priceIn 9 = .ok (.lastore, 1) := by decide +kernel
theorem dL_priceIn_10 : decode cL_priceIn 10 = .ok (.goto 11, 3) := by decide +kernel
theorem dL_priceIn_13 : decode cL_priceIn 13 = .ok (.astore 4, 2) := by decide +kernel
theorem dL_priceIn_15 : decode cL_priceIn 15 = .ok (.iconst 1, 1) := by decide +kernel
theorem dL_priceIn_16 : decode cL_priceIn 16 = .ok (.ireturn, 1) := by decide +kernel
theorem dL_priceIn_17 : decode cL_priceIn 17 = .ok (.astore 4, 2) := by decide +kernel
theorem dL_priceIn_19 : decode cL_priceIn 19 = .ok (.iconst 2, 1) := by decide +kernel
theorem dL_priceIn_20 : decode cL_priceIn 20 = .ok (.ireturn, 1) := by decide +kernel
theorem dL_priceIn_21 : decode cL_priceIn 21 = .ok (.iconst 0, 1) := by decide +kernel
theorem dL_priceIn_22 : decode cL_priceIn 22 = .ok (.ireturn, 1) := by decide +kernel
theorem dL_worthIn_0 : decode cL_worthIn 0 = .ok (.aload_n 3, 1) := by decide +kernel
theorem dL_worthIn_1 : decode cL_worthIn 1 = .ok (.iconst 0, 1) := by decide +kernel
theorem dL_worthIn_2 : decode cL_worthIn 2 = .ok (.aload_n 0, 1) := by decide +kernel
theorem dL_worthIn_3 : decode cL_worthIn 3 = .ok (.iload_n 1, 1) := by decide +kernel
theorem dL_worthIn_4 : decode cL_worthIn 4 = .ok (.iload_n 2, 1) := by decide +kernel
theorem dL_worthIn_5 : decode cL_worthIn 5 = .ok (.invokevirtual 70, 3) := by decide +kernel
theorem dL_worthIn_8 : decode cL_worthIn 8 = .ok (.i2l, 1) := by decide +kernel
theorem dL_worthIn_9 : decode cL_worthIn 9 = .ok (.lastore, 1) := by decide +kernel
theorem dL_worthIn_10 : decode cL_worthIn 10 = .ok (.goto 11, 3) := by decide +kernel
theorem dL_worthIn_13 : decode cL_worthIn 13 = .ok (.astore 4, 2) := by decide +kernel
theorem dL_worthIn_15 : decode cL_worthIn 15 = .ok (.iconst 1, 1) := by decide +kernel
theorem dL_worthIn_16 : decode cL_worthIn 16 = .ok (.ireturn, 1) := by decide +kernel
theorem dL_worthIn_17 : decode cL_worthIn 17 = .ok (.astore 4, 2) := by decide +kernel
theorem dL_worthIn_19 : decode cL_worthIn 19 = .ok (.iconst 2, 1) := by decide +kernel
theorem dL_worthIn_20 : decode cL_worthIn 20 = .ok (.ireturn, 1) := by decide +kernel
theorem dL_worthIn_21 : decode cL_worthIn 21 = .ok (.iconst 0, 1) := by decide +kernel
theorem dL_worthIn_22 : decode cL_worthIn 22 = .ok (.ireturn, 1) := by decide +kernel
theorem dL_bestToSell_0 : decode cL_bestToSell 0 = .ok (.aload_n 3, 1) := by decide +kernel
theorem dL_bestToSell_1 : decode cL_bestToSell 1 = .ok (.iconst 0, 1) := by decide +kernel
theorem dL_bestToSell_2 : decode cL_bestToSell 2 = .ok (.aload_n 0, 1) := by decide +kernel
theorem dL_bestToSell_3 : decode cL_bestToSell 3 = .ok (.iload_n 1, 1) := by decide +kernel
theorem dL_bestToSell_4 : decode cL_bestToSell 4 = .ok (.iload_n 2, 1) := by decide +kernel
theorem dL_bestToSell_5 : decode cL_bestToSell 5 = .ok (.invokevirtual 73, 3) := by decide +kernel
theorem dL_bestToSell_8 : decode cL_bestToSell 8 = .ok (.i2l, 1) := by decide +kernel
theorem dL_bestToSell_9 : decode cL_bestToSell 9 = .ok (.lastore, 1) := by decide +kernel
theorem dL_bestToSell_10 : decode cL_bestToSell 10 = .ok (.goto 7, 3) := by decide +kernel
theorem dL_bestToSell_13 : decode cL_bestToSell 13 = .ok (.astore 4, 2) := by decide +kernel
theorem dL_bestToSell_15 : decode cL_bestToSell 15 = .ok (.iconst 1, 1) := by decide +kernel
theorem dL_bestToSell_16 : decode cL_bestToSell 16 = .ok (.ireturn, 1) := by decide +kernel
theorem dL_bestToSell_17 : decode cL_bestToSell 17 = .ok (.iconst 0, 1) := by decide +kernel
theorem dL_bestToSell_18 : decode cL_bestToSell 18 = .ok (.ireturn, 1) := by decide +kernel
theorem dL_secondsUntilDebt_0 : decode cL_secondsUntilDebt 0 = .ok (.aload_n 2, 1) := by decide +kernel
theorem dL_secondsUntilDebt_1 : decode cL_secondsUntilDebt 1 = .ok (.iconst 0, 1) := by decide +kernel
theorem dL_secondsUntilDebt_2 : decode cL_secondsUntilDebt 2 = .ok (.aload_n 0, 1) := by decide +kernel
theorem dL_secondsUntilDebt_3 : decode cL_secondsUntilDebt 3 = .ok (.iload_n 1, 1) := by decide +kernel
theorem dL_secondsUntilDebt_4 : decode cL_secondsUntilDebt 4 = .ok (.invokevirtual 76, 3) := by decide +kernel
theorem dL_secondsUntilDebt_7 : decode cL_secondsUntilDebt 7 = .ok (.i2l, 1) := by decide +kernel
theorem dL_secondsUntilDebt_8 : decode cL_secondsUntilDebt 8 = .ok (.lastore, 1) := by decide +kernel
theorem dL_secondsUntilDebt_9 : decode cL_secondsUntilDebt 9 = .ok (.goto 6, 3) := by decide +kernel
theorem dL_secondsUntilDebt_12 : decode cL_secondsUntilDebt 12 = .ok (.astore_n 3, 1) := by decide +kernel
theorem dL_secondsUntilDebt_13 : decode cL_secondsUntilDebt 13 = .ok (.iconst 1, 1) := by decide +kernel
theorem dL_secondsUntilDebt_14 : decode cL_secondsUntilDebt 14 = .ok (.ireturn, 1) := by decide +kernel
theorem dL_secondsUntilDebt_15 : decode cL_secondsUntilDebt 15 = .ok (.iconst 0, 1) := by decide +kernel
theorem dL_secondsUntilDebt_16 : decode cL_secondsUntilDebt 16 = .ok (.ireturn, 1) := by decide +kernel
theorem dL_law_0 : decode cL_law 0 = .ok (.new 8, 3) := by decide +kernel
theorem dL_law_3 : decode cL_law 3 = .ok (.dup, 1) := by decide +kernel
theorem dL_law_4 : decode cL_law 4 = .ok (.invokespecial 79, 3) := by decide +kernel
theorem dL_law_7 : decode cL_law 7 = .ok (.astore_n 1, 1) := by decide +kernel
theorem dL_law_8 : decode cL_law 8 = .ok (.new 80, 3) := by decide +kernel
theorem dL_law_11 : decode cL_law 11 = .ok (.dup, 1) := by decide +kernel
theorem dL_law_12 : decode cL_law 12 = .ok (.invokespecial 82, 3) := by decide +kernel
theorem dL_law_15 : decode cL_law 15 = .ok (.astore_n 2, 1) := by decide +kernel
theorem dL_law_16 : decode cL_law 16 = .ok (.iconst 1, 1) := by decide +kernel
theorem dL_law_17 : decode cL_law 17 = .ok (.newarray .long, 2) := by decide +kernel
theorem dL_law_19 : decode cL_law 19 = .ok (.astore_n 3, 1) := by decide +kernel
theorem dL_law_20 : decode cL_law 20 = .ok (.iconst 0, 1) := by decide +kernel
theorem dL_law_21 : decode cL_law 21 = .ok (.istore 4, 2) := by decide +kernel
theorem dL_law_23 : decode cL_law 23 = .ok (.iload 4, 2) := by decide +kernel
theorem dL_law_25 : decode cL_law 25 = .ok (.aload_n 0, 1) := by decide +kernel
theorem dL_law_26 : decode cL_law 26 = .ok (.arraylength, 1) := by decide +kernel
theorem dL_law_27 : decode cL_law 27 = .ok (.iconst 4, 1) := by decide +kernel
theorem dL_law_28 : decode cL_law 28 = .ok (.isub, 1) := by decide +kernel
theorem dL_law_29 : decode cL_law 29 = .ok (.if_icmp .gt 1536, 3) := by decide +kernel
theorem dL_law_32 : decode cL_law 32 = .ok (.aload_n 0, 1) := by decide +kernel
theorem dL_law_33 : decode cL_law 33 = .ok (.iload 4, 2) := by decide +kernel
theorem dL_law_35 : decode cL_law 35 = .ok (.iaload, 1) := by decide +kernel
theorem dL_law_36 : decode cL_law 36 = .ok (.bipush 31, 2) := by decide +kernel
theorem dL_law_38 : decode cL_law 38 = .ok (.iand, 1) := by decide +kernel
theorem dL_law_39 : decode cL_law 39 = .ok (.tableswitch 1520 0 29 #[133, 213, 257, 337, 417, 473, 486, 499, 555, 611, 667, 723, 779, 835, 848, 861, 874, 930, 998, 1054, 1067, 1123, 1136, 1192, 1260, 1328, 1341, 1409, 1465, 1506], 133) := by decide +kernel
theorem dL_law_172 : decode cL_law 172 = .ok (.aload_n 1, 1) := by decide +kernel
theorem dL_law_173 : decode cL_law 173 = .ok (.aload_n 0, 1) := by decide +kernel
theorem dL_law_174 : decode cL_law 174 = .ok (.iload 4, 2) := by decide +kernel
theorem dL_law_176 : decode cL_law 176 = .ok (.iconst 1, 1) := by decide +kernel
theorem dL_law_177 : decode cL_law 177 = .ok (.iadd, 1) := by decide +kernel
theorem dL_law_178 : decode cL_law 178 = .ok (.iaload, 1) := by decide +kernel
theorem dL_law_179 : decode cL_law 179 = .ok (.aload_n 0, 1) := by decide +kernel
theorem dL_law_180 : decode cL_law 180 = .ok (.iload 4, 2) := by decide +kernel
theorem dL_law_182 : decode cL_law 182 = .ok (.iconst 2, 1) := by decide +kernel
theorem dL_law_183 : decode cL_law 183 = .ok (.iadd, 1) := by decide +kernel
theorem dL_law_184 : decode cL_law 184 = .ok (.iaload, 1) := by decide +kernel
theorem dL_law_185 : decode cL_law 185 = .ok (.aload_n 0, 1) := by decide +kernel
theorem dL_law_186 : decode cL_law 186 = .ok (.iload 4, 2) := by decide +kernel
theorem dL_law_188 : decode cL_law 188 = .ok (.iconst 3, 1) := by decide +kernel
theorem dL_law_189 : decode cL_law 189 = .ok (.iadd, 1) := by decide +kernel
theorem dL_law_190 : decode cL_law 190 = .ok (.iaload, 1) := by decide +kernel
theorem dL_law_191 : decode cL_law 191 = .ok (.aload_n 3, 1) := by decide +kernel
theorem dL_law_192 : decode cL_law 192 = .ok (.invokestatic 83, 3) := by decide +kernel
theorem dL_law_195 : decode cL_law 195 = .ok (.istore 5, 2) := by decide +kernel
theorem dL_law_197 : decode cL_law 197 = .ok (.aload_n 2, 1) := by decide +kernel
theorem dL_law_198 : decode cL_law 198 = .ok (.aload_n 0, 1) := by decide +kernel
theorem dL_law_199 : decode cL_law 199 = .ok (.iload 4, 2) := by decide +kernel
theorem dL_law_201 : decode cL_law 201 = .ok (.iconst 1, 1) := by decide +kernel
theorem dL_law_202 : decode cL_law 202 = .ok (.iadd, 1) := by decide +kernel
theorem dL_law_203 : decode cL_law 203 = .ok (.iaload, 1) := by decide +kernel
theorem dL_law_204 : decode cL_law 204 = .ok (.aload_n 0, 1) := by decide +kernel
theorem dL_law_205 : decode cL_law 205 = .ok (.iload 4, 2) := by decide +kernel
theorem dL_law_207 : decode cL_law 207 = .ok (.iconst 2, 1) := by decide +kernel
theorem dL_law_208 : decode cL_law 208 = .ok (.iadd, 1) := by decide +kernel
theorem dL_law_209 : decode cL_law 209 = .ok (.iaload, 1) := by decide +kernel
theorem dL_law_210 : decode cL_law 210 = .ok (.aload_n 0, 1) := by decide +kernel
theorem dL_law_211 : decode cL_law 211 = .ok (.iload 4, 2) := by decide +kernel
theorem dL_law_213 : decode cL_law 213 = .ok (.iconst 3, 1) := by decide +kernel
theorem dL_law_214 : decode cL_law 214 = .ok (.iadd, 1) := by decide +kernel
theorem dL_law_215 : decode cL_law 215 = .ok (.iaload, 1) := by decide +kernel
theorem dL_law_216 : decode cL_law 216 = .ok (.invokevirtual 88, 3) := by decide +kernel
theorem dL_law_219 : decode cL_law 219 = .ok (.istore 6, 2) := by decide +kernel
theorem dL_law_221 : decode cL_law 221 = .ok (.aload_n 2, 1) := by decide +kernel
theorem dL_law_222 : decode cL_law 222 = .ok (.invokevirtual 89, 3) := by decide +kernel
theorem dL_law_225 : decode cL_law 225 = .ok (.iload 5, 2) := by decide +kernel
theorem dL_law_227 : decode cL_law 227 = .ok (.if_icmp .eq 5, 3) := by decide +kernel
theorem dL_law_230 : decode cL_law 230 = .ok (.iconst 0, 1) := by decide +kernel
theorem dL_law_231 : decode cL_law 231 = .ok (.ireturn, 1) := by decide +kernel
theorem dL_law_232 : decode cL_law 232 = .ok (.iload 5, 2) := by decide +kernel
theorem dL_law_234 : decode cL_law 234 = .ok (.ifCond .ne 15, 3) := by decide +kernel
theorem dL_law_237 : decode cL_law 237 = .ok (.aload_n 3, 1) := by decide +kernel
theorem dL_law_238 : decode cL_law 238 = .ok (.iconst 0, 1) := by decide +kernel
theorem dL_law_239 : decode cL_law 239 = .ok (.laload, 1) := by decide +kernel
theorem dL_law_240 : decode cL_law 240 = .ok (.iload 6, 2) := by decide +kernel
theorem dL_law_242 : decode cL_law 242 = .ok (.i2l, 1) := by decide +kernel
theorem dL_law_243 : decode cL_law 243 = .ok (.lcmp, 1) := by decide +kernel
theorem dL_law_244 : decode cL_law 244 = .ok (.ifCond .eq 5, 3) := by decide +kernel
theorem dL_law_247 : decode cL_law 247 = .ok (.iconst 0, 1) := by decide +kernel
theorem dL_law_248 : decode cL_law 248 = .ok (.ireturn, 1) := by decide +kernel
theorem dL_law_249 : decode cL_law 249 = .ok (.goto 1310, 3) := by decide +kernel
theorem dL_law_252 : decode cL_law 252 = .ok (.aload_n 1, 1) := by decide +kernel
theorem dL_law_253 : decode cL_law 253 = .ok (.aload_n 3, 1) := by decide +kernel
theorem dL_law_254 : decode cL_law 254 = .ok (.invokestatic 92, 3) := by decide +kernel
theorem dL_law_257 : decode cL_law 257 = .ok (.istore 5, 2) := by decide +kernel
theorem dL_law_259 : decode cL_law 259 = .ok (.aload_n 2, 1) := by decide +kernel
theorem dL_law_260 : decode cL_law 260 = .ok (.invokevirtual 95, 3) := by decide +kernel
theorem dL_law_263 : decode cL_law 263 = .ok (.istore 6, 2) := by decide +kernel
theorem dL_law_265 : decode cL_law 265 = .ok (.aload_n 2, 1) := by decide +kernel
theorem dL_law_266 : decode cL_law 266 = .ok (.invokevirtual 89, 3) := by decide +kernel
theorem dL_law_269 : decode cL_law 269 = .ok (.iload 5, 2) := by decide +kernel
theorem dL_law_271 : decode cL_law 271 = .ok (.if_icmp .eq 5, 3) := by decide +kernel
theorem dL_law_274 : decode cL_law 274 = .ok (.iconst 0, 1) := by decide +kernel
theorem dL_law_275 : decode cL_law 275 = .ok (.ireturn, 1) := by decide +kernel
theorem dL_law_276 : decode cL_law 276 = .ok (.iload 5, 2) := by decide +kernel
theorem dL_law_278 : decode cL_law 278 = .ok (.ifCond .ne 15, 3) := by decide +kernel
theorem dL_law_281 : decode cL_law 281 = .ok (.aload_n 3, 1) := by decide +kernel
theorem dL_law_282 : decode cL_law 282 = .ok (.iconst 0, 1) := by decide +kernel
theorem dL_law_283 : decode cL_law 283 = .ok (.laload, 1) := by decide +kernel
theorem dL_law_284 : decode cL_law 284 = .ok (.iload 6, 2) := by decide +kernel
theorem dL_law_286 : decode cL_law 286 = .ok (.i2l, 1) := by decide +kernel
theorem dL_law_287 : decode cL_law 287 = .ok (.lcmp, 1) := by decide +kernel
theorem dL_law_288 : decode cL_law 288 = .ok (.ifCond .eq 5, 3) := by decide +kernel
theorem dL_law_291 : decode cL_law 291 = .ok (.iconst 0, 1) := by decide +kernel
theorem dL_law_292 : decode cL_law 292 = .ok (.ireturn, 1) := by decide +kernel
theorem dL_law_293 : decode cL_law 293 = .ok (.goto 1266, 3) := by decide +kernel
theorem dL_law_296 : decode cL_law 296 = .ok (.aload_n 1, 1) := by decide +kernel
theorem dL_law_297 : decode cL_law 297 = .ok (.aload_n 0, 1) := by decide +kernel
theorem dL_law_298 : decode cL_law 298 = .ok (.iload 4, 2) := by decide +kernel
theorem dL_law_300 : decode cL_law 300 = .ok (.iconst 1, 1) := by decide +kernel
theorem dL_law_301 : decode cL_law 301 = .ok (.iadd, 1) := by decide +kernel
theorem dL_law_302 : decode cL_law 302 = .ok (.iaload, 1) := by decide +kernel
theorem dL_law_303 : decode cL_law 303 = .ok (.aload_n 0, 1) := by decide +kernel
theorem dL_law_304 : decode cL_law 304 = .ok (.iload 4, 2) := by decide +kernel
theorem dL_law_306 : decode cL_law 306 = .ok (.iconst 2, 1) := by decide +kernel
theorem dL_law_307 : decode cL_law 307 = .ok (.iadd, 1) := by decide +kernel
theorem dL_law_308 : decode cL_law 308 = .ok (.iaload, 1) := by decide +kernel
theorem dL_law_309 : decode cL_law 309 = .ok (.aload_n 0, 1) := by decide +kernel
theorem dL_law_310 : decode cL_law 310 = .ok (.iload 4, 2) := by decide +kernel
theorem dL_law_312 : decode cL_law 312 = .ok (.iconst 3, 1) := by decide +kernel
theorem dL_law_313 : decode cL_law 313 = .ok (.iadd, 1) := by decide +kernel
theorem dL_law_314 : decode cL_law 314 = .ok (.iaload, 1) := by decide +kernel
theorem dL_law_315 : decode cL_law 315 = .ok (.aload_n 3, 1) := by decide +kernel
theorem dL_law_316 : decode cL_law 316 = .ok (.invokestatic 96, 3) := by decide +kernel
theorem dL_law_319 : decode cL_law 319 = .ok (.istore 5, 2) := by decide +kernel
theorem dL_law_321 : decode cL_law 321 = .ok (.aload_n 2, 1) := by decide +kernel
theorem dL_law_322 : decode cL_law 322 = .ok (.aload_n 0, 1) := by decide +kernel
theorem dL_law_323 : decode cL_law 323 = .ok (.iload 4, 2) := by decide +kernel
theorem dL_law_325 : decode cL_law 325 = .ok (.iconst 1, 1) := by decide +kernel
theorem dL_law_326 : decode cL_law 326 = .ok (.iadd, 1) := by decide +kernel
theorem dL_law_327 : decode cL_law 327 = .ok (.iaload, 1) := by decide +kernel
theorem dL_law_328 : decode cL_law 328 = .ok (.aload_n 0, 1) := by decide +kernel
theorem dL_law_329 : decode cL_law 329 = .ok (.iload 4, 2) := by decide +kernel
theorem dL_law_331 : decode cL_law 331 = .ok (.iconst 2, 1) := by decide +kernel
theorem dL_law_332 : decode cL_law 332 = .ok (.iadd, 1) := by decide +kernel
theorem dL_law_333 : decode cL_law 333 = .ok (.iaload, 1) := by decide +kernel
theorem dL_law_334 : decode cL_law 334 = .ok (.aload_n 0, 1) := by decide +kernel
theorem dL_law_335 : decode cL_law 335 = .ok (.iload 4, 2) := by decide +kernel
theorem dL_law_337 : decode cL_law 337 = .ok (.iconst 3, 1) := by decide +kernel
theorem dL_law_338 : decode cL_law 338 = .ok (.iadd, 1) := by decide +kernel
theorem dL_law_339 : decode cL_law 339 = .ok (.iaload, 1) := by decide +kernel
theorem dL_law_340 : decode cL_law 340 = .ok (.invokevirtual 98, 3) := by decide +kernel
theorem dL_law_343 : decode cL_law 343 = .ok (.istore 6, 2) := by decide +kernel
theorem dL_law_345 : decode cL_law 345 = .ok (.aload_n 2, 1) := by decide +kernel
theorem dL_law_346 : decode cL_law 346 = .ok (.invokevirtual 89, 3) := by decide +kernel
theorem dL_law_349 : decode cL_law 349 = .ok (.iload 5, 2) := by decide +kernel
theorem dL_law_351 : decode cL_law 351 = .ok (.if_icmp .eq 5, 3) := by decide +kernel
theorem dL_law_354 : decode cL_law 354 = .ok (.iconst 0, 1) := by decide +kernel
theorem dL_law_355 : decode cL_law 355 = .ok (.ireturn, 1) := by decide +kernel
theorem dL_law_356 : decode cL_law 356 = .ok (.iload 5, 2) := by decide +kernel
theorem dL_law_358 : decode cL_law 358 = .ok (.ifCond .ne 15, 3) := by decide +kernel
theorem dL_law_361 : decode cL_law 361 = .ok (.aload_n 3, 1) := by decide +kernel
theorem dL_law_362 : decode cL_law 362 = .ok (.iconst 0, 1) := by decide +kernel
theorem dL_law_363 : decode cL_law 363 = .ok (.laload, 1) := by decide +kernel
theorem dL_law_364 : decode cL_law 364 = .ok (.iload 6, 2) := by decide +kernel
theorem dL_law_366 : decode cL_law 366 = .ok (.i2l, 1) := by decide +kernel
theorem dL_law_367 : decode cL_law 367 = .ok (.lcmp, 1) := by decide +kernel
theorem dL_law_368 : decode cL_law 368 = .ok (.ifCond .eq 5, 3) := by decide +kernel
theorem dL_law_371 : decode cL_law 371 = .ok (.iconst 0, 1) := by decide +kernel
theorem dL_law_372 : decode cL_law 372 = .ok (.ireturn, 1) := by decide +kernel
theorem dL_law_373 : decode cL_law 373 = .ok (.goto 1186, 3) := by decide +kernel
theorem dL_law_376 : decode cL_law 376 = .ok (.aload_n 1, 1) := by decide +kernel
theorem dL_law_377 : decode cL_law 377 = .ok (.aload_n 0, 1) := by decide +kernel
theorem dL_law_378 : decode cL_law 378 = .ok (.iload 4, 2) := by decide +kernel
theorem dL_law_380 : decode cL_law 380 = .ok (.iconst 1, 1) := by decide +kernel
theorem dL_law_381 : decode cL_law 381 = .ok (.iadd, 1) := by decide +kernel
theorem dL_law_382 : decode cL_law 382 = .ok (.iaload, 1) := by decide +kernel
theorem dL_law_383 : decode cL_law 383 = .ok (.aload_n 0, 1) := by decide +kernel
theorem dL_law_384 : decode cL_law 384 = .ok (.iload 4, 2) := by decide +kernel
theorem dL_law_386 : decode cL_law 386 = .ok (.iconst 2, 1) := by decide +kernel
theorem dL_law_387 : decode cL_law 387 = .ok (.iadd, 1) := by decide +kernel
theorem dL_law_388 : decode cL_law 388 = .ok (.iaload, 1) := by decide +kernel
theorem dL_law_389 : decode cL_law 389 = .ok (.aload_n 0, 1) := by decide +kernel
theorem dL_law_390 : decode cL_law 390 = .ok (.iload 4, 2) := by decide +kernel
theorem dL_law_392 : decode cL_law 392 = .ok (.iconst 3, 1) := by decide +kernel
theorem dL_law_393 : decode cL_law 393 = .ok (.iadd, 1) := by decide +kernel
theorem dL_law_394 : decode cL_law 394 = .ok (.iaload, 1) := by decide +kernel
theorem dL_law_395 : decode cL_law 395 = .ok (.aload_n 3, 1) := by decide +kernel
theorem dL_law_396 : decode cL_law 396 = .ok (.invokestatic 99, 3) := by decide +kernel
theorem dL_law_399 : decode cL_law 399 = .ok (.istore 5, 2) := by decide +kernel
theorem dL_law_401 : decode cL_law 401 = .ok (.aload_n 2, 1) := by decide +kernel
theorem dL_law_402 : decode cL_law 402 = .ok (.aload_n 0, 1) := by decide +kernel
theorem dL_law_403 : decode cL_law 403 = .ok (.iload 4, 2) := by decide +kernel
theorem dL_law_405 : decode cL_law 405 = .ok (.iconst 1, 1) := by decide +kernel
theorem dL_law_406 : decode cL_law 406 = .ok (.iadd, 1) := by decide +kernel
theorem dL_law_407 : decode cL_law 407 = .ok (.iaload, 1) := by decide +kernel
theorem dL_law_408 : decode cL_law 408 = .ok (.aload_n 0, 1) := by decide +kernel
theorem dL_law_409 : decode cL_law 409 = .ok (.iload 4, 2) := by decide +kernel
theorem dL_law_411 : decode cL_law 411 = .ok (.iconst 2, 1) := by decide +kernel
theorem dL_law_412 : decode cL_law 412 = .ok (.iadd, 1) := by decide +kernel
theorem dL_law_413 : decode cL_law 413 = .ok (.iaload, 1) := by decide +kernel
theorem dL_law_414 : decode cL_law 414 = .ok (.aload_n 0, 1) := by decide +kernel
theorem dL_law_415 : decode cL_law 415 = .ok (.iload 4, 2) := by decide +kernel
theorem dL_law_417 : decode cL_law 417 = .ok (.iconst 3, 1) := by decide +kernel
theorem dL_law_418 : decode cL_law 418 = .ok (.iadd, 1) := by decide +kernel
theorem dL_law_419 : decode cL_law 419 = .ok (.iaload, 1) := by decide +kernel
theorem dL_law_420 : decode cL_law 420 = .ok (.invokevirtual 101, 3) := by decide +kernel
theorem dL_law_423 : decode cL_law 423 = .ok (.istore 6, 2) := by decide +kernel
theorem dL_law_425 : decode cL_law 425 = .ok (.aload_n 2, 1) := by decide +kernel
theorem dL_law_426 : decode cL_law 426 = .ok (.invokevirtual 89, 3) := by decide +kernel
theorem dL_law_429 : decode cL_law 429 = .ok (.iload 5, 2) := by decide +kernel
theorem dL_law_431 : decode cL_law 431 = .ok (.if_icmp .eq 5, 3) := by decide +kernel
theorem dL_law_434 : decode cL_law 434 = .ok (.iconst 0, 1) := by decide +kernel
theorem dL_law_435 : decode cL_law 435 = .ok (.ireturn, 1) := by decide +kernel
theorem dL_law_436 : decode cL_law 436 = .ok (.iload 5, 2) := by decide +kernel
theorem dL_law_438 : decode cL_law 438 = .ok (.ifCond .ne 15, 3) := by decide +kernel
theorem dL_law_441 : decode cL_law 441 = .ok (.aload_n 3, 1) := by decide +kernel
theorem dL_law_442 : decode cL_law 442 = .ok (.iconst 0, 1) := by decide +kernel
theorem dL_law_443 : decode cL_law 443 = .ok (.laload, 1) := by decide +kernel
theorem dL_law_444 : decode cL_law 444 = .ok (.iload 6, 2) := by decide +kernel
theorem dL_law_446 : decode cL_law 446 = .ok (.i2l, 1) := by decide +kernel
theorem dL_law_447 : decode cL_law 447 = .ok (.lcmp, 1) := by decide +kernel
theorem dL_law_448 : decode cL_law 448 = .ok (.ifCond .eq 5, 3) := by decide +kernel
theorem dL_law_451 : decode cL_law 451 = .ok (.iconst 0, 1) := by decide +kernel
theorem dL_law_452 : decode cL_law 452 = .ok (.ireturn, 1) := by decide +kernel
theorem dL_law_453 : decode cL_law 453 = .ok (.goto 1106, 3) := by decide +kernel
theorem dL_law_456 : decode cL_law 456 = .ok (.aload_n 1, 1) := by decide +kernel
theorem dL_law_457 : decode cL_law 457 = .ok (.aload_n 0, 1) := by decide +kernel
theorem dL_law_458 : decode cL_law 458 = .ok (.iload 4, 2) := by decide +kernel
theorem dL_law_460 : decode cL_law 460 = .ok (.iconst 1, 1) := by decide +kernel
theorem dL_law_461 : decode cL_law 461 = .ok (.iadd, 1) := by decide +kernel
theorem dL_law_462 : decode cL_law 462 = .ok (.iaload, 1) := by decide +kernel
theorem dL_law_463 : decode cL_law 463 = .ok (.aload_n 3, 1) := by decide +kernel
theorem dL_law_464 : decode cL_law 464 = .ok (.invokestatic 102, 3) := by decide +kernel
theorem dL_law_467 : decode cL_law 467 = .ok (.istore 5, 2) := by decide +kernel
theorem dL_law_469 : decode cL_law 469 = .ok (.aload_n 2, 1) := by decide +kernel
theorem dL_law_470 : decode cL_law 470 = .ok (.aload_n 0, 1) := by decide +kernel
theorem dL_law_471 : decode cL_law 471 = .ok (.iload 4, 2) := by decide +kernel
theorem dL_law_473 : decode cL_law 473 = .ok (.iconst 1, 1) := by decide +kernel
theorem dL_law_474 : decode cL_law 474 = .ok (.iadd, 1) := by decide +kernel
theorem dL_law_475 : decode cL_law 475 = .ok (.iaload, 1) := by decide +kernel
theorem dL_law_476 : decode cL_law 476 = .ok (.invokevirtual 105, 3) := by decide +kernel
theorem dL_law_479 : decode cL_law 479 = .ok (.istore 6, 2) := by decide +kernel
theorem dL_law_481 : decode cL_law 481 = .ok (.aload_n 2, 1) := by decide +kernel
theorem dL_law_482 : decode cL_law 482 = .ok (.invokevirtual 89, 3) := by decide +kernel
theorem dL_law_485 : decode cL_law 485 = .ok (.iload 5, 2) := by decide +kernel
theorem dL_law_487 : decode cL_law 487 = .ok (.if_icmp .eq 5, 3) := by decide +kernel
theorem dL_law_490 : decode cL_law 490 = .ok (.iconst 0, 1) := by decide +kernel
theorem dL_law_491 : decode cL_law 491 = .ok (.ireturn, 1) := by decide +kernel
theorem dL_law_492 : decode cL_law 492 = .ok (.iload 5, 2) := by decide +kernel
theorem dL_law_494 : decode cL_law 494 = .ok (.ifCond .ne 15, 3) := by decide +kernel
theorem dL_law_497 : decode cL_law 497 = .ok (.aload_n 3, 1) := by decide +kernel
theorem dL_law_498 : decode cL_law 498 = .ok (.iconst 0, 1) := by decide +kernel
theorem dL_law_499 : decode cL_law 499 = .ok (.laload, 1) := by decide +kernel
theorem dL_law_500 : decode cL_law 500 = .ok (.iload 6, 2) := by decide +kernel
theorem dL_law_502 : decode cL_law 502 = .ok (.i2l, 1) := by decide +kernel
theorem dL_law_503 : decode cL_law 503 = .ok (.lcmp, 1) := by decide +kernel
theorem dL_law_504 : decode cL_law 504 = .ok (.ifCond .eq 5, 3) := by decide +kernel
theorem dL_law_507 : decode cL_law 507 = .ok (.iconst 0, 1) := by decide +kernel
theorem dL_law_508 : decode cL_law 508 = .ok (.ireturn, 1) := by decide +kernel
theorem dL_law_509 : decode cL_law 509 = .ok (.goto 1050, 3) := by decide +kernel
theorem dL_law_512 : decode cL_law 512 = .ok (.aload_n 1, 1) := by decide +kernel
theorem dL_law_513 : decode cL_law 513 = .ok (.invokevirtual 106, 3) := by decide +kernel
theorem dL_law_516 : decode cL_law 516 = .ok (.aload_n 2, 1) := by decide +kernel
theorem dL_law_517 : decode cL_law 517 = .ok (.invokevirtual 109, 3) := by decide +kernel
theorem dL_law_520 : decode cL_law 520 = .ok (.if_icmp .eq 1039, 3) := by decide +kernel
theorem dL_law_523 : decode cL_law 523 = .ok (.iconst 0, 1) := by decide +kernel
theorem dL_law_524 : decode cL_law 524 = .ok (.ireturn, 1) := by decide +kernel
theorem dL_law_525 : decode cL_law 525 = .ok (.aload_n 1, 1) := by decide +kernel
theorem dL_law_526 : decode cL_law 526 = .ok (.invokevirtual 110, 3) := by decide +kernel
theorem dL_law_529 : decode cL_law 529 = .ok (.aload_n 2, 1) := by decide +kernel
theorem dL_law_530 : decode cL_law 530 = .ok (.invokevirtual 113, 3) := by decide +kernel
theorem dL_law_533 : decode cL_law 533 = .ok (.if_icmp .eq 1026, 3) := by decide +kernel
theorem dL_law_536 : decode cL_law 536 = .ok (.iconst 0, 1) := by decide +kernel
theorem dL_law_537 : decode cL_law 537 = .ok (.ireturn, 1) := by decide +kernel
theorem dL_law_538 : decode cL_law 538 = .ok (.aload_n 1, 1) := by decide +kernel
theorem dL_law_539 : decode cL_law 539 = .ok (.aload_n 0, 1) := by decide +kernel
theorem dL_law_540 : decode cL_law 540 = .ok (.iload 4, 2) := by decide +kernel
theorem dL_law_542 : decode cL_law 542 = .ok (.iconst 1, 1) := by decide +kernel
theorem dL_law_543 : decode cL_law 543 = .ok (.iadd, 1) := by decide +kernel
theorem dL_law_544 : decode cL_law 544 = .ok (.iaload, 1) := by decide +kernel
theorem dL_law_545 : decode cL_law 545 = .ok (.aload_n 3, 1) := by decide +kernel
theorem dL_law_546 : decode cL_law 546 = .ok (.invokestatic 114, 3) := by decide +kernel
theorem dL_law_549 : decode cL_law 549 = .ok (.istore 5, 2) := by decide +kernel
theorem dL_law_551 : decode cL_law 551 = .ok (.aload_n 2, 1) := by decide +kernel
theorem dL_law_552 : decode cL_law 552 = .ok (.aload_n 0, 1) := by decide +kernel
theorem dL_law_553 : decode cL_law 553 = .ok (.iload 4, 2) := by decide +kernel
theorem dL_law_555 : decode cL_law 555 = .ok (.iconst 1, 1) := by decide +kernel
theorem dL_law_556 : decode cL_law 556 = .ok (.iadd, 1) := by decide +kernel
theorem dL_law_557 : decode cL_law 557 = .ok (.iaload, 1) := by decide +kernel
theorem dL_law_558 : decode cL_law 558 = .ok (.invokevirtual 116, 3) := by decide +kernel
theorem dL_law_561 : decode cL_law 561 = .ok (.istore 6, 2) := by decide +kernel
theorem dL_law_563 : decode cL_law 563 = .ok (.aload_n 2, 1) := by decide +kernel
theorem dL_law_564 : decode cL_law 564 = .ok (.invokevirtual 89, 3) := by decide +kernel
theorem dL_law_567 : decode cL_law 567 = .ok (.iload 5, 2) := by decide +kernel
theorem dL_law_569 : decode cL_law 569 = .ok (.if_icmp .eq 5, 3) := by decide +kernel
theorem dL_law_572 : decode cL_law 572 = .ok (.iconst 0, 1) := by decide +kernel
theorem dL_law_573 : decode cL_law 573 = .ok (.ireturn, 1) := by decide +kernel
theorem dL_law_574 : decode cL_law 574 = .ok (.iload 5, 2) := by decide +kernel
theorem dL_law_576 : decode cL_law 576 = .ok (.ifCond .ne 15, 3) := by decide +kernel
theorem dL_law_579 : decode cL_law 579 = .ok (.aload_n 3, 1) := by decide +kernel
theorem dL_law_580 : decode cL_law 580 = .ok (.iconst 0, 1) := by decide +kernel
theorem dL_law_581 : decode cL_law 581 = .ok (.laload, 1) := by decide +kernel
theorem dL_law_582 : decode cL_law 582 = .ok (.iload 6, 2) := by decide +kernel
theorem dL_law_584 : decode cL_law 584 = .ok (.i2l, 1) := by decide +kernel
theorem dL_law_585 : decode cL_law 585 = .ok (.lcmp, 1) := by decide +kernel
theorem dL_law_586 : decode cL_law 586 = .ok (.ifCond .eq 5, 3) := by decide +kernel
theorem dL_law_589 : decode cL_law 589 = .ok (.iconst 0, 1) := by decide +kernel
theorem dL_law_590 : decode cL_law 590 = .ok (.ireturn, 1) := by decide +kernel
theorem dL_law_591 : decode cL_law 591 = .ok (.goto 968, 3) := by decide +kernel
theorem dL_law_594 : decode cL_law 594 = .ok (.aload_n 1, 1) := by decide +kernel
theorem dL_law_595 : decode cL_law 595 = .ok (.aload_n 0, 1) := by decide +kernel
theorem dL_law_596 : decode cL_law 596 = .ok (.iload 4, 2) := by decide +kernel
theorem dL_law_598 : decode cL_law 598 = .ok (.iconst 1, 1) := by decide +kernel
theorem dL_law_599 : decode cL_law 599 = .ok (.iadd, 1) := by decide +kernel
theorem dL_law_600 : decode cL_law 600 = .ok (.iaload, 1) := by decide +kernel
theorem dL_law_601 : decode cL_law 601 = .ok (.aload_n 3, 1) := by decide +kernel
theorem dL_law_602 : decode cL_law 602 = .ok (.invokestatic 117, 3) := by decide +kernel
theorem dL_law_605 : decode cL_law 605 = .ok (.istore 5, 2) := by decide +kernel
theorem dL_law_607 : decode cL_law 607 = .ok (.aload_n 2, 1) := by decide +kernel
theorem dL_law_608 : decode cL_law 608 = .ok (.aload_n 0, 1) := by decide +kernel
theorem dL_law_609 : decode cL_law 609 = .ok (.iload 4, 2) := by decide +kernel
theorem dL_law_611 : decode cL_law 611 = .ok (.iconst 1, 1) := by decide +kernel
theorem dL_law_612 : decode cL_law 612 = .ok (.iadd, 1) := by decide +kernel
theorem dL_law_613 : decode cL_law 613 = .ok (.iaload, 1) := by decide +kernel
theorem dL_law_614 : decode cL_law 614 = .ok (.invokevirtual 119, 3) := by decide +kernel
theorem dL_law_617 : decode cL_law 617 = .ok (.istore 6, 2) := by decide +kernel
theorem dL_law_619 : decode cL_law 619 = .ok (.aload_n 2, 1) := by decide +kernel
theorem dL_law_620 : decode cL_law 620 = .ok (.invokevirtual 89, 3) := by decide +kernel
theorem dL_law_623 : decode cL_law 623 = .ok (.iload 5, 2) := by decide +kernel
theorem dL_law_625 : decode cL_law 625 = .ok (.if_icmp .eq 5, 3) := by decide +kernel
theorem dL_law_628 : decode cL_law 628 = .ok (.iconst 0, 1) := by decide +kernel
theorem dL_law_629 : decode cL_law 629 = .ok (.ireturn, 1) := by decide +kernel
theorem dL_law_630 : decode cL_law 630 = .ok (.iload 5, 2) := by decide +kernel
theorem dL_law_632 : decode cL_law 632 = .ok (.ifCond .ne 15, 3) := by decide +kernel
theorem dL_law_635 : decode cL_law 635 = .ok (.aload_n 3, 1) := by decide +kernel
theorem dL_law_636 : decode cL_law 636 = .ok (.iconst 0, 1) := by decide +kernel
theorem dL_law_637 : decode cL_law 637 = .ok (.laload, 1) := by decide +kernel
theorem dL_law_638 : decode cL_law 638 = .ok (.iload 6, 2) := by decide +kernel
theorem dL_law_640 : decode cL_law 640 = .ok (.i2l, 1) := by decide +kernel
theorem dL_law_641 : decode cL_law 641 = .ok (.lcmp, 1) := by decide +kernel
theorem dL_law_642 : decode cL_law 642 = .ok (.ifCond .eq 5, 3) := by decide +kernel
theorem dL_law_645 : decode cL_law 645 = .ok (.iconst 0, 1) := by decide +kernel
theorem dL_law_646 : decode cL_law 646 = .ok (.ireturn, 1) := by decide +kernel
theorem dL_law_647 : decode cL_law 647 = .ok (.goto 912, 3) := by decide +kernel
theorem dL_law_650 : decode cL_law 650 = .ok (.aload_n 1, 1) := by decide +kernel
theorem dL_law_651 : decode cL_law 651 = .ok (.aload_n 0, 1) := by decide +kernel
theorem dL_law_652 : decode cL_law 652 = .ok (.iload 4, 2) := by decide +kernel
theorem dL_law_654 : decode cL_law 654 = .ok (.iconst 1, 1) := by decide +kernel
theorem dL_law_655 : decode cL_law 655 = .ok (.iadd, 1) := by decide +kernel
theorem dL_law_656 : decode cL_law 656 = .ok (.iaload, 1) := by decide +kernel
theorem dL_law_657 : decode cL_law 657 = .ok (.aload_n 3, 1) := by decide +kernel
theorem dL_law_658 : decode cL_law 658 = .ok (.invokestatic 120, 3) := by decide +kernel
theorem dL_law_661 : decode cL_law 661 = .ok (.istore 5, 2) := by decide +kernel
theorem dL_law_663 : decode cL_law 663 = .ok (.aload_n 2, 1) := by decide +kernel
theorem dL_law_664 : decode cL_law 664 = .ok (.aload_n 0, 1) := by decide +kernel
theorem dL_law_665 : decode cL_law 665 = .ok (.iload 4, 2) := by decide +kernel
theorem dL_law_667 : decode cL_law 667 = .ok (.iconst 1, 1) := by decide +kernel
theorem dL_law_668 : decode cL_law 668 = .ok (.iadd, 1) := by decide +kernel
theorem dL_law_669 : decode cL_law 669 = .ok (.iaload, 1) := by decide +kernel
theorem dL_law_670 : decode cL_law 670 = .ok (.invokevirtual 122, 3) := by decide +kernel
theorem dL_law_673 : decode cL_law 673 = .ok (.istore 6, 2) := by decide +kernel
theorem dL_law_675 : decode cL_law 675 = .ok (.aload_n 2, 1) := by decide +kernel
theorem dL_law_676 : decode cL_law 676 = .ok (.invokevirtual 89, 3) := by decide +kernel
theorem dL_law_679 : decode cL_law 679 = .ok (.iload 5, 2) := by decide +kernel
theorem dL_law_681 : decode cL_law 681 = .ok (.if_icmp .eq 5, 3) := by decide +kernel
theorem dL_law_684 : decode cL_law 684 = .ok (.iconst 0, 1) := by decide +kernel
theorem dL_law_685 : decode cL_law 685 = .ok (.ireturn, 1) := by decide +kernel
theorem dL_law_686 : decode cL_law 686 = .ok (.iload 5, 2) := by decide +kernel
theorem dL_law_688 : decode cL_law 688 = .ok (.ifCond .ne 15, 3) := by decide +kernel
theorem dL_law_691 : decode cL_law 691 = .ok (.aload_n 3, 1) := by decide +kernel
theorem dL_law_692 : decode cL_law 692 = .ok (.iconst 0, 1) := by decide +kernel
theorem dL_law_693 : decode cL_law 693 = .ok (.laload, 1) := by decide +kernel
theorem dL_law_694 : decode cL_law 694 = .ok (.iload 6, 2) := by decide +kernel
theorem dL_law_696 : decode cL_law 696 = .ok (.i2l, 1) := by decide +kernel
theorem dL_law_697 : decode cL_law 697 = .ok (.lcmp, 1) := by decide +kernel
theorem dL_law_698 : decode cL_law 698 = .ok (.ifCond .eq 5, 3) := by decide +kernel
theorem dL_law_701 : decode cL_law 701 = .ok (.iconst 0, 1) := by decide +kernel
theorem dL_law_702 : decode cL_law 702 = .ok (.ireturn, 1) := by decide +kernel
theorem dL_law_703 : decode cL_law 703 = .ok (.goto 856, 3) := by decide +kernel
theorem dL_law_706 : decode cL_law 706 = .ok (.aload_n 1, 1) := by decide +kernel
theorem dL_law_707 : decode cL_law 707 = .ok (.aload_n 0, 1) := by decide +kernel
theorem dL_law_708 : decode cL_law 708 = .ok (.iload 4, 2) := by decide +kernel
theorem dL_law_710 : decode cL_law 710 = .ok (.iconst 1, 1) := by decide +kernel
theorem dL_law_711 : decode cL_law 711 = .ok (.iadd, 1) := by decide +kernel
theorem dL_law_712 : decode cL_law 712 = .ok (.iaload, 1) := by decide +kernel
theorem dL_law_713 : decode cL_law 713 = .ok (.aload_n 3, 1) := by decide +kernel
theorem dL_law_714 : decode cL_law 714 = .ok (.invokestatic 123, 3) := by decide +kernel
theorem dL_law_717 : decode cL_law 717 = .ok (.istore 5, 2) := by decide +kernel
theorem dL_law_719 : decode cL_law 719 = .ok (.aload_n 2, 1) := by decide +kernel
theorem dL_law_720 : decode cL_law 720 = .ok (.aload_n 0, 1) := by decide +kernel
theorem dL_law_721 : decode cL_law 721 = .ok (.iload 4, 2) := by decide +kernel
theorem dL_law_723 : decode cL_law 723 = .ok (.iconst 1, 1) := by decide +kernel
theorem dL_law_724 : decode cL_law 724 = .ok (.iadd, 1) := by decide +kernel
theorem dL_law_725 : decode cL_law 725 = .ok (.iaload, 1) := by decide +kernel
theorem dL_law_726 : decode cL_law 726 = .ok (.invokevirtual 125, 3) := by decide +kernel
theorem dL_law_729 : decode cL_law 729 = .ok (.istore 6, 2) := by decide +kernel
theorem dL_law_731 : decode cL_law 731 = .ok (.aload_n 2, 1) := by decide +kernel
theorem dL_law_732 : decode cL_law 732 = .ok (.invokevirtual 89, 3) := by decide +kernel
theorem dL_law_735 : decode cL_law 735 = .ok (.iload 5, 2) := by decide +kernel
theorem dL_law_737 : decode cL_law 737 = .ok (.if_icmp .eq 5, 3) := by decide +kernel
theorem dL_law_740 : decode cL_law 740 = .ok (.iconst 0, 1) := by decide +kernel
theorem dL_law_741 : decode cL_law 741 = .ok (.ireturn, 1) := by decide +kernel
theorem dL_law_742 : decode cL_law 742 = .ok (.iload 5, 2) := by decide +kernel
theorem dL_law_744 : decode cL_law 744 = .ok (.ifCond .ne 15, 3) := by decide +kernel
theorem dL_law_747 : decode cL_law 747 = .ok (.aload_n 3, 1) := by decide +kernel
theorem dL_law_748 : decode cL_law 748 = .ok (.iconst 0, 1) := by decide +kernel
theorem dL_law_749 : decode cL_law 749 = .ok (.laload, 1) := by decide +kernel
theorem dL_law_750 : decode cL_law 750 = .ok (.iload 6, 2) := by decide +kernel
theorem dL_law_752 : decode cL_law 752 = .ok (.i2l, 1) := by decide +kernel
theorem dL_law_753 : decode cL_law 753 = .ok (.lcmp, 1) := by decide +kernel
theorem dL_law_754 : decode cL_law 754 = .ok (.ifCond .eq 5, 3) := by decide +kernel
theorem dL_law_757 : decode cL_law 757 = .ok (.iconst 0, 1) := by decide +kernel
theorem dL_law_758 : decode cL_law 758 = .ok (.ireturn, 1) := by decide +kernel
theorem dL_law_759 : decode cL_law 759 = .ok (.goto 800, 3) := by decide +kernel
theorem dL_law_762 : decode cL_law 762 = .ok (.aload_n 1, 1) := by decide +kernel
theorem dL_law_763 : decode cL_law 763 = .ok (.aload_n 0, 1) := by decide +kernel
theorem dL_law_764 : decode cL_law 764 = .ok (.iload 4, 2) := by decide +kernel
theorem dL_law_766 : decode cL_law 766 = .ok (.iconst 1, 1) := by decide +kernel
theorem dL_law_767 : decode cL_law 767 = .ok (.iadd, 1) := by decide +kernel
theorem dL_law_768 : decode cL_law 768 = .ok (.iaload, 1) := by decide +kernel
theorem dL_law_769 : decode cL_law 769 = .ok (.aload_n 3, 1) := by decide +kernel
theorem dL_law_770 : decode cL_law 770 = .ok (.invokestatic 126, 3) := by decide +kernel
theorem dL_law_773 : decode cL_law 773 = .ok (.istore 5, 2) := by decide +kernel
theorem dL_law_775 : decode cL_law 775 = .ok (.aload_n 2, 1) := by decide +kernel
theorem dL_law_776 : decode cL_law 776 = .ok (.aload_n 0, 1) := by decide +kernel
theorem dL_law_777 : decode cL_law 777 = .ok (.iload 4, 2) := by decide +kernel
theorem dL_law_779 : decode cL_law 779 = .ok (.iconst 1, 1) := by decide +kernel
theorem dL_law_780 : decode cL_law 780 = .ok (.iadd, 1) := by decide +kernel
theorem dL_law_781 : decode cL_law 781 = .ok (.iaload, 1) := by decide +kernel
theorem dL_law_782 : decode cL_law 782 = .ok (.invokevirtual 128, 3) := by decide +kernel
theorem dL_law_785 : decode cL_law 785 = .ok (.istore 6, 2) := by decide +kernel
theorem dL_law_787 : decode cL_law 787 = .ok (.aload_n 2, 1) := by decide +kernel
theorem dL_law_788 : decode cL_law 788 = .ok (.invokevirtual 89, 3) := by decide +kernel
theorem dL_law_791 : decode cL_law 791 = .ok (.iload 5, 2) := by decide +kernel
theorem dL_law_793 : decode cL_law 793 = .ok (.if_icmp .eq 5, 3) := by decide +kernel
theorem dL_law_796 : decode cL_law 796 = .ok (.iconst 0, 1) := by decide +kernel
theorem dL_law_797 : decode cL_law 797 = .ok (.ireturn, 1) := by decide +kernel
theorem dL_law_798 : decode cL_law 798 = .ok (.iload 5, 2) := by decide +kernel
theorem dL_law_800 : decode cL_law 800 = .ok (.ifCond .ne 15, 3) := by decide +kernel
theorem dL_law_803 : decode cL_law 803 = .ok (.aload_n 3, 1) := by decide +kernel
theorem dL_law_804 : decode cL_law 804 = .ok (.iconst 0, 1) := by decide +kernel
theorem dL_law_805 : decode cL_law 805 = .ok (.laload, 1) := by decide +kernel
theorem dL_law_806 : decode cL_law 806 = .ok (.iload 6, 2) := by decide +kernel
theorem dL_law_808 : decode cL_law 808 = .ok (.i2l, 1) := by decide +kernel
theorem dL_law_809 : decode cL_law 809 = .ok (.lcmp, 1) := by decide +kernel
theorem dL_law_810 : decode cL_law 810 = .ok (.ifCond .eq 5, 3) := by decide +kernel
theorem dL_law_813 : decode cL_law 813 = .ok (.iconst 0, 1) := by decide +kernel
theorem dL_law_814 : decode cL_law 814 = .ok (.ireturn, 1) := by decide +kernel
theorem dL_law_815 : decode cL_law 815 = .ok (.goto 744, 3) := by decide +kernel
theorem dL_law_818 : decode cL_law 818 = .ok (.aload_n 1, 1) := by decide +kernel
theorem dL_law_819 : decode cL_law 819 = .ok (.aload_n 0, 1) := by decide +kernel
theorem dL_law_820 : decode cL_law 820 = .ok (.iload 4, 2) := by decide +kernel
theorem dL_law_822 : decode cL_law 822 = .ok (.iconst 1, 1) := by decide +kernel
theorem dL_law_823 : decode cL_law 823 = .ok (.iadd, 1) := by decide +kernel
theorem dL_law_824 : decode cL_law 824 = .ok (.iaload, 1) := by decide +kernel
theorem dL_law_825 : decode cL_law 825 = .ok (.aload_n 3, 1) := by decide +kernel
theorem dL_law_826 : decode cL_law 826 = .ok (.invokestatic 129, 3) := by decide +kernel
theorem dL_law_829 : decode cL_law 829 = .ok (.istore 5, 2) := by decide +kernel
theorem dL_law_831 : decode cL_law 831 = .ok (.aload_n 2, 1) := by decide +kernel
theorem dL_law_832 : decode cL_law 832 = .ok (.aload_n 0, 1) := by decide +kernel
theorem dL_law_833 : decode cL_law 833 = .ok (.iload 4, 2) := by decide +kernel
theorem dL_law_835 : decode cL_law 835 = .ok (.iconst 1, 1) := by decide +kernel
theorem dL_law_836 : decode cL_law 836 = .ok (.iadd, 1) := by decide +kernel
theorem dL_law_837 : decode cL_law 837 = .ok (.iaload, 1) := by decide +kernel
theorem dL_law_838 : decode cL_law 838 = .ok (.invokevirtual 131, 3) := by decide +kernel
theorem dL_law_841 : decode cL_law 841 = .ok (.istore 6, 2) := by decide +kernel
theorem dL_law_843 : decode cL_law 843 = .ok (.aload_n 2, 1) := by decide +kernel
theorem dL_law_844 : decode cL_law 844 = .ok (.invokevirtual 89, 3) := by decide +kernel
theorem dL_law_847 : decode cL_law 847 = .ok (.iload 5, 2) := by decide +kernel
theorem dL_law_849 : decode cL_law 849 = .ok (.if_icmp .eq 5, 3) := by decide +kernel
theorem dL_law_852 : decode cL_law 852 = .ok (.iconst 0, 1) := by decide +kernel
theorem dL_law_853 : decode cL_law 853 = .ok (.ireturn, 1) := by decide +kernel
theorem dL_law_854 : decode cL_law 854 = .ok (.iload 5, 2) := by decide +kernel
theorem dL_law_856 : decode cL_law 856 = .ok (.ifCond .ne 15, 3) := by decide +kernel
theorem dL_law_859 : decode cL_law 859 = .ok (.aload_n 3, 1) := by decide +kernel
theorem dL_law_860 : decode cL_law 860 = .ok (.iconst 0, 1) := by decide +kernel
theorem dL_law_861 : decode cL_law 861 = .ok (.laload, 1) := by decide +kernel
theorem dL_law_862 : decode cL_law 862 = .ok (.iload 6, 2) := by decide +kernel
theorem dL_law_864 : decode cL_law 864 = .ok (.i2l, 1) := by decide +kernel
theorem dL_law_865 : decode cL_law 865 = .ok (.lcmp, 1) := by decide +kernel
theorem dL_law_866 : decode cL_law 866 = .ok (.ifCond .eq 5, 3) := by decide +kernel
theorem dL_law_869 : decode cL_law 869 = .ok (.iconst 0, 1) := by decide +kernel
theorem dL_law_870 : decode cL_law 870 = .ok (.ireturn, 1) := by decide +kernel
theorem dL_law_871 : decode cL_law 871 = .ok (.goto 688, 3) := by decide +kernel
theorem dL_law_874 : decode cL_law 874 = .ok (.aload_n 1, 1) := by decide +kernel
theorem dL_law_875 : decode cL_law 875 = .ok (.invokevirtual 132, 3) := by decide +kernel
theorem dL_law_878 : decode cL_law 878 = .ok (.aload_n 2, 1) := by decide +kernel
theorem dL_law_879 : decode cL_law 879 = .ok (.invokevirtual 135, 3) := by decide +kernel
theorem dL_law_882 : decode cL_law 882 = .ok (.if_icmp .eq 677, 3) := by decide +kernel
theorem dL_law_885 : decode cL_law 885 = .ok (.iconst 0, 1) := by decide +kernel
theorem dL_law_886 : decode cL_law 886 = .ok (.ireturn, 1) := by decide +kernel
theorem dL_law_887 : decode cL_law 887 = .ok (.aload_n 1, 1) := by decide +kernel
theorem dL_law_888 : decode cL_law 888 = .ok (.invokevirtual 136, 3) := by decide +kernel
theorem dL_law_891 : decode cL_law 891 = .ok (.aload_n 2, 1) := by decide +kernel
theorem dL_law_892 : decode cL_law 892 = .ok (.invokevirtual 139, 3) := by decide +kernel
theorem dL_law_895 : decode cL_law 895 = .ok (.if_icmp .eq 664, 3) := by decide +kernel
theorem dL_law_898 : decode cL_law 898 = .ok (.iconst 0, 1) := by decide +kernel
theorem dL_law_899 : decode cL_law 899 = .ok (.ireturn, 1) := by decide +kernel
theorem dL_law_900 : decode cL_law 900 = .ok (.aload_n 1, 1) := by decide +kernel
theorem dL_law_901 : decode cL_law 901 = .ok (.invokevirtual 140, 3) := by decide +kernel
theorem dL_law_904 : decode cL_law 904 = .ok (.aload_n 2, 1) := by decide +kernel
theorem dL_law_905 : decode cL_law 905 = .ok (.invokevirtual 143, 3) := by decide +kernel
theorem dL_law_908 : decode cL_law 908 = .ok (.if_icmp .eq 651, 3) := by decide +kernel
theorem dL_law_911 : decode cL_law 911 = .ok (.iconst 0, 1) := by decide +kernel
theorem dL_law_912 : decode cL_law 912 = .ok (.ireturn, 1) := by decide +kernel
theorem dL_law_913 : decode cL_law 913 = .ok (.aload_n 1, 1) := by decide +kernel
theorem dL_law_914 : decode cL_law 914 = .ok (.aload_n 0, 1) := by decide +kernel
theorem dL_law_915 : decode cL_law 915 = .ok (.iload 4, 2) := by decide +kernel
theorem dL_law_917 : decode cL_law 917 = .ok (.iconst 1, 1) := by decide +kernel
theorem dL_law_918 : decode cL_law 918 = .ok (.iadd, 1) := by decide +kernel
theorem dL_law_919 : decode cL_law 919 = .ok (.iaload, 1) := by decide +kernel
theorem dL_law_920 : decode cL_law 920 = .ok (.aload_n 3, 1) := by decide +kernel
theorem dL_law_921 : decode cL_law 921 = .ok (.invokestatic 144, 3) := by decide +kernel
theorem dL_law_924 : decode cL_law 924 = .ok (.istore 5, 2) := by decide +kernel
theorem dL_law_926 : decode cL_law 926 = .ok (.aload_n 2, 1) := by decide +kernel
theorem dL_law_927 : decode cL_law 927 = .ok (.aload_n 0, 1) := by decide +kernel
theorem dL_law_928 : decode cL_law 928 = .ok (.iload 4, 2) := by decide +kernel
theorem dL_law_930 : decode cL_law 930 = .ok (.iconst 1, 1) := by decide +kernel
theorem dL_law_931 : decode cL_law 931 = .ok (.iadd, 1) := by decide +kernel
theorem dL_law_932 : decode cL_law 932 = .ok (.iaload, 1) := by decide +kernel
theorem dL_law_933 : decode cL_law 933 = .ok (.invokevirtual 146, 3) := by decide +kernel
theorem dL_law_936 : decode cL_law 936 = .ok (.istore 6, 2) := by decide +kernel
theorem dL_law_938 : decode cL_law 938 = .ok (.aload_n 2, 1) := by decide +kernel
theorem dL_law_939 : decode cL_law 939 = .ok (.invokevirtual 89, 3) := by decide +kernel
theorem dL_law_942 : decode cL_law 942 = .ok (.iload 5, 2) := by decide +kernel
theorem dL_law_944 : decode cL_law 944 = .ok (.if_icmp .eq 5, 3) := by decide +kernel
theorem dL_law_947 : decode cL_law 947 = .ok (.iconst 0, 1) := by decide +kernel
theorem dL_law_948 : decode cL_law 948 = .ok (.ireturn, 1) := by decide +kernel
theorem dL_law_949 : decode cL_law 949 = .ok (.iload 5, 2) := by decide +kernel
theorem dL_law_951 : decode cL_law 951 = .ok (.ifCond .ne 15, 3) := by decide +kernel
theorem dL_law_954 : decode cL_law 954 = .ok (.aload_n 3, 1) := by decide +kernel
theorem dL_law_955 : decode cL_law 955 = .ok (.iconst 0, 1) := by decide +kernel
theorem dL_law_956 : decode cL_law 956 = .ok (.laload, 1) := by decide +kernel
theorem dL_law_957 : decode cL_law 957 = .ok (.iload 6, 2) := by decide +kernel
theorem dL_law_959 : decode cL_law 959 = .ok (.i2l, 1) := by decide +kernel
theorem dL_law_960 : decode cL_law 960 = .ok (.lcmp, 1) := by decide +kernel
theorem dL_law_961 : decode cL_law 961 = .ok (.ifCond .eq 5, 3) := by decide +kernel
theorem dL_law_964 : decode cL_law 964 = .ok (.iconst 0, 1) := by decide +kernel
theorem dL_law_965 : decode cL_law 965 = .ok (.ireturn, 1) := by decide +kernel
theorem dL_law_966 : decode cL_law 966 = .ok (.goto 593, 3) := by decide +kernel
theorem dL_law_969 : decode cL_law 969 = .ok (.aload_n 1, 1) := by decide +kernel
theorem dL_law_970 : decode cL_law 970 = .ok (.aload_n 0, 1) := by decide +kernel
theorem dL_law_971 : decode cL_law 971 = .ok (.iload 4, 2) := by decide +kernel
theorem dL_law_973 : decode cL_law 973 = .ok (.iconst 1, 1) := by decide +kernel
theorem dL_law_974 : decode cL_law 974 = .ok (.iadd, 1) := by decide +kernel
theorem dL_law_975 : decode cL_law 975 = .ok (.iaload, 1) := by decide +kernel
theorem dL_law_976 : decode cL_law 976 = .ok (.aload_n 0, 1) := by decide +kernel
theorem dL_law_977 : decode cL_law 977 = .ok (.iload 4, 2) := by decide +kernel
theorem dL_law_979 : decode cL_law 979 = .ok (.iconst 2, 1) := by decide +kernel
theorem dL_law_980 : decode cL_law 980 = .ok (.iadd, 1) := by decide +kernel
theorem dL_law_981 : decode cL_law 981 = .ok (.iaload, 1) := by decide +kernel
theorem dL_law_982 : decode cL_law 982 = .ok (.aload_n 3, 1) := by decide +kernel
theorem dL_law_983 : decode cL_law 983 = .ok (.invokestatic 147, 3) := by decide +kernel
theorem dL_law_986 : decode cL_law 986 = .ok (.istore 5, 2) := by decide +kernel
theorem dL_law_988 : decode cL_law 988 = .ok (.aload_n 2, 1) := by decide +kernel
theorem dL_law_989 : decode cL_law 989 = .ok (.aload_n 0, 1) := by decide +kernel
theorem dL_law_990 : decode cL_law 990 = .ok (.iload 4, 2) := by decide +kernel
theorem dL_law_992 : decode cL_law 992 = .ok (.iconst 1, 1) := by decide +kernel
theorem dL_law_993 : decode cL_law 993 = .ok (.iadd, 1) := by decide +kernel
theorem dL_law_994 : decode cL_law 994 = .ok (.iaload, 1) := by decide +kernel
theorem dL_law_995 : decode cL_law 995 = .ok (.aload_n 0, 1) := by decide +kernel
theorem dL_law_996 : decode cL_law 996 = .ok (.iload 4, 2) := by decide +kernel
theorem dL_law_998 : decode cL_law 998 = .ok (.iconst 2, 1) := by decide +kernel
theorem dL_law_999 : decode cL_law 999 = .ok (.iadd, 1) := by decide +kernel
theorem dL_law_1000 : decode cL_law 1000 = .ok (.iaload, 1) := by decide +kernel
theorem dL_law_1001 : decode cL_law 1001 = .ok (.invokevirtual 150, 3) := by decide +kernel
theorem dL_law_1004 : decode cL_law 1004 = .ok (.istore 6, 2) := by decide +kernel
theorem dL_law_1006 : decode cL_law 1006 = .ok (.aload_n 2, 1) := by decide +kernel
theorem dL_law_1007 : decode cL_law 1007 = .ok (.invokevirtual 89, 3) := by decide +kernel
theorem dL_law_1010 : decode cL_law 1010 = .ok (.iload 5, 2) := by decide +kernel
theorem dL_law_1012 : decode cL_law 1012 = .ok (.if_icmp .eq 5, 3) := by decide +kernel
theorem dL_law_1015 : decode cL_law 1015 = .ok (.iconst 0, 1) := by decide +kernel
theorem dL_law_1016 : decode cL_law 1016 = .ok (.ireturn, 1) := by decide +kernel
theorem dL_law_1017 : decode cL_law 1017 = .ok (.iload 5, 2) := by decide +kernel
theorem dL_law_1019 : decode cL_law 1019 = .ok (.ifCond .ne 15, 3) := by decide +kernel
theorem dL_law_1022 : decode cL_law 1022 = .ok (.aload_n 3, 1) := by decide +kernel
theorem dL_law_1023 : decode cL_law 1023 = .ok (.iconst 0, 1) := by decide +kernel
theorem dL_law_1024 : decode cL_law 1024 = .ok (.laload, 1) := by decide +kernel
theorem dL_law_1025 : decode cL_law 1025 = .ok (.iload 6, 2) := by decide +kernel
theorem dL_law_1027 : decode cL_law 1027 = .ok (.i2l, 1) := by decide +kernel
theorem dL_law_1028 : decode cL_law 1028 = .ok (.lcmp, 1) := by decide +kernel
theorem dL_law_1029 : decode cL_law 1029 = .ok (.ifCond .eq 5, 3) := by decide +kernel
theorem dL_law_1032 : decode cL_law 1032 = .ok (.iconst 0, 1) := by decide +kernel
theorem dL_law_1033 : decode cL_law 1033 = .ok (.ireturn, 1) := by decide +kernel
theorem dL_law_1034 : decode cL_law 1034 = .ok (.goto 525, 3) := by decide +kernel
theorem dL_law_1037 : decode cL_law 1037 = .ok (.aload_n 1, 1) := by decide +kernel
theorem dL_law_1038 : decode cL_law 1038 = .ok (.aload_n 0, 1) := by decide +kernel
theorem dL_law_1039 : decode cL_law 1039 = .ok (.iload 4, 2) := by decide +kernel
theorem dL_law_1041 : decode cL_law 1041 = .ok (.iconst 1, 1) := by decide +kernel
theorem dL_law_1042 : decode cL_law 1042 = .ok (.iadd, 1) := by decide +kernel
theorem dL_law_1043 : decode cL_law 1043 = .ok (.iaload, 1) := by decide +kernel
theorem dL_law_1044 : decode cL_law 1044 = .ok (.aload_n 3, 1) := by decide +kernel
theorem dL_law_1045 : decode cL_law 1045 = .ok (.invokestatic 151, 3) := by decide +kernel
theorem dL_law_1048 : decode cL_law 1048 = .ok (.istore 5, 2) := by decide +kernel
theorem dL_law_1050 : decode cL_law 1050 = .ok (.aload_n 2, 1) := by decide +kernel
theorem dL_law_1051 : decode cL_law 1051 = .ok (.aload_n 0, 1) := by decide +kernel
theorem dL_law_1052 : decode cL_law 1052 = .ok (.iload 4, 2) := by decide +kernel
theorem dL_law_1054 : decode cL_law 1054 = .ok (.iconst 1, 1) := by decide +kernel
theorem dL_law_1055 : decode cL_law 1055 = .ok (.iadd, 1) := by decide +kernel
theorem dL_law_1056 : decode cL_law 1056 = .ok (.iaload, 1) := by decide +kernel
theorem dL_law_1057 : decode cL_law 1057 = .ok (.invokevirtual 153, 3) := by decide +kernel
theorem dL_law_1060 : decode cL_law 1060 = .ok (.istore 6, 2) := by decide +kernel
theorem dL_law_1062 : decode cL_law 1062 = .ok (.aload_n 2, 1) := by decide +kernel
theorem dL_law_1063 : decode cL_law 1063 = .ok (.invokevirtual 89, 3) := by decide +kernel
theorem dL_law_1066 : decode cL_law 1066 = .ok (.iload 5, 2) := by decide +kernel
theorem dL_law_1068 : decode cL_law 1068 = .ok (.if_icmp .eq 5, 3) := by decide +kernel
theorem dL_law_1071 : decode cL_law 1071 = .ok (.iconst 0, 1) := by decide +kernel
theorem dL_law_1072 : decode cL_law 1072 = .ok (.ireturn, 1) := by decide +kernel
theorem dL_law_1073 : decode cL_law 1073 = .ok (.iload 5, 2) := by decide +kernel
theorem dL_law_1075 : decode cL_law 1075 = .ok (.ifCond .ne 15, 3) := by decide +kernel
theorem dL_law_1078 : decode cL_law 1078 = .ok (.aload_n 3, 1) := by decide +kernel
theorem dL_law_1079 : decode cL_law 1079 = .ok (.iconst 0, 1) := by decide +kernel
theorem dL_law_1080 : decode cL_law 1080 = .ok (.laload, 1) := by decide +kernel
theorem dL_law_1081 : decode cL_law 1081 = .ok (.iload 6, 2) := by decide +kernel
theorem dL_law_1083 : decode cL_law 1083 = .ok (.i2l, 1) := by decide +kernel
theorem dL_law_1084 : decode cL_law 1084 = .ok (.lcmp, 1) := by decide +kernel
theorem dL_law_1085 : decode cL_law 1085 = .ok (.ifCond .eq 5, 3) := by decide +kernel
theorem dL_law_1088 : decode cL_law 1088 = .ok (.iconst 0, 1) := by decide +kernel
theorem dL_law_1089 : decode cL_law 1089 = .ok (.ireturn, 1) := by decide +kernel
theorem dL_law_1090 : decode cL_law 1090 = .ok (.goto 469, 3) := by decide +kernel
theorem dL_law_1093 : decode cL_law 1093 = .ok (.aload_n 1, 1) := by decide +kernel
theorem dL_law_1094 : decode cL_law 1094 = .ok (.invokevirtual 154, 3) := by decide +kernel
theorem dL_law_1097 : decode cL_law 1097 = .ok (.aload_n 2, 1) := by decide +kernel
theorem dL_law_1098 : decode cL_law 1098 = .ok (.invokevirtual 157, 3) := by decide +kernel
theorem dL_law_1101 : decode cL_law 1101 = .ok (.if_icmp .eq 458, 3) := by decide +kernel
theorem dL_law_1104 : decode cL_law 1104 = .ok (.iconst 0, 1) := by decide +kernel
theorem dL_law_1105 : decode cL_law 1105 = .ok (.ireturn, 1) := by decide +kernel
theorem dL_law_1106 : decode cL_law 1106 = .ok (.aload_n 1, 1) := by decide +kernel
theorem dL_law_1107 : decode cL_law 1107 = .ok (.aload_n 0, 1) := by decide +kernel
theorem dL_law_1108 : decode cL_law 1108 = .ok (.iload 4, 2) := by decide +kernel
theorem dL_law_1110 : decode cL_law 1110 = .ok (.iconst 1, 1) := by decide +kernel
theorem dL_law_1111 : decode cL_law 1111 = .ok (.iadd, 1) := by decide +kernel
theorem dL_law_1112 : decode cL_law 1112 = .ok (.iaload, 1) := by decide +kernel
theorem dL_law_1113 : decode cL_law 1113 = .ok (.aload_n 3, 1) := by decide +kernel
theorem dL_law_1114 : decode cL_law 1114 = .ok (.invokestatic 158, 3) := by decide +kernel
theorem dL_law_1117 : decode cL_law 1117 = .ok (.istore 5, 2) := by decide +kernel
theorem dL_law_1119 : decode cL_law 1119 = .ok (.aload_n 2, 1) := by decide +kernel
theorem dL_law_1120 : decode cL_law 1120 = .ok (.aload_n 0, 1) := by decide +kernel
theorem dL_law_1121 : decode cL_law 1121 = .ok (.iload 4, 2) := by decide +kernel
theorem dL_law_1123 : decode cL_law 1123 = .ok (.iconst 1, 1) := by decide +kernel
theorem dL_law_1124 : decode cL_law 1124 = .ok (.iadd, 1) := by decide +kernel
theorem dL_law_1125 : decode cL_law 1125 = .ok (.iaload, 1) := by decide +kernel
theorem dL_law_1126 : decode cL_law 1126 = .ok (.invokevirtual 160, 3) := by decide +kernel
theorem dL_law_1129 : decode cL_law 1129 = .ok (.istore 6, 2) := by decide +kernel
theorem dL_law_1131 : decode cL_law 1131 = .ok (.aload_n 2, 1) := by decide +kernel
theorem dL_law_1132 : decode cL_law 1132 = .ok (.invokevirtual 89, 3) := by decide +kernel
theorem dL_law_1135 : decode cL_law 1135 = .ok (.iload 5, 2) := by decide +kernel
theorem dL_law_1137 : decode cL_law 1137 = .ok (.if_icmp .eq 5, 3) := by decide +kernel
theorem dL_law_1140 : decode cL_law 1140 = .ok (.iconst 0, 1) := by decide +kernel
theorem dL_law_1141 : decode cL_law 1141 = .ok (.ireturn, 1) := by decide +kernel
theorem dL_law_1142 : decode cL_law 1142 = .ok (.iload 5, 2) := by decide +kernel
theorem dL_law_1144 : decode cL_law 1144 = .ok (.ifCond .ne 15, 3) := by decide +kernel
theorem dL_law_1147 : decode cL_law 1147 = .ok (.aload_n 3, 1) := by decide +kernel
theorem dL_law_1148 : decode cL_law 1148 = .ok (.iconst 0, 1) := by decide +kernel
theorem dL_law_1149 : decode cL_law 1149 = .ok (.laload, 1) := by decide +kernel
theorem dL_law_1150 : decode cL_law 1150 = .ok (.iload 6, 2) := by decide +kernel
theorem dL_law_1152 : decode cL_law 1152 = .ok (.i2l, 1) := by decide +kernel
theorem dL_law_1153 : decode cL_law 1153 = .ok (.lcmp, 1) := by decide +kernel
theorem dL_law_1154 : decode cL_law 1154 = .ok (.ifCond .eq 5, 3) := by decide +kernel
theorem dL_law_1157 : decode cL_law 1157 = .ok (.iconst 0, 1) := by decide +kernel
theorem dL_law_1158 : decode cL_law 1158 = .ok (.ireturn, 1) := by decide +kernel
theorem dL_law_1159 : decode cL_law 1159 = .ok (.goto 400, 3) := by decide +kernel
theorem dL_law_1162 : decode cL_law 1162 = .ok (.aload_n 1, 1) := by decide +kernel
theorem dL_law_1163 : decode cL_law 1163 = .ok (.invokevirtual 161, 3) := by decide +kernel
theorem dL_law_1166 : decode cL_law 1166 = .ok (.aload_n 2, 1) := by decide +kernel
theorem dL_law_1167 : decode cL_law 1167 = .ok (.invokevirtual 164, 3) := by decide +kernel
theorem dL_law_1170 : decode cL_law 1170 = .ok (.if_icmp .eq 389, 3) := by decide +kernel
theorem dL_law_1173 : decode cL_law 1173 = .ok (.iconst 0, 1) := by decide +kernel
theorem dL_law_1174 : decode cL_law 1174 = .ok (.ireturn, 1) := by decide +kernel
theorem dL_law_1175 : decode cL_law 1175 = .ok (.aload_n 1, 1) := by decide +kernel
theorem dL_law_1176 : decode cL_law 1176 = .ok (.aload_n 0, 1) := by decide +kernel
theorem dL_law_1177 : decode cL_law 1177 = .ok (.iload 4, 2) := by decide +kernel
theorem dL_law_1179 : decode cL_law 1179 = .ok (.iconst 1, 1) := by decide +kernel
theorem dL_law_1180 : decode cL_law 1180 = .ok (.iadd, 1) := by decide +kernel
theorem dL_law_1181 : decode cL_law 1181 = .ok (.iaload, 1) := by decide +kernel
theorem dL_law_1182 : decode cL_law 1182 = .ok (.aload_n 3, 1) := by decide +kernel
theorem dL_law_1183 : decode cL_law 1183 = .ok (.invokestatic 165, 3) := by decide +kernel
theorem dL_law_1186 : decode cL_law 1186 = .ok (.istore 5, 2) := by decide +kernel
theorem dL_law_1188 : decode cL_law 1188 = .ok (.aload_n 2, 1) := by decide +kernel
theorem dL_law_1189 : decode cL_law 1189 = .ok (.aload_n 0, 1) := by decide +kernel
theorem dL_law_1190 : decode cL_law 1190 = .ok (.iload 4, 2) := by decide +kernel
theorem dL_law_1192 : decode cL_law 1192 = .ok (.iconst 1, 1) := by decide +kernel
theorem dL_law_1193 : decode cL_law 1193 = .ok (.iadd, 1) := by decide +kernel
theorem dL_law_1194 : decode cL_law 1194 = .ok (.iaload, 1) := by decide +kernel
theorem dL_law_1195 : decode cL_law 1195 = .ok (.invokevirtual 167, 3) := by decide +kernel
theorem dL_law_1198 : decode cL_law 1198 = .ok (.istore 6, 2) := by decide +kernel
theorem dL_law_1200 : decode cL_law 1200 = .ok (.aload_n 2, 1) := by decide +kernel
theorem dL_law_1201 : decode cL_law 1201 = .ok (.invokevirtual 89, 3) := by decide +kernel
theorem dL_law_1204 : decode cL_law 1204 = .ok (.iload 5, 2) := by decide +kernel
theorem dL_law_1206 : decode cL_law 1206 = .ok (.if_icmp .eq 5, 3) := by decide +kernel
theorem dL_law_1209 : decode cL_law 1209 = .ok (.iconst 0, 1) := by decide +kernel
theorem dL_law_1210 : decode cL_law 1210 = .ok (.ireturn, 1) := by decide +kernel
theorem dL_law_1211 : decode cL_law 1211 = .ok (.iload 5, 2) := by decide +kernel
theorem dL_law_1213 : decode cL_law 1213 = .ok (.ifCond .ne 15, 3) := by decide +kernel
theorem dL_law_1216 : decode cL_law 1216 = .ok (.aload_n 3, 1) := by decide +kernel
theorem dL_law_1217 : decode cL_law 1217 = .ok (.iconst 0, 1) := by decide +kernel
theorem dL_law_1218 : decode cL_law 1218 = .ok (.laload, 1) := by decide +kernel
theorem dL_law_1219 : decode cL_law 1219 = .ok (.iload 6, 2) := by decide +kernel
theorem dL_law_1221 : decode cL_law 1221 = .ok (.i2l, 1) := by decide +kernel
theorem dL_law_1222 : decode cL_law 1222 = .ok (.lcmp, 1) := by decide +kernel
theorem dL_law_1223 : decode cL_law 1223 = .ok (.ifCond .eq 5, 3) := by decide +kernel
theorem dL_law_1226 : decode cL_law 1226 = .ok (.iconst 0, 1) := by decide +kernel
theorem dL_law_1227 : decode cL_law 1227 = .ok (.ireturn, 1) := by decide +kernel
theorem dL_law_1228 : decode cL_law 1228 = .ok (.goto 331, 3) := by decide +kernel
theorem dL_law_1231 : decode cL_law 1231 = .ok (.aload_n 1, 1) := by decide +kernel
theorem dL_law_1232 : decode cL_law 1232 = .ok (.aload_n 0, 1) := by decide +kernel
theorem dL_law_1233 : decode cL_law 1233 = .ok (.iload 4, 2) := by decide +kernel
theorem dL_law_1235 : decode cL_law 1235 = .ok (.iconst 1, 1) := by decide +kernel
theorem dL_law_1236 : decode cL_law 1236 = .ok (.iadd, 1) := by decide +kernel
theorem dL_law_1237 : decode cL_law 1237 = .ok (.iaload, 1) := by decide +kernel
theorem dL_law_1238 : decode cL_law 1238 = .ok (.aload_n 0, 1) := by decide +kernel
theorem dL_law_1239 : decode cL_law 1239 = .ok (.iload 4, 2) := by decide +kernel
theorem dL_law_1241 : decode cL_law 1241 = .ok (.iconst 2, 1) := by decide +kernel
theorem dL_law_1242 : decode cL_law 1242 = .ok (.iadd, 1) := by decide +kernel
theorem dL_law_1243 : decode cL_law 1243 = .ok (.iaload, 1) := by decide +kernel
theorem dL_law_1244 : decode cL_law 1244 = .ok (.aload_n 3, 1) := by decide +kernel
theorem dL_law_1245 : decode cL_law 1245 = .ok (.invokestatic 168, 3) := by decide +kernel
theorem dL_law_1248 : decode cL_law 1248 = .ok (.istore 5, 2) := by decide +kernel
theorem dL_law_1250 : decode cL_law 1250 = .ok (.aload_n 2, 1) := by decide +kernel
theorem dL_law_1251 : decode cL_law 1251 = .ok (.aload_n 0, 1) := by decide +kernel
theorem dL_law_1252 : decode cL_law 1252 = .ok (.iload 4, 2) := by decide +kernel
theorem dL_law_1254 : decode cL_law 1254 = .ok (.iconst 1, 1) := by decide +kernel
theorem dL_law_1255 : decode cL_law 1255 = .ok (.iadd, 1) := by decide +kernel
theorem dL_law_1256 : decode cL_law 1256 = .ok (.iaload, 1) := by decide +kernel
theorem dL_law_1257 : decode cL_law 1257 = .ok (.aload_n 0, 1) := by decide +kernel
theorem dL_law_1258 : decode cL_law 1258 = .ok (.iload 4, 2) := by decide +kernel
theorem dL_law_1260 : decode cL_law 1260 = .ok (.iconst 2, 1) := by decide +kernel
theorem dL_law_1261 : decode cL_law 1261 = .ok (.iadd, 1) := by decide +kernel
theorem dL_law_1262 : decode cL_law 1262 = .ok (.iaload, 1) := by decide +kernel
theorem dL_law_1263 : decode cL_law 1263 = .ok (.invokevirtual 170, 3) := by decide +kernel
theorem dL_law_1266 : decode cL_law 1266 = .ok (.istore 6, 2) := by decide +kernel
theorem dL_law_1268 : decode cL_law 1268 = .ok (.aload_n 2, 1) := by decide +kernel
theorem dL_law_1269 : decode cL_law 1269 = .ok (.invokevirtual 89, 3) := by decide +kernel
theorem dL_law_1272 : decode cL_law 1272 = .ok (.iload 5, 2) := by decide +kernel
theorem dL_law_1274 : decode cL_law 1274 = .ok (.if_icmp .eq 5, 3) := by decide +kernel
theorem dL_law_1277 : decode cL_law 1277 = .ok (.iconst 0, 1) := by decide +kernel
theorem dL_law_1278 : decode cL_law 1278 = .ok (.ireturn, 1) := by decide +kernel
theorem dL_law_1279 : decode cL_law 1279 = .ok (.iload 5, 2) := by decide +kernel
theorem dL_law_1281 : decode cL_law 1281 = .ok (.ifCond .ne 15, 3) := by decide +kernel
theorem dL_law_1284 : decode cL_law 1284 = .ok (.aload_n 3, 1) := by decide +kernel
theorem dL_law_1285 : decode cL_law 1285 = .ok (.iconst 0, 1) := by decide +kernel
theorem dL_law_1286 : decode cL_law 1286 = .ok (.laload, 1) := by decide +kernel
theorem dL_law_1287 : decode cL_law 1287 = .ok (.iload 6, 2) := by decide +kernel
theorem dL_law_1289 : decode cL_law 1289 = .ok (.i2l, 1) := by decide +kernel
theorem dL_law_1290 : decode cL_law 1290 = .ok (.lcmp, 1) := by decide +kernel
theorem dL_law_1291 : decode cL_law 1291 = .ok (.ifCond .eq 5, 3) := by decide +kernel
theorem dL_law_1294 : decode cL_law 1294 = .ok (.iconst 0, 1) := by decide +kernel
theorem dL_law_1295 : decode cL_law 1295 = .ok (.ireturn, 1) := by decide +kernel
theorem dL_law_1296 : decode cL_law 1296 = .ok (.goto 263, 3) := by decide +kernel
theorem dL_law_1299 : decode cL_law 1299 = .ok (.aload_n 1, 1) := by decide +kernel
theorem dL_law_1300 : decode cL_law 1300 = .ok (.aload_n 0, 1) := by decide +kernel
theorem dL_law_1301 : decode cL_law 1301 = .ok (.iload 4, 2) := by decide +kernel
theorem dL_law_1303 : decode cL_law 1303 = .ok (.iconst 1, 1) := by decide +kernel
theorem dL_law_1304 : decode cL_law 1304 = .ok (.iadd, 1) := by decide +kernel
theorem dL_law_1305 : decode cL_law 1305 = .ok (.iaload, 1) := by decide +kernel
theorem dL_law_1306 : decode cL_law 1306 = .ok (.aload_n 0, 1) := by decide +kernel
theorem dL_law_1307 : decode cL_law 1307 = .ok (.iload 4, 2) := by decide +kernel
theorem dL_law_1309 : decode cL_law 1309 = .ok (.iconst 2, 1) := by decide +kernel
theorem dL_law_1310 : decode cL_law 1310 = .ok (.iadd, 1) := by decide +kernel
theorem dL_law_1311 : decode cL_law 1311 = .ok (.iaload, 1) := by decide +kernel
theorem dL_law_1312 : decode cL_law 1312 = .ok (.aload_n 3, 1) := by decide +kernel
theorem dL_law_1313 : decode cL_law 1313 = .ok (.invokestatic 171, 3) := by decide +kernel
theorem dL_law_1316 : decode cL_law 1316 = .ok (.istore 5, 2) := by decide +kernel
theorem dL_law_1318 : decode cL_law 1318 = .ok (.aload_n 2, 1) := by decide +kernel
theorem dL_law_1319 : decode cL_law 1319 = .ok (.aload_n 0, 1) := by decide +kernel
theorem dL_law_1320 : decode cL_law 1320 = .ok (.iload 4, 2) := by decide +kernel
theorem dL_law_1322 : decode cL_law 1322 = .ok (.iconst 1, 1) := by decide +kernel
theorem dL_law_1323 : decode cL_law 1323 = .ok (.iadd, 1) := by decide +kernel
theorem dL_law_1324 : decode cL_law 1324 = .ok (.iaload, 1) := by decide +kernel
theorem dL_law_1325 : decode cL_law 1325 = .ok (.aload_n 0, 1) := by decide +kernel
theorem dL_law_1326 : decode cL_law 1326 = .ok (.iload 4, 2) := by decide +kernel
theorem dL_law_1328 : decode cL_law 1328 = .ok (.iconst 2, 1) := by decide +kernel
theorem dL_law_1329 : decode cL_law 1329 = .ok (.iadd, 1) := by decide +kernel
theorem dL_law_1330 : decode cL_law 1330 = .ok (.iaload, 1) := by decide +kernel
theorem dL_law_1331 : decode cL_law 1331 = .ok (.invokevirtual 173, 3) := by decide +kernel
theorem dL_law_1334 : decode cL_law 1334 = .ok (.istore 6, 2) := by decide +kernel
theorem dL_law_1336 : decode cL_law 1336 = .ok (.aload_n 2, 1) := by decide +kernel
theorem dL_law_1337 : decode cL_law 1337 = .ok (.invokevirtual 89, 3) := by decide +kernel
theorem dL_law_1340 : decode cL_law 1340 = .ok (.iload 5, 2) := by decide +kernel
theorem dL_law_1342 : decode cL_law 1342 = .ok (.if_icmp .eq 5, 3) := by decide +kernel
theorem dL_law_1345 : decode cL_law 1345 = .ok (.iconst 0, 1) := by decide +kernel
theorem dL_law_1346 : decode cL_law 1346 = .ok (.ireturn, 1) := by decide +kernel
theorem dL_law_1347 : decode cL_law 1347 = .ok (.iload 5, 2) := by decide +kernel
theorem dL_law_1349 : decode cL_law 1349 = .ok (.ifCond .ne 15, 3) := by decide +kernel
theorem dL_law_1352 : decode cL_law 1352 = .ok (.aload_n 3, 1) := by decide +kernel
theorem dL_law_1353 : decode cL_law 1353 = .ok (.iconst 0, 1) := by decide +kernel
theorem dL_law_1354 : decode cL_law 1354 = .ok (.laload, 1) := by decide +kernel
theorem dL_law_1355 : decode cL_law 1355 = .ok (.iload 6, 2) := by decide +kernel
theorem dL_law_1357 : decode cL_law 1357 = .ok (.i2l, 1) := by decide +kernel
theorem dL_law_1358 : decode cL_law 1358 = .ok (.lcmp, 1) := by decide +kernel
theorem dL_law_1359 : decode cL_law 1359 = .ok (.ifCond .eq 5, 3) := by decide +kernel
theorem dL_law_1362 : decode cL_law 1362 = .ok (.iconst 0, 1) := by decide +kernel
theorem dL_law_1363 : decode cL_law 1363 = .ok (.ireturn, 1) := by decide +kernel
theorem dL_law_1364 : decode cL_law 1364 = .ok (.goto 195, 3) := by decide +kernel
theorem dL_law_1367 : decode cL_law 1367 = .ok (.aload_n 1, 1) := by decide +kernel
theorem dL_law_1368 : decode cL_law 1368 = .ok (.invokevirtual 174, 3) := by decide +kernel
theorem dL_law_1371 : decode cL_law 1371 = .ok (.aload_n 2, 1) := by decide +kernel
theorem dL_law_1372 : decode cL_law 1372 = .ok (.invokevirtual 177, 3) := by decide +kernel
theorem dL_law_1375 : decode cL_law 1375 = .ok (.if_icmp .eq 184, 3) := by decide +kernel
theorem dL_law_1378 : decode cL_law 1378 = .ok (.iconst 0, 1) := by decide +kernel
theorem dL_law_1379 : decode cL_law 1379 = .ok (.ireturn, 1) := by decide +kernel
theorem dL_law_1380 : decode cL_law 1380 = .ok (.aload_n 1, 1) := by decide +kernel
theorem dL_law_1381 : decode cL_law 1381 = .ok (.aload_n 0, 1) := by decide +kernel
theorem dL_law_1382 : decode cL_law 1382 = .ok (.iload 4, 2) := by decide +kernel
theorem dL_law_1384 : decode cL_law 1384 = .ok (.iconst 1, 1) := by decide +kernel
theorem dL_law_1385 : decode cL_law 1385 = .ok (.iadd, 1) := by decide +kernel
theorem dL_law_1386 : decode cL_law 1386 = .ok (.iaload, 1) := by decide +kernel
theorem dL_law_1387 : decode cL_law 1387 = .ok (.aload_n 0, 1) := by decide +kernel
theorem dL_law_1388 : decode cL_law 1388 = .ok (.iload 4, 2) := by decide +kernel
theorem dL_law_1390 : decode cL_law 1390 = .ok (.iconst 2, 1) := by decide +kernel
theorem dL_law_1391 : decode cL_law 1391 = .ok (.iadd, 1) := by decide +kernel
theorem dL_law_1392 : decode cL_law 1392 = .ok (.iaload, 1) := by decide +kernel
theorem dL_law_1393 : decode cL_law 1393 = .ok (.aload_n 3, 1) := by decide +kernel
theorem dL_law_1394 : decode cL_law 1394 = .ok (.invokestatic 178, 3) := by decide +kernel
theorem dL_law_1397 : decode cL_law 1397 = .ok (.istore 5, 2) := by decide +kernel
theorem dL_law_1399 : decode cL_law 1399 = .ok (.aload_n 2, 1) := by decide +kernel
theorem dL_law_1400 : decode cL_law 1400 = .ok (.aload_n 0, 1) := by decide +kernel
theorem dL_law_1401 : decode cL_law 1401 = .ok (.iload 4, 2) := by decide +kernel
theorem dL_law_1403 : decode cL_law 1403 = .ok (.iconst 1, 1) := by decide +kernel
theorem dL_law_1404 : decode cL_law 1404 = .ok (.iadd, 1) := by decide +kernel
theorem dL_law_1405 : decode cL_law 1405 = .ok (.iaload, 1) := by decide +kernel
theorem dL_law_1406 : decode cL_law 1406 = .ok (.aload_n 0, 1) := by decide +kernel
theorem dL_law_1407 : decode cL_law 1407 = .ok (.iload 4, 2) := by decide +kernel
theorem dL_law_1409 : decode cL_law 1409 = .ok (.iconst 2, 1) := by decide +kernel
theorem dL_law_1410 : decode cL_law 1410 = .ok (.iadd, 1) := by decide +kernel
theorem dL_law_1411 : decode cL_law 1411 = .ok (.iaload, 1) := by decide +kernel
theorem dL_law_1412 : decode cL_law 1412 = .ok (.invokevirtual 180, 3) := by decide +kernel
theorem dL_law_1415 : decode cL_law 1415 = .ok (.istore 6, 2) := by decide +kernel
theorem dL_law_1417 : decode cL_law 1417 = .ok (.aload_n 2, 1) := by decide +kernel
theorem dL_law_1418 : decode cL_law 1418 = .ok (.invokevirtual 89, 3) := by decide +kernel
theorem dL_law_1421 : decode cL_law 1421 = .ok (.iload 5, 2) := by decide +kernel
theorem dL_law_1423 : decode cL_law 1423 = .ok (.if_icmp .eq 5, 3) := by decide +kernel
theorem dL_law_1426 : decode cL_law 1426 = .ok (.iconst 0, 1) := by decide +kernel
theorem dL_law_1427 : decode cL_law 1427 = .ok (.ireturn, 1) := by decide +kernel
theorem dL_law_1428 : decode cL_law 1428 = .ok (.iload 5, 2) := by decide +kernel
theorem dL_law_1430 : decode cL_law 1430 = .ok (.ifCond .ne 15, 3) := by decide +kernel
theorem dL_law_1433 : decode cL_law 1433 = .ok (.aload_n 3, 1) := by decide +kernel
theorem dL_law_1434 : decode cL_law 1434 = .ok (.iconst 0, 1) := by decide +kernel
theorem dL_law_1435 : decode cL_law 1435 = .ok (.laload, 1) := by decide +kernel
theorem dL_law_1436 : decode cL_law 1436 = .ok (.iload 6, 2) := by decide +kernel
theorem dL_law_1438 : decode cL_law 1438 = .ok (.i2l, 1) := by decide +kernel
theorem dL_law_1439 : decode cL_law 1439 = .ok (.lcmp, 1) := by decide +kernel
theorem dL_law_1440 : decode cL_law 1440 = .ok (.ifCond .eq 5, 3) := by decide +kernel
theorem dL_law_1443 : decode cL_law 1443 = .ok (.iconst 0, 1) := by decide +kernel
theorem dL_law_1444 : decode cL_law 1444 = .ok (.ireturn, 1) := by decide +kernel
theorem dL_law_1445 : decode cL_law 1445 = .ok (.goto 114, 3) := by decide +kernel
theorem dL_law_1448 : decode cL_law 1448 = .ok (.aload_n 1, 1) := by decide +kernel
theorem dL_law_1449 : decode cL_law 1449 = .ok (.aload_n 0, 1) := by decide +kernel
theorem dL_law_1450 : decode cL_law 1450 = .ok (.iload 4, 2) := by decide +kernel
theorem dL_law_1452 : decode cL_law 1452 = .ok (.iconst 1, 1) := by decide +kernel
theorem dL_law_1453 : decode cL_law 1453 = .ok (.iadd, 1) := by decide +kernel
theorem dL_law_1454 : decode cL_law 1454 = .ok (.iaload, 1) := by decide +kernel
theorem dL_law_1455 : decode cL_law 1455 = .ok (.aload_n 3, 1) := by decide +kernel
theorem dL_law_1456 : decode cL_law 1456 = .ok (.invokestatic 181, 3) := by decide +kernel
theorem dL_law_1459 : decode cL_law 1459 = .ok (.istore 5, 2) := by decide +kernel
theorem dL_law_1461 : decode cL_law 1461 = .ok (.aload_n 2, 1) := by decide +kernel
theorem dL_law_1462 : decode cL_law 1462 = .ok (.aload_n 0, 1) := by decide +kernel
theorem dL_law_1463 : decode cL_law 1463 = .ok (.iload 4, 2) := by decide +kernel
theorem dL_law_1465 : decode cL_law 1465 = .ok (.iconst 1, 1) := by decide +kernel
theorem dL_law_1466 : decode cL_law 1466 = .ok (.iadd, 1) := by decide +kernel
theorem dL_law_1467 : decode cL_law 1467 = .ok (.iaload, 1) := by decide +kernel
theorem dL_law_1468 : decode cL_law 1468 = .ok (.invokevirtual 183, 3) := by decide +kernel
theorem dL_law_1471 : decode cL_law 1471 = .ok (.istore 6, 2) := by decide +kernel
theorem dL_law_1473 : decode cL_law 1473 = .ok (.aload_n 2, 1) := by decide +kernel
theorem dL_law_1474 : decode cL_law 1474 = .ok (.invokevirtual 89, 3) := by decide +kernel
theorem dL_law_1477 : decode cL_law 1477 = .ok (.iload 5, 2) := by decide +kernel
theorem dL_law_1479 : decode cL_law 1479 = .ok (.if_icmp .eq 5, 3) := by decide +kernel
theorem dL_law_1482 : decode cL_law 1482 = .ok (.iconst 0, 1) := by decide +kernel
theorem dL_law_1483 : decode cL_law 1483 = .ok (.ireturn, 1) := by decide +kernel
theorem dL_law_1484 : decode cL_law 1484 = .ok (.iload 5, 2) := by decide +kernel
theorem dL_law_1486 : decode cL_law 1486 = .ok (.ifCond .ne 15, 3) := by decide +kernel
theorem dL_law_1489 : decode cL_law 1489 = .ok (.aload_n 3, 1) := by decide +kernel
theorem dL_law_1490 : decode cL_law 1490 = .ok (.iconst 0, 1) := by decide +kernel
theorem dL_law_1491 : decode cL_law 1491 = .ok (.laload, 1) := by decide +kernel
theorem dL_law_1492 : decode cL_law 1492 = .ok (.iload 6, 2) := by decide +kernel
theorem dL_law_1494 : decode cL_law 1494 = .ok (.i2l, 1) := by decide +kernel
theorem dL_law_1495 : decode cL_law 1495 = .ok (.lcmp, 1) := by decide +kernel
theorem dL_law_1496 : decode cL_law 1496 = .ok (.ifCond .eq 5, 3) := by decide +kernel
theorem dL_law_1499 : decode cL_law 1499 = .ok (.iconst 0, 1) := by decide +kernel
theorem dL_law_1500 : decode cL_law 1500 = .ok (.ireturn, 1) := by decide +kernel
theorem dL_law_1501 : decode cL_law 1501 = .ok (.goto 58, 3) := by decide +kernel
theorem dL_law_1504 : decode cL_law 1504 = .ok (.aload_n 1, 1) := by decide +kernel
theorem dL_law_1505 : decode cL_law 1505 = .ok (.invokevirtual 184, 3) := by decide +kernel
theorem dL_law_1508 : decode cL_law 1508 = .ok (.dstore 5, 2) := by decide +kernel
theorem dL_law_1510 : decode cL_law 1510 = .ok (.aload_n 2, 1) := by decide +kernel
theorem dL_law_1511 : decode cL_law 1511 = .ok (.invokevirtual 188, 3) := by decide +kernel
theorem dL_law_1514 : decode cL_law 1514 = .ok (.dstore 7, 2) := by decide +kernel
theorem dL_law_1516 : decode cL_law 1516 = .ok (.dload 5, 2) := by decide +kernel
theorem dL_law_1518 : decode cL_law 1518 = .ok (.dload 7, 2) := by decide +kernel
theorem dL_law_1520 : decode cL_law 1520 = .ok (.dcmp .l, 1) := by decide +kernel
theorem dL_law_1521 : decode cL_law 1521 = .ok (.ifCond .eq 21, 3) := by decide +kernel
theorem dL_law_1524 : decode cL_law 1524 = .ok (.dload 5, 2) := by decide +kernel
theorem dL_law_1526 : decode cL_law 1526 = .ok (.dload 5, 2) := by decide +kernel
theorem dL_law_1528 : decode cL_law 1528 = .ok (.dcmp .l, 1) := by decide +kernel
theorem dL_law_1529 : decode cL_law 1529 = .ok (.ifCond .eq 11, 3) := by decide +kernel
theorem dL_law_1532 : decode cL_law 1532 = .ok (.dload 7, 2) := by decide +kernel
theorem dL_law_1534 : decode cL_law 1534 = .ok (.dload 7, 2) := by decide +kernel
theorem dL_law_1536 : decode cL_law 1536 = .ok (.dcmp .l, 1) := by decide +kernel
theorem dL_law_1537 : decode cL_law 1537 = .ok (.ifCond .ne 5, 3) := by decide +kernel
theorem dL_law_1540 : decode cL_law 1540 = .ok (.iconst 0, 1) := by decide +kernel
theorem dL_law_1541 : decode cL_law 1541 = .ok (.ireturn, 1) := by decide +kernel
theorem dL_law_1542 : decode cL_law 1542 = .ok (.goto 17, 3) := by decide +kernel
theorem dL_law_1545 : decode cL_law 1545 = .ok (.aload_n 1, 1) := by decide +kernel
theorem dL_law_1546 : decode cL_law 1546 = .ok (.invokevirtual 189, 3) := by decide +kernel
theorem dL_law_1549 : decode cL_law 1549 = .ok (.aload_n 2, 1) := by decide +kernel
theorem dL_law_1550 : decode cL_law 1550 = .ok (.invokevirtual 193, 3) := by decide +kernel
theorem dL_law_1553 : decode cL_law 1553 = .ok (.lcmp, 1) := by decide +kernel
theorem dL_law_1554 : decode cL_law 1554 = .ok (.ifCond .eq 5, 3) := by decide +kernel
theorem dL_law_1557 : decode cL_law 1557 = .ok (.iconst 0, 1) := by decide +kernel
theorem dL_law_1558 : decode cL_law 1558 = .ok (.ireturn, 1) := by decide +kernel
theorem dL_law_1559 : decode cL_law 1559 = .ok (.iinc 4 4, 3) := by decide +kernel
theorem dL_law_1562 : decode cL_law 1562 = .ok (.goto (-1539), 3) := by decide +kernel
theorem dL_law_1565 : decode cL_law 1565 = .ok (.iconst 1, 1) := by decide +kernel
theorem dL_law_1566 : decode cL_law 1566 = .ok (.ireturn, 1) := by decide +kernel
end

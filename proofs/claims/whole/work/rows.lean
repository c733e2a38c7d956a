section
-- ===== PART A: goes FIRST, ahead of the names: the tables' words, and 'selects' of the private methods out of them =====
/-- a private method of a class that the tables say can be made, by its rows of tables_1 -/
def lw_okq (q : MethodName × Nat) : Prop := (q.1.cls ≠ "java/lang/invoke/MethodHandle" ∧ q.1.cls ≠ "java/lang/invoke/VarHandle") ∧ Cond.instantiable q.1.cls q.2 ∈ tables_1 ∧ Cond.privateMethod q.1 ∈ tables_1 ∧ Cond.instanceMethod q.1 ∈ tables_1
theorem lw_p0 : lw_okq (⟨"BellHush", "priceNow", "(I)I"⟩, 10) := ⟨⟨by decide +kernel, by decide +kernel⟩, List.mem_of_getElem? (i := 12) (by decide +kernel), List.mem_of_getElem? (i := 66) (by decide +kernel), List.mem_of_getElem? (i := 67) (by decide +kernel)⟩
theorem lw_p1 : lw_okq (⟨"BellHush", "dovesNow", "(I)I"⟩, 10) := ⟨⟨by decide +kernel, by decide +kernel⟩, List.mem_of_getElem? (i := 12) (by decide +kernel), List.mem_of_getElem? (i := 70) (by decide +kernel), List.mem_of_getElem? (i := 71) (by decide +kernel)⟩
theorem lw_p2 : lw_okq (⟨"BellHush", "worthBehind", "(II)I"⟩, 10) := ⟨⟨by decide +kernel, by decide +kernel⟩, List.mem_of_getElem? (i := 12) (by decide +kernel), List.mem_of_getElem? (i := 95) (by decide +kernel), List.mem_of_getElem? (i := 96) (by decide +kernel)⟩
theorem lw_p3 : lw_okq (⟨"BellHush", "closing", "(I)I"⟩, 10) := ⟨⟨by decide +kernel, by decide +kernel⟩, List.mem_of_getElem? (i := 12) (by decide +kernel), List.mem_of_getElem? (i := 99) (by decide +kernel), List.mem_of_getElem? (i := 100) (by decide +kernel)⟩
theorem lw_p4 : lw_okq (⟨"BellHush", "closingWith", "(II)I"⟩, 10) := ⟨⟨by decide +kernel, by decide +kernel⟩, List.mem_of_getElem? (i := 12) (by decide +kernel), List.mem_of_getElem? (i := 103) (by decide +kernel), List.mem_of_getElem? (i := 104) (by decide +kernel)⟩
theorem lw_p5 : lw_okq (⟨"BellHush", "priceBehind", "(II)I"⟩, 10) := ⟨⟨by decide +kernel, by decide +kernel⟩, List.mem_of_getElem? (i := 12) (by decide +kernel), List.mem_of_getElem? (i := 107) (by decide +kernel), List.mem_of_getElem? (i := 108) (by decide +kernel)⟩
theorem lw_p6 : lw_okq (⟨"BellHush", "riseUntilStroke", "(I)I"⟩, 10) := ⟨⟨by decide +kernel, by decide +kernel⟩, List.mem_of_getElem? (i := 12) (by decide +kernel), List.mem_of_getElem? (i := 119) (by decide +kernel), List.mem_of_getElem? (i := 120) (by decide +kernel)⟩
theorem lw_p7 : lw_okq (⟨"BellHush", "mixedTower", "(JI)J"⟩, 10) := ⟨⟨by decide +kernel, by decide +kernel⟩, List.mem_of_getElem? (i := 12) (by decide +kernel), List.mem_of_getElem? (i := 141) (by decide +kernel), List.mem_of_getElem? (i := 142) (by decide +kernel)⟩
theorem lw_p8 : lw_okq (⟨"BellHush", "heldByAll", "(I)I"⟩, 10) := ⟨⟨by decide +kernel, by decide +kernel⟩, List.mem_of_getElem? (i := 12) (by decide +kernel), List.mem_of_getElem? (i := 145) (by decide +kernel), List.mem_of_getElem? (i := 146) (by decide +kernel)⟩
theorem lw_p9 : lw_okq (⟨"BellHush", "mixedTrader", "(JI)J"⟩, 10) := ⟨⟨by decide +kernel, by decide +kernel⟩, List.mem_of_getElem? (i := 12) (by decide +kernel), List.mem_of_getElem? (i := 149) (by decide +kernel), List.mem_of_getElem? (i := 150) (by decide +kernel)⟩
theorem lw_p10 : lw_okq (⟨"BellHush", "shortTowers", "(I)I"⟩, 10) := ⟨⟨by decide +kernel, by decide +kernel⟩, List.mem_of_getElem? (i := 12) (by decide +kernel), List.mem_of_getElem? (i := 153) (by decide +kernel), List.mem_of_getElem? (i := 154) (by decide +kernel)⟩
theorem lw_p11 : lw_okq (⟨"java/lang/Throwable", "fillInStackTrace", "(I)Ljava/lang/Throwable;"⟩, 6) := ⟨⟨by decide +kernel, by decide +kernel⟩, List.mem_of_getElem? (i := 204) (by decide +kernel), List.mem_of_getElem? (i := 202) (by decide +kernel), List.mem_of_getElem? (i := 203) (by decide +kernel)⟩
theorem lw_p12 : lw_okq (⟨"BellHush", "requireTrader", "(I)V"⟩, 10) := ⟨⟨by decide +kernel, by decide +kernel⟩, List.mem_of_getElem? (i := 12) (by decide +kernel), List.mem_of_getElem? (i := 271) (by decide +kernel), List.mem_of_getElem? (i := 272) (by decide +kernel)⟩
theorem lw_p13 : lw_okq (⟨"BellHush", "requireTower", "(I)V"⟩, 10) := ⟨⟨by decide +kernel, by decide +kernel⟩, List.mem_of_getElem? (i := 12) (by decide +kernel), List.mem_of_getElem? (i := 291) (by decide +kernel), List.mem_of_getElem? (i := 292) (by decide +kernel)⟩
theorem lw_p14 : lw_okq (⟨"BellHush", "goOneSecond", "()I"⟩, 10) := ⟨⟨by decide +kernel, by decide +kernel⟩, List.mem_of_getElem? (i := 12) (by decide +kernel), List.mem_of_getElem? (i := 321) (by decide +kernel), List.mem_of_getElem? (i := 322) (by decide +kernel)⟩
theorem lw_p15 : lw_okq (⟨"BellHush", "strike", "(I)V"⟩, 10) := ⟨⟨by decide +kernel, by decide +kernel⟩, List.mem_of_getElem? (i := 12) (by decide +kernel), List.mem_of_getElem? (i := 325) (by decide +kernel), List.mem_of_getElem? (i := 326) (by decide +kernel)⟩
def lw_privs_1 : List (MethodName × Nat) := [(⟨"BellHush", "priceNow", "(I)I"⟩, 10), (⟨"BellHush", "dovesNow", "(I)I"⟩, 10), (⟨"BellHush", "worthBehind", "(II)I"⟩, 10), (⟨"BellHush", "closing", "(I)I"⟩, 10), (⟨"BellHush", "closingWith", "(II)I"⟩, 10), (⟨"BellHush", "priceBehind", "(II)I"⟩, 10), (⟨"BellHush", "riseUntilStroke", "(I)I"⟩, 10), (⟨"BellHush", "mixedTower", "(JI)J"⟩, 10), (⟨"BellHush", "heldByAll", "(I)I"⟩, 10), (⟨"BellHush", "mixedTrader", "(JI)J"⟩, 10), (⟨"BellHush", "shortTowers", "(I)I"⟩, 10), (⟨"java/lang/Throwable", "fillInStackTrace", "(I)Ljava/lang/Throwable;"⟩, 6), (⟨"BellHush", "requireTrader", "(I)V"⟩, 10), (⟨"BellHush", "requireTower", "(I)V"⟩, 10), (⟨"BellHush", "goOneSecond", "()I"⟩, 10), (⟨"BellHush", "strike", "(I)V"⟩, 10)]
theorem lw_r1 : ∀ q ∈ lw_privs_1, lw_okq q := List.forall_mem_cons.mpr ⟨lw_p0, List.forall_mem_cons.mpr ⟨lw_p1, List.forall_mem_cons.mpr ⟨lw_p2, List.forall_mem_cons.mpr ⟨lw_p3, List.forall_mem_cons.mpr ⟨lw_p4, List.forall_mem_cons.mpr ⟨lw_p5, List.forall_mem_cons.mpr ⟨lw_p6, List.forall_mem_cons.mpr ⟨lw_p7, List.forall_mem_cons.mpr ⟨lw_p8, List.forall_mem_cons.mpr ⟨lw_p9, List.forall_mem_cons.mpr ⟨lw_p10, List.forall_mem_cons.mpr ⟨lw_p11, List.forall_mem_cons.mpr ⟨lw_p12, List.forall_mem_cons.mpr ⟨lw_p13, List.forall_mem_cons.mpr ⟨lw_p14, List.forall_mem_cons.mpr ⟨lw_p15, fun _ h => absurd h List.not_mem_nil⟩⟩⟩⟩⟩⟩⟩⟩⟩⟩⟩⟩⟩⟩⟩⟩
theorem lw_p16 : lw_okq (⟨"BellHush", "yieldOfSelling", "(III)I"⟩, 10) := ⟨⟨by decide +kernel, by decide +kernel⟩, List.mem_of_getElem? (i := 12) (by decide +kernel), List.mem_of_getElem? (i := 430) (by decide +kernel), List.mem_of_getElem? (i := 431) (by decide +kernel)⟩
theorem lw_p17 : lw_okq (⟨"BellHush", "closedIn", "(II)I"⟩, 10) := ⟨⟨by decide +kernel, by decide +kernel⟩, List.mem_of_getElem? (i := 12) (by decide +kernel), List.mem_of_getElem? (i := 441) (by decide +kernel), List.mem_of_getElem? (i := 442) (by decide +kernel)⟩
theorem lw_p18 : lw_okq (⟨"BellHushModel", "fail", "(I)I"⟩, 8) := ⟨⟨by decide +kernel, by decide +kernel⟩, List.mem_of_getElem? (i := 445) (by decide +kernel), List.mem_of_getElem? (i := 487) (by decide +kernel), List.mem_of_getElem? (i := 488) (by decide +kernel)⟩
theorem lw_p19 : lw_okq (⟨"BellHushModel", "can", "(III)Z"⟩, 8) := ⟨⟨by decide +kernel, by decide +kernel⟩, List.mem_of_getElem? (i := 445) (by decide +kernel), List.mem_of_getElem? (i := 499) (by decide +kernel), List.mem_of_getElem? (i := 500) (by decide +kernel)⟩
theorem lw_p20 : lw_okq (⟨"BellHushModel", "isTrader", "(I)Z"⟩, 8) := ⟨⟨by decide +kernel, by decide +kernel⟩, List.mem_of_getElem? (i := 445) (by decide +kernel), List.mem_of_getElem? (i := 503) (by decide +kernel), List.mem_of_getElem? (i := 504) (by decide +kernel)⟩
theorem lw_p21 : lw_okq (⟨"BellHushModel", "isTower", "(I)Z"⟩, 8) := ⟨⟨by decide +kernel, by decide +kernel⟩, List.mem_of_getElem? (i := 445) (by decide +kernel), List.mem_of_getElem? (i := 507) (by decide +kernel), List.mem_of_getElem? (i := 508) (by decide +kernel)⟩
theorem lw_p22 : lw_okq (⟨"BellHushModel", "price", "(I)I"⟩, 8) := ⟨⟨by decide +kernel, by decide +kernel⟩, List.mem_of_getElem? (i := 445) (by decide +kernel), List.mem_of_getElem? (i := 511) (by decide +kernel), List.mem_of_getElem? (i := 512) (by decide +kernel)⟩
theorem lw_p23 : lw_okq (⟨"BellHushModel", "priceBehind", "(II)I"⟩, 8) := ⟨⟨by decide +kernel, by decide +kernel⟩, List.mem_of_getElem? (i := 445) (by decide +kernel), List.mem_of_getElem? (i := 515) (by decide +kernel), List.mem_of_getElem? (i := 516) (by decide +kernel)⟩
theorem lw_p24 : lw_okq (⟨"BellHushModel", "doves", "(I)I"⟩, 8) := ⟨⟨by decide +kernel, by decide +kernel⟩, List.mem_of_getElem? (i := 445) (by decide +kernel), List.mem_of_getElem? (i := 519) (by decide +kernel), List.mem_of_getElem? (i := 520) (by decide +kernel)⟩
theorem lw_p25 : lw_okq (⟨"BellHushModel", "sold", "(III)I"⟩, 8) := ⟨⟨by decide +kernel, by decide +kernel⟩, List.mem_of_getElem? (i := 445) (by decide +kernel), List.mem_of_getElem? (i := 531) (by decide +kernel), List.mem_of_getElem? (i := 532) (by decide +kernel)⟩
theorem lw_p26 : lw_okq (⟨"BellHushModel", "secondsOn", "(I)I"⟩, 8) := ⟨⟨by decide +kernel, by decide +kernel⟩, List.mem_of_getElem? (i := 445) (by decide +kernel), List.mem_of_getElem? (i := 539) (by decide +kernel), List.mem_of_getElem? (i := 540) (by decide +kernel)⟩
theorem lw_p27 : lw_okq (⟨"BellHushModel", "secondOn", "()I"⟩, 8) := ⟨⟨by decide +kernel, by decide +kernel⟩, List.mem_of_getElem? (i := 445) (by decide +kernel), List.mem_of_getElem? (i := 543) (by decide +kernel), List.mem_of_getElem? (i := 544) (by decide +kernel)⟩
theorem lw_p28 : lw_okq (⟨"BellHushModel", "told", "(I)I"⟩, 8) := ⟨⟨by decide +kernel, by decide +kernel⟩, List.mem_of_getElem? (i := 445) (by decide +kernel), List.mem_of_getElem? (i := 551) (by decide +kernel), List.mem_of_getElem? (i := 552) (by decide +kernel)⟩
theorem lw_p29 : lw_okq (⟨"BellHushModel", "until", "(I)I"⟩, 8) := ⟨⟨by decide +kernel, by decide +kernel⟩, List.mem_of_getElem? (i := 445) (by decide +kernel), List.mem_of_getElem? (i := 575) (by decide +kernel), List.mem_of_getElem? (i := 576) (by decide +kernel)⟩
theorem lw_p30 : lw_okq (⟨"BellHushModel", "open", "(I)I"⟩, 8) := ⟨⟨by decide +kernel, by decide +kernel⟩, List.mem_of_getElem? (i := 445) (by decide +kernel), List.mem_of_getElem? (i := 587) (by decide +kernel), List.mem_of_getElem? (i := 588) (by decide +kernel)⟩
theorem lw_p31 : lw_okq (⟨"BellHushModel", "dear", "()I"⟩, 8) := ⟨⟨by decide +kernel, by decide +kernel⟩, List.mem_of_getElem? (i := 445) (by decide +kernel), List.mem_of_getElem? (i := 595) (by decide +kernel), List.mem_of_getElem? (i := 596) (by decide +kernel)⟩
def lw_privs_2 : List (MethodName × Nat) := [(⟨"BellHush", "yieldOfSelling", "(III)I"⟩, 10), (⟨"BellHush", "closedIn", "(II)I"⟩, 10), (⟨"BellHushModel", "fail", "(I)I"⟩, 8), (⟨"BellHushModel", "can", "(III)Z"⟩, 8), (⟨"BellHushModel", "isTrader", "(I)Z"⟩, 8), (⟨"BellHushModel", "isTower", "(I)Z"⟩, 8), (⟨"BellHushModel", "price", "(I)I"⟩, 8), (⟨"BellHushModel", "priceBehind", "(II)I"⟩, 8), (⟨"BellHushModel", "doves", "(I)I"⟩, 8), (⟨"BellHushModel", "sold", "(III)I"⟩, 8), (⟨"BellHushModel", "secondsOn", "(I)I"⟩, 8), (⟨"BellHushModel", "secondOn", "()I"⟩, 8), (⟨"BellHushModel", "told", "(I)I"⟩, 8), (⟨"BellHushModel", "until", "(I)I"⟩, 8), (⟨"BellHushModel", "open", "(I)I"⟩, 8), (⟨"BellHushModel", "dear", "()I"⟩, 8)]
theorem lw_r2 : ∀ q ∈ lw_privs_2, lw_okq q := List.forall_mem_cons.mpr ⟨lw_p16, List.forall_mem_cons.mpr ⟨lw_p17, List.forall_mem_cons.mpr ⟨lw_p18, List.forall_mem_cons.mpr ⟨lw_p19, List.forall_mem_cons.mpr ⟨lw_p20, List.forall_mem_cons.mpr ⟨lw_p21, List.forall_mem_cons.mpr ⟨lw_p22, List.forall_mem_cons.mpr ⟨lw_p23, List.forall_mem_cons.mpr ⟨lw_p24, List.forall_mem_cons.mpr ⟨lw_p25, List.forall_mem_cons.mpr ⟨lw_p26, List.forall_mem_cons.mpr ⟨lw_p27, List.forall_mem_cons.mpr ⟨lw_p28, List.forall_mem_cons.mpr ⟨lw_p29, List.forall_mem_cons.mpr ⟨lw_p30, List.forall_mem_cons.mpr ⟨lw_p31, fun _ h => absurd h List.not_mem_nil⟩⟩⟩⟩⟩⟩⟩⟩⟩⟩⟩⟩⟩⟩⟩⟩
theorem lw_p32 : lw_okq (⟨"BellHushModel", "next", "()I"⟩, 8) := ⟨⟨by decide +kernel, by decide +kernel⟩, List.mem_of_getElem? (i := 445) (by decide +kernel), List.mem_of_getElem? (i := 603) (by decide +kernel), List.mem_of_getElem? (i := 604) (by decide +kernel)⟩
theorem lw_p33 : lw_okq (⟨"BellHushModel", "worth", "(I)I"⟩, 8) := ⟨⟨by decide +kernel, by decide +kernel⟩, List.mem_of_getElem? (i := 445) (by decide +kernel), List.mem_of_getElem? (i := 623) (by decide +kernel), List.mem_of_getElem? (i := 624) (by decide +kernel)⟩
theorem lw_p34 : lw_okq (⟨"BellHushModel", "rich", "()I"⟩, 8) := ⟨⟨by decide +kernel, by decide +kernel⟩, List.mem_of_getElem? (i := 445) (by decide +kernel), List.mem_of_getElem? (i := 631) (by decide +kernel), List.mem_of_getElem? (i := 632) (by decide +kernel)⟩
theorem lw_p35 : lw_okq (⟨"BellHushModel", "shorts", "(I)I"⟩, 8) := ⟨⟨by decide +kernel, by decide +kernel⟩, List.mem_of_getElem? (i := 445) (by decide +kernel), List.mem_of_getElem? (i := 639) (by decide +kernel), List.mem_of_getElem? (i := 640) (by decide +kernel)⟩
theorem lw_p36 : lw_okq (⟨"BellHushModel", "owing", "()I"⟩, 8) := ⟨⟨by decide +kernel, by decide +kernel⟩, List.mem_of_getElem? (i := 445) (by decide +kernel), List.mem_of_getElem? (i := 647) (by decide +kernel), List.mem_of_getElem? (i := 648) (by decide +kernel)⟩
theorem lw_p37 : lw_okq (⟨"BellHushModel", "closing", "(I)I"⟩, 8) := ⟨⟨by decide +kernel, by decide +kernel⟩, List.mem_of_getElem? (i := 445) (by decide +kernel), List.mem_of_getElem? (i := 655) (by decide +kernel), List.mem_of_getElem? (i := 656) (by decide +kernel)⟩
theorem lw_p38 : lw_okq (⟨"BellHushModel", "keep", "()V"⟩, 8) := ⟨⟨by decide +kernel, by decide +kernel⟩, List.mem_of_getElem? (i := 445) (by decide +kernel), List.mem_of_getElem? (i := 663) (by decide +kernel), List.mem_of_getElem? (i := 664) (by decide +kernel)⟩
theorem lw_p39 : lw_okq (⟨"BellHushModel", "bringBack", "()V"⟩, 8) := ⟨⟨by decide +kernel, by decide +kernel⟩, List.mem_of_getElem? (i := 445) (by decide +kernel), List.mem_of_getElem? (i := 670) (by decide +kernel), List.mem_of_getElem? (i := 671) (by decide +kernel)⟩
theorem lw_p40 : lw_okq (⟨"BellHushModel", "toBuy", "()I"⟩, 8) := ⟨⟨by decide +kernel, by decide +kernel⟩, List.mem_of_getElem? (i := 445) (by decide +kernel), List.mem_of_getElem? (i := 682) (by decide +kernel), List.mem_of_getElem? (i := 683) (by decide +kernel)⟩
def lw_privs_3 : List (MethodName × Nat) := [(⟨"BellHushModel", "next", "()I"⟩, 8), (⟨"BellHushModel", "worth", "(I)I"⟩, 8), (⟨"BellHushModel", "rich", "()I"⟩, 8), (⟨"BellHushModel", "shorts", "(I)I"⟩, 8), (⟨"BellHushModel", "owing", "()I"⟩, 8), (⟨"BellHushModel", "closing", "(I)I"⟩, 8), (⟨"BellHushModel", "keep", "()V"⟩, 8), (⟨"BellHushModel", "bringBack", "()V"⟩, 8), (⟨"BellHushModel", "toBuy", "()I"⟩, 8)]
theorem lw_r3 : ∀ q ∈ lw_privs_3, lw_okq q := List.forall_mem_cons.mpr ⟨lw_p32, List.forall_mem_cons.mpr ⟨lw_p33, List.forall_mem_cons.mpr ⟨lw_p34, List.forall_mem_cons.mpr ⟨lw_p35, List.forall_mem_cons.mpr ⟨lw_p36, List.forall_mem_cons.mpr ⟨lw_p37, List.forall_mem_cons.mpr ⟨lw_p38, List.forall_mem_cons.mpr ⟨lw_p39, List.forall_mem_cons.mpr ⟨lw_p40, fun _ h => absurd h List.not_mem_nil⟩⟩⟩⟩⟩⟩⟩⟩⟩
def lw_privs : List (MethodName × Nat) := lw_privs_1 ++ (lw_privs_2 ++ (lw_privs_3))
def lw_tbl : List Cond := k2_sels lw_privs ++ tables_1
theorem lw_privs_ok : ∀ q ∈ lw_privs, lw_okq q := by
  show ∀ q ∈ lw_privs_1 ++ (lw_privs_2 ++ (lw_privs_3)), lw_okq q
  exact List.forall_mem_append.mpr ⟨lw_r1, List.forall_mem_append.mpr ⟨lw_r2, lw_r3⟩⟩
/-- the streams that the claim lets the run draw from -/
abbrev lw_cs : List Choice := [Jvm.Choice.named "NaN.bits"]
theorem lw_bits : nanBits ∈ lw_cs := by first | decide | exact List.mem_cons_self | simp [lw_cs, nanBits]
/-! ===== BEGIN words of one list among another's, by their places ===== -/
theorem goodIn_r {big : List Cond} (ws : List Cond) (ps : List Nat) (hp : ws = ps.filterMap (fun i => big[i]?)) (h : ws.all goodWord = true) : GoodIn big ws := by
  intro w hw
  have h1 := List.all_eq_true.mp h w hw
  rw [hp] at hw
  obtain ⟨i, -, hi⟩ := List.mem_filterMap.mp hw
  have hm : w ∈ big := by first | exact List.mem_of_getElem? hi | exact List.getElem?_mem hi
  exact ⟨hm, good_of_word h1⟩
theorem goodIn_app {big a b : List Cond} (ha : GoodIn big a) (hb : GoodIn big b) : GoodIn big (a ++ b) := fun w h => (List.mem_append.mp h).elim (ha w) (hb w)
theorem goodIn_ca {big a b : List Cond} {c : Cond} (ha : GoodIn big (c :: a)) (hb : GoodIn big b) : GoodIn big (c :: (a ++ b)) := fun w h => (List.mem_cons.mp h).elim (fun e => ha w (List.mem_cons.mpr (Or.inl e))) (fun h => (List.mem_append.mp h).elim (fun h => ha w (List.mem_cons.mpr (Or.inr h))) (hb w))
theorem goodIn_sub {big ws : List Cond} (hm : ∀ w ∈ ws, w ∈ big) (h : ws.all goodWord = true) : GoodIn big ws := fun w hw => ⟨hm w hw, good_of_word (List.all_eq_true.mp h w hw)⟩
/-! ===== END ===== -/

/-! ===== BEGIN new T[n][m]: the outer array a place, the inner ones among the pooled ===== -/
/-- f, but v at every address of l -/
def vr_up {α : Type} (f : Nat → α) (l : List Nat) (v : α) : Nat → α := fun a => if a ∈ l then v else f a
theorem vr_up_in {α : Type} {f : Nat → α} {l : List Nat} {v : α} {a : Nat} (h : a ∈ l) : vr_up f l v a = v := if_pos h
theorem vr_up_ne {α : Type} {f : Nat → α} {l : List Nat} {v : α} {a : Nat} (h : a ∉ l) : vr_up f l v a = f a := if_neg h
theorem vr_rows {L l : List Nat} {f : Nat → va_E} {e : va_E} (h : ∀ a, a ∈ l → a ∉ L) : va_pl L f ++ l.map (fun a => (a, e)) = va_pl (L ++ l) (vr_up f l e) := by
  unfold va_pl
  rw [List.map_append]
  congr 1
  · apply List.map_congr_left
    intro a ha
    rw [vr_up_ne (fun q => h a q ha)]
  · apply List.map_congr_left
    intro a ha
    rw [vr_up_in ha]
theorem vr_lay {X rows : va_W} {x : Nat × va_E} {pl : va_W} {D : va_G} {cl : List vw_C} {H : Heap} (hP : va_P D cl (((X ++ pl) ++ [x]) ++ rows) H) : va_P D cl ((X ++ [x]) ++ (pl ++ rows)) H := by
  rw [List.append_assoc (X ++ pl)] at hP
  have h := va_P.swap hP
  rw [← List.append_assoc X] at h
  have h2 := va_P.swap h
  rw [List.append_assoc (X ++ [x])] at h2
  exact h2
theorem vr_layD {X rows : va_W} {x : Nat × va_E} {pl : va_W} {A : Nat → Prop} (hD : va_D A (((X ++ pl) ++ [x]) ++ rows)) : va_D A ((X ++ [x]) ++ (pl ++ rows)) := by
  rw [List.append_assoc (X ++ pl)] at hD
  have h := va_D.swap hD
  rw [← List.append_assoc X] at h
  have h2 := va_D.swap h
  rw [List.append_assoc (X ++ [x])] at h2
  exact h2
theorem vr_outer (c : ClassId) (N h0 : Nat) : ∀ i : Nat, Jvm.Free.Multi.outerC c N h0 i = arrV c N (fun j => va_rf (if j < i then some (h0 + 1 + j) else none))
  | 0 => by
    show ({ cls := c, slots := Array.replicate N .null, vm := .none } : Cell) = _
    rw [arrV_new]
    refine congrArg (arrV c N) (funext fun j => ?_)
    simp [va_rf]
  | i + 1 => by
    show (Jvm.Free.Multi.outerC c N h0 i).setSlot i (.ref (h0 + 1 + i)) = _
    rw [vr_outer c N h0 i, arrV_store]
    refine congrArg (arrV c N) (funext fun j => ?_)
    by_cases e : j = i
    · subst e
      simp [updV, va_rf]
    · by_cases h : j < i
      · simp [updV, e, h, Nat.lt_succ_of_lt h]
      · simp [updV, e, h, show ¬ j < i + 1 by omega]
/-- an array class's component is an array class: by the tables -/
def va_AOA (ty : FieldType) (U : State) : Prop := (Cond.arrayOver (.array ty)).before #[] U = true
theorem va_AOA.use {ty : FieldType} {A : Array Value} {U : State} (h : va_AOA ty U) : (Cond.arrayOver (.array ty)).before A U = true := h
section VGM
variable {p : Program} {l : Launch} {e : Env} {R : Room} {s : State} {m : MethodId} {args : Array Value} {below : List Frame} {meth : Method} {c : Code} {H : Heap} {locs : List Loc} {cells slots : Nat} {Q : State → Prop}
variable {cc : ByteArray} {pc : Nat} {ls : Array Slot} {rest : List Value} {D : va_G} {cl : List vw_C} {A : Nat → Prop} {a : Nat} {tys : List (ClassId × FieldType)} {ws : va_W} {H0 : Heap}
theorem va_mna {X : va_W} {L : List Nat} {f : Nat → va_E} {cc : ByteArray} (hexec : p.tables.exec = Jvm.exec) (hb : c.code = cc) {own : String} {index : Nat} {ty : FieldType} {cy : ClassId} (hown : s.vm.findClass own = some m.cls) (hclink : (Cond.classLink own index ("[" ++ (FieldType.array ty).toString)).before args s = true) (hover : va_AOA ty s) (harr : (Cond.arrayClass ty).before args s = true) (hcy : s.vm.findClass (FieldType.array ty).toString = some cy)
    (hK : va_K D cl tys s) (hP : va_P D cl (X ++ va_pl L f) H) (hD : va_D A (X ++ va_pl L f)) (hS : va_S A H0 H locs) (hA : ∀ q, H0.size ≤ q → A q) {n k : Int32} {N' K' : Nat} {z : vp_A} (hn : ¬ n < 0) (hk : ¬ k < 0) (hN : n.toNatClampNeg = N') (hM : k.toNatClampNeg = K')
    (hb1 : N' * 4 ≤ 536870912) (hb2 : K' * componentBytes ty ≤ 536870912) (hb3 : K' ≤ 536870912) (hdf : fits ty (defaultValue ty) = true) (hdd : (defaultValue ty).isDefault = true) (hcells : cells + (1 + N') ≤ R.cells) (hslots : slots + (N' + N' * K') ≤ R.slots) (hz : ∀ c : ClassId, Jvm.Free.Multi.innerC c K' (defaultValue ty) = vp_cell c z) (hdg : decode cc pc = .ok (.multianewarray index 2, 4))
    (kk : ∀ (q : Nat) (r : Nat → Nat) (cA : ClassId) (H1 : Heap), (∀ i j : Nat, i < N' → j < N' → r i = r j → i = j) → (∀ i : Nat, i < N' → r i ∉ L) → va_K D cl (tys ++ [(cA, .array ty)]) s →
      va_P D cl ((X ++ [(q, .inl (cA, N', .inr (.inr (.inr (.inr (fun i => if i < N' then some (r i) else none))))))]) ++ va_pl (L ++ (List.range N').map r) (vr_up f ((List.range N').map r) (.inl (cy, z)))) H1 → va_D A ((X ++ [(q, .inl (cA, N', .inr (.inr (.inr (.inr (fun i => if i < N' then some (r i) else none))))))]) ++ va_pl (L ++ (List.range N').map r) (vr_up f ((List.range N').map r) (.inl (cy, z)))) → va_S A H0 H1 locs →
      W p l e R s m args below meth c H1 locs (cells + 1 + N') (slots + N' + N' * K') Q (F0 m (pc + 4) ls (.ref q :: rest))) : W p l e R s m args below meth c H locs cells slots Q (F0 m pc ls (.int k :: .int n :: rest)) := by
  subst hN
  subst hM
  intro T hT Xs
  obtain ⟨vm₁, cA, comp, -, fA, fC, hO, -, X', step⟩ := Xs.multianewarray2F hexec hown hclink (va_AOA.use hover) harr (g := F0 m pc ls (.int k :: .int n :: rest)) rfl (by rw [hb]; exact hdg) rfl hn hk hb1 hb2 hb3 hdf hdd hcells hslots
  have ec : some cy = some comp := hcy.symm.trans fC
  cases ec
  generalize hF : Jvm.Free.Multi.fill (T.setVm vm₁) cA cy n.toNatClampNeg k.toNatClampNeg (defaultValue ty) n.toNatClampNeg = F at X' step
  have hTh : (T.setVm vm₁).heap = H := hT
  obtain ⟨f1, f2, -, -⟩ := Jvm.Free.Multi.fill_facts (T.setVm vm₁) cA cy n.toNatClampNeg k.toNatClampNeg (defaultValue ty) n.toNatClampNeg
  rw [hF, hTh] at f1 f2
  have hold : ∀ x : Nat, x < H.size → F.heap[x]? = H[x]? := fun x hx => by
    have := Jvm.Free.Multi.fill_old (T.setVm vm₁) cA cy n.toNatClampNeg k.toNatClampNeg (defaultValue ty) (a := x) (by rw [hTh]; exact hx) n.toNatClampNeg
    rw [hF, hTh] at this
    exact this
  have hrow : ∀ j : Nat, j < n.toNatClampNeg → F.heap[H.size + 1 + j]? = some (vp_cell cy z) := fun j hj => by
    have := Jvm.Free.Multi.fill_inner (T.setVm vm₁) cA cy n.toNatClampNeg k.toNatClampNeg (defaultValue ty) n.toNatClampNeg j hj
    rw [hF, hTh, hz] at this
    exact this
  have hout : Jvm.Free.Multi.outerC cA n.toNatClampNeg H.size n.toNatClampNeg = vp_cell cA (n.toNatClampNeg, .inr (.inr (.inr (.inr (fun i => if i < n.toNatClampNeg then some (H.size + 1 + i) else none))))) := by
    rw [vp_cell_q]
    exact vr_outer cA n.toNatClampNeg H.size n.toNatClampNeg
  rw [hout] at f2
  have hlt : ∀ a, a ∈ L → a < H.size := fun a ha => by
    obtain ⟨k9, hk9⟩ := va_pl_get (X := X) (f := f) ha
    exact (hP k9 _ hk9).lt
  have hnl : ∀ i : Nat, i < n.toNatClampNeg → H.size + 1 + i ∉ L := fun i _ h => by
    have := hlt _ h
    omega
  have hnm : ∀ a, a ∈ (List.range n.toNatClampNeg).map (fun i => H.size + 1 + i) → a ∉ L := fun a ha h => by
    obtain ⟨i, -, rfl⟩ := List.mem_map.mp ha
    have := hlt _ h
    omega
  have hP0 : va_P D cl (X ++ va_pl L f) F.heap := hP.kept (fun k9 x hx => hold x.1 ((hP k9 x hx).lt))
  have hP1 : va_P D cl ((X ++ va_pl L f) ++ [(H.size, .inl (cA, n.toNatClampNeg, .inr (.inr (.inr (.inr (fun i => if i < n.toNatClampNeg then some (H.size + 1 + i) else none))))))]) F.heap := hP0.app (fun k9 x hx => by
    have h0 : k9 < 1 := (List.getElem?_eq_some_iff.mp hx).1
    rw [show k9 = 0 by omega] at hx
    cases hx
    exact f2)
  have hP2 : va_P D cl (((X ++ va_pl L f) ++ [(H.size, .inl (cA, n.toNatClampNeg, .inr (.inr (.inr (.inr (fun i => if i < n.toNatClampNeg then some (H.size + 1 + i) else none))))))]) ++ ((List.range n.toNatClampNeg).map (fun i => H.size + 1 + i)).map (fun a => (a, .inl (cy, z)))) F.heap := hP1.app (fun k9 x hx => by
    obtain ⟨a, ha, rfl⟩ := List.mem_map.mp (List.mem_of_getElem? hx)
    obtain ⟨i, hi, rfl⟩ := List.mem_map.mp ha
    exact hrow i (List.mem_range.mp hi))
  have hD2 : va_D A (((X ++ va_pl L f) ++ [(H.size, .inl (cA, n.toNatClampNeg, .inr (.inr (.inr (.inr (fun i => if i < n.toNatClampNeg then some (H.size + 1 + i) else none))))))]) ++ ((List.range n.toNatClampNeg).map (fun i => H.size + 1 + i)).map (fun a => (a, .inl (cy, z)))) := by
    have hD1 := hD.push (e := .inl (cA, n.toNatClampNeg, .inr (.inr (.inr (.inr (fun i => if i < n.toNatClampNeg then some (H.size + 1 + i) else none)))))) hP rfl (hA _ hS.1)
    generalize hW1 : (X ++ va_pl L f) ++ [(H.size, .inl (cA, n.toNatClampNeg, .inr (.inr (.inr (.inr (fun i => if i < n.toNatClampNeg then some (H.size + 1 + i) else none))))))] = W1 at hD1 hP1 ⊢
    have hle : ∀ (k9 : Nat) (x : Nat × va_E), W1[k9]? = some x → x.1 ≤ H.size := fun k9 x hx => by
      rw [← hW1] at hx
      by_cases hl : k9 < (X ++ va_pl L f).length
      · rw [List.getElem?_append_left hl] at hx
        exact Nat.le_of_lt ((hP k9 x hx).lt)
      · rw [List.getElem?_append_right (by omega)] at hx
        have h0 : k9 - (X ++ va_pl L f).length < 1 := (List.getElem?_eq_some_iff.mp hx).1
        rw [show k9 - (X ++ va_pl L f).length = 0 by omega] at hx
        cases hx
        exact Nat.le_refl _
    have hr : ∀ (k9 : Nat) (x : Nat × va_E), (((List.range n.toNatClampNeg).map (fun i => H.size + 1 + i)).map (fun a => ((a, .inl (cy, z)) : Nat × va_E)))[k9]? = some x → x.1 = H.size + 1 + k9 := fun k9 x hx => by
      rw [List.getElem?_map, List.getElem?_map] at hx
      by_cases h9 : k9 < n.toNatClampNeg
      · rw [List.getElem?_range h9] at hx
        cases hx
        rfl
      · have hn0 : (List.range n.toNatClampNeg)[k9]? = none := List.getElem?_eq_none (by rw [List.length_range]; omega)
        rw [hn0] at hx
        cases hx
    refine ⟨fun i j x y hi hj hxy => ?_, fun k9 x hx => ?_⟩
    · by_cases h1 : i < W1.length <;> by_cases h2 : j < W1.length
      · rw [List.getElem?_append_left h1] at hi
        rw [List.getElem?_append_left h2] at hj
        exact hD1.1 i j x y hi hj hxy
      · rw [List.getElem?_append_left h1] at hi
        rw [List.getElem?_append_right (by omega)] at hj
        have := hle _ _ hi
        have := hr _ _ hj
        omega
      · rw [List.getElem?_append_right (by omega)] at hi
        rw [List.getElem?_append_left h2] at hj
        have := hle _ _ hj
        have := hr _ _ hi
        omega
      · rw [List.getElem?_append_right (by omega)] at hi hj
        have := hr _ _ hi
        have := hr _ _ hj
        omega
    · by_cases h1 : k9 < W1.length
      · rw [List.getElem?_append_left h1] at hx
        exact hD1.2 k9 x hx
      · rw [List.getElem?_append_right (by omega)] at hx
        have := hr _ _ hx
        exact hA _ (by have := hS.1; omega)
  have hAr : ArrOfT s cA (.array ty) := fun N9 z9 => by
    obtain ⟨-, k9, hk9, cm9, hkk9⟩ := (hO 0 0 0).1
    exact ⟨(fun q hq => by cases hq), k9, hk9, cm9, hkk9⟩
  have hK2 : va_K D cl (tys ++ [(cA, .array ty)]) s := ⟨hK.1, fun k9 x hx => by
    by_cases hl : k9 < tys.length
    · rw [List.getElem?_append_left hl] at hx
      exact hK.2 k9 x hx
    · rw [List.getElem?_append_right (by omega)] at hx
      have h0 : k9 - tys.length < 1 := (List.getElem?_eq_some_iff.mp hx).1
      rw [show k9 - tys.length = 0 by omega] at hx
      cases hx
      exact ⟨hAr, fA⟩⟩
  obtain ⟨t, a1, b1⟩ := kk H.size (fun i => H.size + 1 + i) cA F.heap (fun i j _ _ h => by have h9 : H.size + 1 + i = H.size + 1 + j := h; omega) hnl hK2 (by rw [← vr_rows hnm]; exact vr_lay hP2) (by rw [← vr_rows hnm]; exact vr_layD hD2) ⟨by rw [f1]; have := hS.1; omega, fun x h1 h2 => (hold x (Nat.lt_of_lt_of_le h1 hS.1)).trans (hS.2.1 x h1 h2), hS.2.2⟩ F rfl X'
  refine ⟨t, step t ?_, b1⟩
  have e : T.heap.size = H.size := by rw [hT]
  rw [e]
  exact a1
end VGM
/-! ===== END ===== -/

/-! ===== BEGIN exceptions that leave a method, and their catching by the caller (launches without stack traces) ===== -/
section VXA
/-! The laws vx_back, vx_callV, vx_callS, vx_callSW, vx_throw0, vx_throwS follow proofs of the library, with one case more: JvmDerived/Free/Laws.lean (Back.of_free), Shelf42/LK1.lean (callV, callS), Shelf/KitTraced.lean (throwNew0V, throwNewS). -/
/-- where a method has thrown q: the class by its name, the cell, what was written, the world -/
def vx_T (XC : String → State → State → Prop) (st : State) (q : Addr) (t : State) (mc ms : Nat) (free : Addr → Prop) : Prop :=
  ∃ (E : String) (ce : Cell) (L : List Loc), XC E st t ∧ t.heap[q]? = some ce ∧ ce.vm = .none ∧ st.vm.findClass E = some ce.cls ∧ st.WarmedH t.vm ∧ st.sameButNew ({ t with vm := st.vm } : State) L mc ms ∧ ∀ z ∈ L, free z.base
def vx_Q (Qc : Array Value → State → Outcome → State → Prop) (XC : String → State → State → Prop) (mc ms : Nat) (free : Addr → Prop) : Array Value → State → Outcome → State → Prop := fun a st o t =>
  (Qc a st o t ∧ ∃ L, FrameEnd st o t L mc ms ∧ ∀ q ∈ L, free q.base) ∨ ∃ q, o = .threw q ∧ vx_T XC st q t mc ms free
/-- a callee that returns or throws -/
def vx_Met (l : Launch) (y : MethodName) (ws : List Cond) (rm : Room) (Pc : Array Value → State → Prop) (Qc : Array Value → State → Outcome → State → Prop) (XC : String → State → State → Prop) (mc ms : Nat) (free : Addr → Prop) : Prop :=
  MetFree l y (headSpec ws rm) Pc (fun _ _ _ _ _ => True) (vx_Q Qc XC mc ms free)
def vx_Post (XC : String → State → State → Prop) (mc ms : Nat) (free : Addr → Prop) : Pt → Array Value → Addr → Pt → Prop := fun A a q B =>
  ∃ (g : JFrame) (mk : MethodId) (t : State) (L : List Loc) (E : String) (ce : Cell), B.U.heap = t.heap ∧ B.U.vm = t.vm ∧ XC E (A.U.calling g mk a) t ∧ t.heap[q]? = some ce ∧ ce.vm = .none ∧ A.U.vm.findClass E = some ce.cls ∧ B.locs = A.locs ++ L ∧ (∀ z ∈ L, free z.base) ∧ B.cells = A.cells + mc ∧ B.slots = A.slots + ms
def vx_Back (l : Launch) (R : Room) (p : Program) (e : Env) (below : List Frame) (s : State) (sargs : Array Value) (y : MethodName) (len W9 : Nat)
    (Pre : Pt → Array Value → Prop) (Post : Pt → Array Value → Option Value → Pt → Prop) (PostX : Pt → Array Value → Addr → Pt → Prop) : Prop :=
  ∀ (m : MethodId) (meth : Method) (c : Code) (A : Pt) (g : JFrame) (ig : Instr) (mk : MethodId) (a : Array Value),
    Stand p l e R s m sargs below meth c A.U A.locs A.cells A.slots → g.method = m → g.locals.size = c.maxLocals → decode c.code g.pc = .ok (ig, len) →
    2 * g.monitorRoom + (g.stack.map fun v => v.category).sum ≤ W9 → A.U.methodNamed? y = some mk → Pre A a →
    (∃ (v : Option Value) (B : Pt), Stand p l e R s m sargs below meth c B.U B.locs B.cells B.slots ∧ Post A a v B ∧
      Steps p.tables e below (doInvoke e (A.U.setTop g) [] mk a).1 (B.U.setTop { g with pc := g.pc + len, stack := v.toList ++ g.stack })) ∨
    (∃ (q : Addr) (B : Pt), Stand p l e R s m sargs below meth c B.U B.locs B.cells B.slots ∧ PostX A a q B ∧
      Steps p.tables e below (doInvoke e (A.U.setTop g) [] mk a).1 ((B.U.setTop g).pushFrame (.throwing q)))
section Payer
variable {l : Launch} {R : Room} {p : Program} {e : Env} {below : List Frame} {s : State} {sargs : Array Value} {y : MethodName} {len W9 : Nat}
theorem vx_back {ws : List Cond} {rm : Room} {Pc : Array Value → State → Prop} {Qc : Array Value → State → Outcome → State → Prop} {XC : String → State → State → Prop} {mc ms : Nat} {free : Addr → Prop} {bytes : ByteArray} {maxL : Nat} {ret : Option FieldType}
    (hM : vx_Met l y ws rm Pc Qc XC mc ms free) (hblind : FrameBlind Pc) (hrc : rm.cells = mc) (hrs : rm.slots = ms)
    (hframes : rm.frames + 1 ≤ R.frames) (hlocals : W9 + (maxL + 11) + rm.locals ≤ R.locals)
    (hws : ∀ w ∈ ws, ∀ a' U, s.WarmedH U.vm → w.before a' U = true) (hcode : Cond.code y bytes maxL ret ∈ ws) (hinit : ∀ a' U, s.WarmedH U.vm → (Cond.initialized y.cls).before a' U = true) :
    vx_Back l R p e below s sargs y len W9 (PreOf R mc ms Pc) (PostOf Qc mc ms free) (vx_Post XC mc ms free) := by
  intro m meth c A g ig mk a X hg hsize hdg hW hn hp
  have h1 : (headSpec ws rm).pre.before a A.U = true := atoms_intro fun w hw => hws w hw _ _ X.warmed
  have h2 : (Cond.code y bytes maxL ret).before a A.U = true := hws _ hcode _ _ X.warmed
  have h3 : (Cond.initialized y.cls).before a A.U = true := hinit _ _ X.warmed
  have h4 : A.cells + (headSpec ws rm).room.cells ≤ R.cells := by rw [show (headSpec ws rm).room.cells = mc from hrc]; exact hp.1
  have h5 : A.slots + (headSpec ws rm).room.slots ≤ R.slots := by rw [show (headSpec ws rm).room.slots = ms from hrs]; exact hp.2.1
  have hPc : Pc a (A.U.calling g mk a) := hblind _ _ _ _ hp.2.2
  obtain ⟨U, Ls, c0, s0⟩ := A
  dsimp only [Pt.U, Pt.locs, Pt.cells, Pt.slots] at h1 h2 h3 h4 h5 X hn hPc ⊢
  obtain ⟨methY, cY, hmY, hcY, -, hlY, -, -, -, -⟩ := Cond.code_spec hn h2
  obtain ⟨kY, hkY, -⟩ := className_of_methodNamed hn
  have hinitY : kY.init = .initialized := Cond.initialized_spec (findClass_of_methodNamed hn) hkY h3
  have h : At U g.method c below := by rw [hg]; exact X.here
  have hlocals9 : W9 + (maxL + 11) + (headSpec ws rm).room.locals ≤ R.locals := hlocals
  have happ : (headSpec ws rm).appliesLoose y e.platform (U.calling g mk a) = true :=
    Spec.appliesLoose_calling (g := g) h hdg hn hkY hinitY
      (X.room_calling (g := g) (R' := (headSpec ws rm).room) hsize hmY hcY hframes (by rw [hlY]; omega) h4 h5) h1
  obtain ⟨mid, hmid⟩ := h.above
  have hfr : (U.setTop g).frames = (.java g :: mid) ++ below := by rw [State.frames_setTop' g h.top, hmid]; rfl
  obtain ⟨o, s₂, hsteps, -, hend, hq⟩ := Steps.callFree hM p X.admits X.cas X.clock (acts := []) hfr happ hPc trivial
  have hq' : vx_Q Qc XC mc ms free a (U.calling g mk a) o s₂ := hq
  rw [State.frames_setTop' g h.top] at hend
  obtain ⟨g₀, hg0⟩ := Option.isSome_iff_exists.mp h.top
  obtain ⟨r, hr⟩ := State.topJava?_eq_some.mp hg0
  have hr' : (({ U with heap := s₂.heap, slotsUsed := s₂.slotsUsed } : State).setVm s₂.vm).frames = .java g₀ :: r := hr
  rcases hq' with ⟨hqc, L, hfe, hL⟩ | ⟨q, rfl, E, ce, L, hx, hce, hcv, hcl, hW₂, hsm, hL⟩
  · obtain ⟨⟨v, rfl⟩, hW₂, e2, q2, q3, q4, q5, q6⟩ := id hfe
    have e3 : s₂ = ({ (U.calling g mk a).setFrames s₂.frames with heap := s₂.heap, slotsUsed := s₂.slotsUsed } : State).setVm s₂.vm := by
      have : s₂ = ({ s₂ with vm := (U.calling g mk a).vm } : State).setVm s₂.vm := rfl
      rw [e2] at this
      exact this
    obtain ⟨c₂, i₂, len₂, hc₂, hd₂, hf₂⟩ := hend
    have hW' : U.WarmedH s₂.vm := hW₂
    have hcc : c₂ = c := by
      have h1 : s₂.code? g.method = U.code? g.method := by
        rw [State.code?_eq, State.code?_eq, hW'.alike.method?]
      exact Option.some.inj (hc₂.symm.trans (h1.trans h.code))
    subst hcc
    have hlen : len₂ = len := by rw [hdg] at hd₂; cases hd₂; rfl
    subst hlen
    have hs₂ : s₂ = (({ U with heap := s₂.heap, slotsUsed := s₂.slotsUsed } : State).setVm s₂.vm).setTop { g with pc := g.pc + len₂, stack := v.toList ++ g.stack } := by
      refine e3.trans ?_
      rw [hf₂, State.calling_eq h.top, State.setFrames_setFrames, State.setTop_of_frames _ hr', hr]
      rfl
    have hsame : U.sameButNew ({ U with heap := s₂.heap, slotsUsed := s₂.slotsUsed } : State) L mc ms := by
      refine ⟨?_, q2, q3, q4, q5, q6⟩
      obtain ⟨t, ht, -⟩ := State.frames_cons hr
      show ({ U with heap := s₂.heap, slotsUsed := s₂.slotsUsed } : State) = { U.setFrames U.frames with heap := s₂.heap, slotsUsed := s₂.slotsUsed }
      rw [State.setFrames_self ht]
    subst hg
    refine Or.inl ⟨v, ⟨(({ U with heap := s₂.heap, slotsUsed := s₂.slotsUsed } : State).setVm s₂.vm), Ls ++ L, c0 + mc, s0 + ms⟩,
      ⟨X.admits, X.cas, X.clock, X.frames, X.room, X.hears, X.method, X.code, (X.here.setHeapUsed s₂.heap s₂.slotsUsed).setVm hW'.alike, X.tail, State.WarmedH.trans X.warmed hW', X.limits, X.bytes, X.same.trans (hsame.setVm s.vm)⟩,
      ⟨g, mk, s₂, L, rfl, rfl, hqc, rfl, hL, rfl, rfl⟩, ?_⟩
    show Steps p.tables e below _ ((({ U with heap := s₂.heap, slotsUsed := s₂.slotsUsed } : State).setVm s₂.vm).setTop { g with pc := g.pc + len₂, stack := v.toList ++ g.stack })
    rw [← hs₂]
    exact hsteps
  · obtain ⟨e2, q2, q3, q4, q5, q6⟩ := id hsm
    have e3 : s₂ = ({ (U.calling g mk a).setFrames s₂.frames with heap := s₂.heap, slotsUsed := s₂.slotsUsed } : State).setVm s₂.vm := by
      have : s₂ = ({ s₂ with vm := (U.calling g mk a).vm } : State).setVm s₂.vm := rfl
      rw [e2] at this
      exact this
    have hf₂ : s₂.frames = .throwing q :: .java g :: U.frames.tail := hend
    have hW' : U.WarmedH s₂.vm := hW₂
    have hs₂ : s₂ = ((({ U with heap := s₂.heap, slotsUsed := s₂.slotsUsed } : State).setVm s₂.vm).setTop g).pushFrame (.throwing q) := by
      refine e3.trans ?_
      rw [hf₂, State.calling_eq h.top, State.setFrames_setFrames, State.pushFrame, State.frames_setTop _ hr', State.setTop_of_frames _ hr', State.setFrames_setFrames, hr]
      rfl
    have hsame : U.sameButNew ({ U with heap := s₂.heap, slotsUsed := s₂.slotsUsed } : State) L mc ms := by
      refine ⟨?_, q2, q3, q4, q5, q6⟩
      obtain ⟨t, ht, -⟩ := State.frames_cons hr
      show ({ U with heap := s₂.heap, slotsUsed := s₂.slotsUsed } : State) = { U.setFrames U.frames with heap := s₂.heap, slotsUsed := s₂.slotsUsed }
      rw [State.setFrames_self ht]
    subst hg
    refine Or.inr ⟨q, ⟨(({ U with heap := s₂.heap, slotsUsed := s₂.slotsUsed } : State).setVm s₂.vm), Ls ++ L, c0 + mc, s0 + ms⟩,
      ⟨X.admits, X.cas, X.clock, X.frames, X.room, X.hears, X.method, X.code, (X.here.setHeapUsed s₂.heap s₂.slotsUsed).setVm hW'.alike, X.tail, State.WarmedH.trans X.warmed hW', X.limits, X.bytes, X.same.trans (hsame.setVm s.vm)⟩,
      ⟨g, mk, s₂, L, E, ce, rfl, rfl, hx, hce, hcv, hcl, rfl, hL, rfl, rfl⟩, ?_⟩
    show Steps p.tables e below _ (((({ U with heap := s₂.heap, slotsUsed := s₂.slotsUsed } : State).setVm s₂.vm).setTop g).pushFrame (.throwing q))
    rw [← hs₂]
    exact hsteps
end Payer
section Calls
variable {p : Program} {l : Launch} {e : Env} {R : Room} {s : State} {m : MethodId} {args : Array Value} {below : List Frame} {meth : Method} {c : Code} {T : State} {locs : List Loc} {cells slots : Nat}
theorem vx_callV (X : Stand p l e R s m args below meth c T locs cells slots) (hexec : p.tables.exec = Jvm.exec) {own C : String} {index : Nat} {y : MethodName} {bytes : ByteArray} {maxL : Nat} {ret : Option FieldType}
    (hown : s.vm.findClass own = some m.cls) (hlink : (Cond.methodLink own index y).before args s = true) (hinst : (Cond.instanceMethod y).before args s = true) (hsel : (Cond.selects C y y).before args s = true)
    (hcode : (Cond.code y bytes maxL ret).before args s = true) (hy : y.cls ≠ "java/lang/invoke/MethodHandle" ∧ y.cls ≠ "java/lang/invoke/VarHandle")
    {W9 : Nat} {Pre : Pt → Array Value → Prop} {Post : Pt → Array Value → Option Value → Pt → Prop} {PostX : Pt → Array Value → Addr → Pt → Prop} (hK : vx_Back l R p e below s args y 3 W9 Pre Post PostX)
    {b : Addr} {cellB : Cell} (hcell : T.heap[b]? = some cellB) (hobj : cellB.vm.isStatics = false) (hcls : s.vm.findClass C = some cellB.cls)
    {g : JFrame} (hg : g.method = m) (hsize : g.locals.size = c.maxLocals) {argsL rest : List Value} (hlen : ∀ sig, parseMethodDescriptor y.desc = some sig → argsL.length = sig.parameters.length)
    (hstack : g.stack = argsL.reverse ++ .ref b :: rest) (hW : 2 * g.monitorRoom + (rest.map fun v => v.category).sum ≤ W9) (hdg : decode c.code g.pc = .ok (.invokevirtual index, 3))
    (hpre : ∀ vm₁, s.WarmedH vm₁ → Pre ⟨T.setVm vm₁, locs, cells, slots⟩ (Value.ref b :: argsL).toArray) :
    (∃ (v : Option Value) (vm₁ : Vm) (B : Pt), s.WarmedH vm₁ ∧ Stand p l e R s m args below meth c B.U B.locs B.cells B.slots ∧ Post ⟨T.setVm vm₁, locs, cells, slots⟩ (Value.ref b :: argsL).toArray v B ∧
      ∀ target, Steps p.tables e below (B.U.setTop { g with pc := g.pc + 3, stack := v.toList ++ rest }) target → Steps p.tables e below (T.setTop g) target) ∨
    (∃ (q : Addr) (vm₁ : Vm) (B : Pt), s.WarmedH vm₁ ∧ Stand p l e R s m args below meth c B.U B.locs B.cells B.slots ∧ PostX ⟨T.setVm vm₁, locs, cells, slots⟩ (Value.ref b :: argsL).toArray q B ∧
      Steps p.tables e below (T.setTop g) ((B.U.setTop { g with stack := rest }).pushFrame (.throwing q))) := by
  obtain ⟨mk, methM, hnamed, hmethM, hstM, habM⟩ := Cond.instanceMethod_spec hinst
  obtain ⟨methM', cM, hmethM', -, -, -, -, -, -, hsigM⟩ := Cond.code_spec hnamed hcode
  cases hmethM.symm.trans hmethM'
  obtain ⟨c2, r2, m2, q1, q2, q3, q4, kP, hkP, hkPi⟩ := Cond.selects_spec hsel
  cases hcls.symm.trans q1
  cases (State.methodFound?_of_named hnamed hy).symm.trans q2
  cases hnamed.symm.trans q3
  have hselP : selectMethod e.platform s.vm cellB.cls mk = .method mk := by rw [Launch.admits_selectMethod X.admits]; exact q4
  obtain ⟨vm₁, X₁, hstep₁⟩ := X.invokevirtual hexec hown hlink hnamed hmethM hstM hkP hkPi hy (a := b) (cell := cellB) hcell
    (fun z h => by rw [h] at hobj; cases hobj) hselP hmethM habM hkP hkPi (g := g) hg (argsL := argsL) (rest := rest) (hlen _ hsigM) hstack hdg
  rcases hK m meth c ⟨T.setVm vm₁, locs, cells, slots⟩ { g with stack := rest } (.invokevirtual index) mk (Value.ref b :: argsL).toArray X₁ hg hsize hdg hW (X₁.named hnamed) (hpre vm₁ X₁.warmed) with ⟨v, B, X', hpost, hsteps⟩ | ⟨q, B, X', hpost, hsteps⟩
  · exact Or.inl ⟨v, vm₁, B, X₁.warmed, X', hpost, fun target h => hstep₁ _ fun acts => by rw [doInvoke_state]; exact hsteps.trans h⟩
  · exact Or.inr ⟨q, vm₁, B, X₁.warmed, X', hpost, hstep₁ _ fun acts => by rw [doInvoke_state]; exact hsteps⟩
theorem vx_callS (X : Stand p l e R s m args below meth c T locs cells slots) (hexec : p.tables.exec = Jvm.exec) {own : String} {index : Nat} {y : MethodName} {bytes : ByteArray} {maxL : Nat} {ret : Option FieldType}
    (hown : s.vm.findClass own = some m.cls) (hlink : (Cond.methodLink own index y).before args s = true) (hstat : (Cond.static y).before args s = true) (hinit : (Cond.initialized y.cls).before args s = true)
    (hcode : (Cond.code y bytes maxL ret).before args s = true) (hy : y.cls ≠ "java/lang/invoke/MethodHandle" ∧ y.cls ≠ "java/lang/invoke/VarHandle")
    {W9 : Nat} {Pre : Pt → Array Value → Prop} {Post : Pt → Array Value → Option Value → Pt → Prop} {PostX : Pt → Array Value → Addr → Pt → Prop} (hK : vx_Back l R p e below s args y 3 W9 Pre Post PostX)
    {g : JFrame} (hg : g.method = m) (hsize : g.locals.size = c.maxLocals) {argsL rest : List Value} (hlen : ∀ sig, parseMethodDescriptor y.desc = some sig → argsL.length = sig.parameters.length)
    (hstack : g.stack = argsL.reverse ++ rest) (hW : 2 * g.monitorRoom + (rest.map fun v => v.category).sum ≤ W9) (hdg : decode c.code g.pc = .ok (.invokestatic index, 3))
    (hpre : ∀ vm₁, s.WarmedH vm₁ → Pre ⟨T.setVm vm₁, locs, cells, slots⟩ argsL.toArray) :
    (∃ (v : Option Value) (vm₁ : Vm) (B : Pt), s.WarmedH vm₁ ∧ Stand p l e R s m args below meth c B.U B.locs B.cells B.slots ∧ Post ⟨T.setVm vm₁, locs, cells, slots⟩ argsL.toArray v B ∧
      ∀ target, Steps p.tables e below (B.U.setTop { g with pc := g.pc + 3, stack := v.toList ++ rest }) target → Steps p.tables e below (T.setTop g) target) ∨
    (∃ (q : Addr) (vm₁ : Vm) (B : Pt), s.WarmedH vm₁ ∧ Stand p l e R s m args below meth c B.U B.locs B.cells B.slots ∧ PostX ⟨T.setVm vm₁, locs, cells, slots⟩ argsL.toArray q B ∧
      Steps p.tables e below (T.setTop g) ((B.U.setTop { g with stack := rest }).pushFrame (.throwing q))) := by
  obtain ⟨mk, hnamed⟩ := Cond.code_named hcode
  obtain ⟨methM, cM, hmethM, -, -, -, -, -, -, hsigM⟩ := Cond.code_spec hnamed hcode
  have hstatic : methM.isStatic = true := Cond.static_spec hnamed hmethM hstat
  obtain ⟨kP, hkP, -⟩ := className_of_methodNamed hnamed
  have hinitP : kP.init = .initialized := Cond.initialized_spec (findClass_of_methodNamed hnamed) hkP hinit
  obtain ⟨vm₁, X₁, hstep₁⟩ := X.invokestatic hexec hown hlink hnamed hmethM hstatic hkP hinitP hy (g := g) hg (argsL := argsL) (rest := rest) (hlen _ hsigM) hstack hdg
  rcases hK m meth c ⟨T.setVm vm₁, locs, cells, slots⟩ { g with stack := rest } (.invokestatic index) mk argsL.toArray X₁ hg hsize hdg hW (X₁.named hnamed) (hpre vm₁ X₁.warmed) with ⟨v, B, X', hpost, hsteps⟩ | ⟨q, B, X', hpost, hsteps⟩
  · exact Or.inl ⟨v, vm₁, B, X₁.warmed, X', hpost, fun target h => hstep₁ _ fun acts => by rw [doInvoke_state]; exact hsteps.trans h⟩
  · exact Or.inr ⟨q, vm₁, B, X₁.warmed, X', hpost, hstep₁ _ fun acts => by rw [doInvoke_state]; exact hsteps⟩
end Calls
theorem vx_cls {s : State} {T : State} {vm₁ : Vm} {E : String} {k : ClassId} (hW : s.WarmedH vm₁) (h : (T.setVm vm₁).vm.findClass E = some k) : s.vm.findClass E = some k := by
  have h1 : vm₁.findClass E = some k := h
  rw [hW.alike.findClass] at h1
  exact h1
/-- the method's frame g, with q thrown over it -/
def vx_W (p : Program) (l : Launch) (e : Env) (R : Room) (s : State) (m : MethodId) (args : Array Value) (below : List Frame) (meth : Method) (c : Code) (H : Heap) (locs : List Loc) (cells slots : Nat) (Q : State → Prop) (g : JFrame) (q : Addr) : Prop :=
  ∀ T : State, T.heap = H → Stand p l e R s m args below meth c T locs cells slots → ∃ t, Steps p.tables e below ((T.setTop g).pushFrame (.throwing q)) t ∧ Q t
def vx_Run (p : Program) (l : Launch) (e : Env) (R : Room) (s : State) (m : MethodId) (args : Array Value) (below : List Frame) (meth : Method) (c : Code) (H : Heap) (locs : List Loc) (cells slots mc ms : Nat) (g : JFrame) (rest : List Value) (Qa : State → Outcome → State → Prop) (XC : String → State → State → Prop) (free : Addr → Prop) : Prop :=
  ∀ T : State, T.heap = H → Stand p l e R s m args below meth c T locs cells slots →
    (∃ (v : Option Value) (st₀ t T' : State) (L : List Loc), st₀.heap = H ∧ Stand p l e R s m args below meth c T' (locs ++ L) (cells + mc) (slots + ms) ∧ (∀ q ∈ L, free q.base) ∧ T'.heap = t.heap ∧ T'.vm = t.vm ∧ Qa st₀ (.returned v) t ∧
      Goes p e below T g T' { g with pc := g.pc + 3, stack := v.toList ++ rest }) ∨
    (∃ (q : Addr) (st₀ t T' : State) (L : List Loc) (E : String) (ce : Cell), st₀.heap = H ∧ Stand p l e R s m args below meth c T' (locs ++ L) (cells + mc) (slots + ms) ∧ (∀ z ∈ L, free z.base) ∧ T'.heap = t.heap ∧ T'.vm = t.vm ∧ XC E st₀ t ∧ t.heap[q]? = some ce ∧ ce.vm = .none ∧ s.vm.findClass E = some ce.cls ∧
      Steps p.tables e below (T.setTop g) ((T'.setTop { g with stack := rest }).pushFrame (.throwing q)))
def vx_X {S : Type} (px : S → Prop) (B : String → S → State → Prop) (A : Nat → Prop) : String → State → State → Prop := fun E st t => ∃ u : S, px u ∧ B E u t ∧ va_F A st t
section Runs
variable {p : Program} {l : Launch} {e : Env} {R : Room} {s : State} {m : MethodId} {args : Array Value} {below : List Frame} {meth : Method} {c : Code} {H : Heap} {locs : List Loc} {cells slots : Nat}
variable {y : MethodName} {bytes cc : ByteArray} {maxL nL mc ms n index : Nat} {ret : Option FieldType} {ws : List Cond} {rm : Room} {Pc : Array Value → State → Prop} {Qc : Array Value → State → Outcome → State → Prop} {XC : String → State → State → Prop} {free : Addr → Prop} {Ts : List Cond} {own C : String} {b : Addr} {As rest : List Value} {g : JFrame}
theorem vx_callBack (cb : CallB R s args own index y bytes maxL ret ws rm mc ms n) (hM : vx_Met l y ws rm Pc Qc XC mc ms free) (hbl : FrameBlind Pc) : vx_Back l R p e below s args y 3 8 (PreOf R mc ms Pc) (PostOf Qc mc ms free) (vx_Post XC mc ms free) := by
  obtain ⟨hrc, hrs, hfr, hlo, hws, hcw, -, hini, -⟩ := cb
  exact vx_back (bytes := bytes) (maxL := maxL) (ret := ret) hM hbl hrc hrs hfr hlo hws hcw (fun a' U hW => word_at hW (Or.inl (by first | rfl | simp [Cond.onTables, Cond.keeps, Cond.steady])) hini)
theorem vx_runV (S : CallFix p m c cc nL s args Ts own) (hM : vx_Met l y ws rm Pc Qc XC mc ms free) (cw : CallW R s args own C index y bytes maxL ret ws rm mc ms n) (hp : PreV s H C b Pc As)
    (hg : g.method = m) (hn : As.length = n) (hsize : g.locals.size = nL) (hstack : g.stack = As.reverse ++ .ref b :: rest) (hW : 2 * g.monitorRoom + (rest.map fun v => v.category).sum ≤ 8) (hdg : decode cc g.pc = .ok (.invokevirtual index, 3)) (hf : cells + mc ≤ R.cells ∧ slots + ms ≤ R.slots) :
    vx_Run p l e R s m args below meth c H locs cells slots mc ms g rest (Qc (Value.ref b :: As).toArray) XC free := by
  have hK : vx_Back l R p e below s args y 3 8 (PreOf R mc ms Pc) (PostOf Qc mc ms free) (vx_Post XC mc ms free) := vx_callBack cw.1 hM hp.1
  obtain ⟨⟨-, -, -, -, -, -, hcode, -, hy, hlen, hl⟩, hin, hse⟩ := cw
  obtain ⟨hx, hb, hml, ho, -⟩ := S
  obtain ⟨-, ⟨cellB, hcB, hoB, hclB⟩, hPc⟩ := hp
  intro T hT X
  rcases vx_callV X hx (C := C) (bytes := bytes) (maxL := maxL) (ret := ret) ho hl hin hse hcode hy hK (by rw [hT]; exact hcB) hoB hclB hg (hsize.trans hml.symm) (argsL := As) (rest := rest) (fun sig h => hn.trans (hlen sig h)) hstack hW (by rw [hb]; exact hdg)
    (fun vm₁ hW₁ => ⟨hf.1, hf.2, hPc (T.setVm vm₁) hT hW₁⟩) with ⟨v, vm₁, ⟨U', l2, c2, s2⟩, hW₁, X', ⟨g', mk, t, L, e1, e2, hq, h1, hL, h2, h3⟩, st⟩ | ⟨q, vm₁, ⟨U', l2, c2, s2⟩, hW₁, X', ⟨g', mk, t, L, E, ce, e1, e2, hq, hce, hcv, hcl, h1, hL, h2, h3⟩, st⟩
  · dsimp only [Pt.U, Pt.locs, Pt.cells, Pt.slots] at X' e1 e2 h1 h2 h3 st
    subst h1; subst h2; subst h3
    exact Or.inl ⟨v, (T.setVm vm₁).calling g' mk (Value.ref b :: As).toArray, t, U', L, hT, X', hL, e1, e2, hq, st⟩
  · dsimp only [Pt.U, Pt.locs, Pt.cells, Pt.slots] at X' e1 e2 h1 h2 h3 st hcl
    subst h1; subst h2; subst h3
    exact Or.inr ⟨q, (T.setVm vm₁).calling g' mk (Value.ref b :: As).toArray, t, U', L, E, ce, hT, X', hL, e1, e2, hq, hce, hcv, vx_cls hW₁ hcl, st⟩
theorem vx_runS (S : CallFix p m c cc nL s args Ts own) (hM : vx_Met l y ws rm Pc Qc XC mc ms free) (cw : CallB R s args own index y bytes maxL ret ws rm mc ms n ∧ (Cond.static y).before args s = true) (hp : PreS s H Pc As)
    (hg : g.method = m) (hn : As.length = n) (hsize : g.locals.size = nL) (hstack : g.stack = As.reverse ++ rest) (hW : 2 * g.monitorRoom + (rest.map fun v => v.category).sum ≤ 8) (hdg : decode cc g.pc = .ok (.invokestatic index, 3)) (hf : cells + mc ≤ R.cells ∧ slots + ms ≤ R.slots) :
    vx_Run p l e R s m args below meth c H locs cells slots mc ms g rest (Qc As.toArray) XC free := by
  have hK : vx_Back l R p e below s args y 3 8 (PreOf R mc ms Pc) (PostOf Qc mc ms free) (vx_Post XC mc ms free) := vx_callBack cw.1 hM hp.1
  obtain ⟨⟨-, -, -, -, -, -, hcode, hini, hy, hlen, hl⟩, hstt⟩ := cw
  obtain ⟨hx, hb, hml, ho, -⟩ := S
  intro T hT X
  rcases vx_callS X hx (bytes := bytes) (maxL := maxL) (ret := ret) ho hl hstt hini hcode hy hK hg (hsize.trans hml.symm) (argsL := As) (rest := rest) (fun sig h => hn.trans (hlen sig h)) hstack hW (by rw [hb]; exact hdg)
    (fun vm₁ hW₁ => ⟨hf.1, hf.2, hp.2 (T.setVm vm₁) hT hW₁⟩) with ⟨v, vm₁, ⟨U', l2, c2, s2⟩, hW₁, X', ⟨g', mk, t, L, e1, e2, hq, h1, hL, h2, h3⟩, st⟩ | ⟨q, vm₁, ⟨U', l2, c2, s2⟩, hW₁, X', ⟨g', mk, t, L, E, ce, e1, e2, hq, hce, hcv, hcl, h1, hL, h2, h3⟩, st⟩
  · dsimp only [Pt.U, Pt.locs, Pt.cells, Pt.slots] at X' e1 e2 h1 h2 h3 st
    subst h1; subst h2; subst h3
    exact Or.inl ⟨v, (T.setVm vm₁).calling g' mk As.toArray, t, U', L, hT, X', hL, e1, e2, hq, st⟩
  · dsimp only [Pt.U, Pt.locs, Pt.cells, Pt.slots] at X' e1 e2 h1 h2 h3 st hcl
    subst h1; subst h2; subst h3
    exact Or.inr ⟨q, (T.setVm vm₁).calling g' mk As.toArray, t, U', L, E, ce, hT, X', hL, e1, e2, hq, hce, hcv, vx_cls hW₁ hcl, st⟩
end Runs
section Rows
variable {p : Program} {l : Launch} {e : Env} {R : Room} {s : State} {m : MethodId} {args : Array Value} {below : List Frame} {meth : Method} {c : Code} {H : Heap} {locs : List Loc} {cells slots : Nat} {Q : State → Prop}
variable {mc ms : Nat} {free : Addr → Prop} {A0 A1 : Nat → Prop} {H0 : Heap} {a : Array Value} {pc : Nat} {ls : Array Slot} {st0 rest : List Value}
theorem vx_keep {st₀ t T' : State} {L : List Loc} (h0 : st₀.heap = H) (e1 : T'.heap = t.heap) (hS : va_S A0 H0 H locs) (hA : ∀ q, q < H.size → A1 q → A0 q) (hf : ∀ q, free q → A0 q) (hL : ∀ q ∈ L, free q.base) (hF : va_F A1 st₀ t) :
    H.size ≤ T'.heap.size ∧ (∀ q : Nat, q < H.size → ¬ A1 q → T'.heap[q]? = H[q]?) ∧ va_S A0 H0 T'.heap (locs ++ L) := by
  obtain ⟨hz, hk⟩ := hF
  rw [h0] at hz hk
  exact ⟨by rw [e1]; exact hz, fun q h1 h2 => by rw [e1]; exact hk q h1 h2,
    ⟨Nat.le_trans hS.1 (by rw [e1]; exact hz), fun q h1 h2 => by rw [e1, hk q (Nat.lt_of_lt_of_le h1 hS.1) (fun z => h2 (hA q (Nat.lt_of_lt_of_le h1 hS.1) z))]; exact hS.2.1 q h1 h2, fun q hq => by
      rcases List.mem_append.mp hq with h | h
      · exact hS.2.2 q h
      · exact hf _ (hL q h)⟩⟩
theorem vx_calli {S SX : Type} {post : Int32 → S → Prop} {px : SX → Prop} {B : S → State → Prop} {BX : String → SX → State → Prop} {AX : Nat → Prop} (hr : vx_Run p l e R s m args below meth c H locs cells slots mc ms (F0 m pc ls st0) rest (va_Qi post B A1 a) (vx_X px BX AX) free) (hS : va_S A0 H0 H locs) (hA : ∀ q, q < H.size → A1 q → A0 q) (hf : ∀ q, free q → A0 q) (hAX : ∀ q, q < H.size → AX q → A0 q)
    (kx : ∀ (E : String) (ce : Cell) (q9 : Addr) (u : SX) (t : State) (H1 : Heap) (locs1 : List Loc), t.heap = H1 → s.vm.Alike t.vm → px u → BX E u t → H.size ≤ H1.size → (∀ q : Nat, q < H.size → ¬ AX q → H1[q]? = H[q]?) → va_S A0 H0 H1 locs1 → H1[q9]? = some ce → ce.vm = .none → s.vm.findClass E = some ce.cls → vx_W p l e R s m args below meth c H1 locs1 (cells + mc) (slots + ms) Q (F0 m pc ls rest) q9)
    (kk : ∀ (r : Int32) (u : S) (t : State) (H1 : Heap) (locs1 : List Loc), t.heap = H1 → s.vm.Alike t.vm → post r u → B u t → H.size ≤ H1.size → (∀ q : Nat, q < H.size → ¬ A1 q → H1[q]? = H[q]?) → va_S A0 H0 H1 locs1 → W p l e R s m args below meth c H1 locs1 (cells + mc) (slots + ms) Q (F0 m (pc + 3) ls (.int r :: rest))) : W p l e R s m args below meth c H locs cells slots Q (F0 m pc ls st0) := by
  intro T hT X
  rcases hr T hT X with ⟨v, st₀, t, T', L, h0, X', hL, e1, e2, ⟨⟨r, u, hv, hp, hb⟩, hF⟩, st⟩ | ⟨q, st₀, t, T', L, E, ce, h0, X', hL, e1, e2, ⟨u, hp, hb, hF⟩, hce, hcv, hcl, st⟩
  · cases hv
    obtain ⟨k1, k2, k3⟩ := vx_keep h0 e1 hS hA hf hL hF
    obtain ⟨t2, a1, b1⟩ := kk r u t T'.heap (locs ++ L) e1.symm (by rw [← e2]; exact X'.warmed.alike) hp hb k1 k2 k3 T' rfl X'
    exact ⟨t2, st t2 a1, b1⟩
  · obtain ⟨k1, k2, k3⟩ := vx_keep h0 e1 hS hAX hf hL hF
    obtain ⟨t2, a1, b1⟩ := kx E ce q u t T'.heap (locs ++ L) e1.symm (by rw [← e2]; exact X'.warmed.alike) hp hb k1 k2 k3 (by rw [e1]; exact hce) hcv hcl T' rfl X'
    exact ⟨t2, st.trans a1, b1⟩
theorem vx_calll {S SX : Type} {post : Int64 → S → Prop} {px : SX → Prop} {B : S → State → Prop} {BX : String → SX → State → Prop} {AX : Nat → Prop} (hr : vx_Run p l e R s m args below meth c H locs cells slots mc ms (F0 m pc ls st0) rest (va_Ql post B A1 a) (vx_X px BX AX) free) (hS : va_S A0 H0 H locs) (hA : ∀ q, q < H.size → A1 q → A0 q) (hf : ∀ q, free q → A0 q) (hAX : ∀ q, q < H.size → AX q → A0 q)
    (kx : ∀ (E : String) (ce : Cell) (q9 : Addr) (u : SX) (t : State) (H1 : Heap) (locs1 : List Loc), t.heap = H1 → s.vm.Alike t.vm → px u → BX E u t → H.size ≤ H1.size → (∀ q : Nat, q < H.size → ¬ AX q → H1[q]? = H[q]?) → va_S A0 H0 H1 locs1 → H1[q9]? = some ce → ce.vm = .none → s.vm.findClass E = some ce.cls → vx_W p l e R s m args below meth c H1 locs1 (cells + mc) (slots + ms) Q (F0 m pc ls rest) q9)
    (kk : ∀ (r : Int64) (u : S) (t : State) (H1 : Heap) (locs1 : List Loc), t.heap = H1 → s.vm.Alike t.vm → post r u → B u t → H.size ≤ H1.size → (∀ q : Nat, q < H.size → ¬ A1 q → H1[q]? = H[q]?) → va_S A0 H0 H1 locs1 → W p l e R s m args below meth c H1 locs1 (cells + mc) (slots + ms) Q (F0 m (pc + 3) ls (.long r :: rest))) : W p l e R s m args below meth c H locs cells slots Q (F0 m pc ls st0) := by
  intro T hT X
  rcases hr T hT X with ⟨v, st₀, t, T', L, h0, X', hL, e1, e2, ⟨⟨r, u, hv, hp, hb⟩, hF⟩, st⟩ | ⟨q, st₀, t, T', L, E, ce, h0, X', hL, e1, e2, ⟨u, hp, hb, hF⟩, hce, hcv, hcl, st⟩
  · cases hv
    obtain ⟨k1, k2, k3⟩ := vx_keep h0 e1 hS hA hf hL hF
    obtain ⟨t2, a1, b1⟩ := kk r u t T'.heap (locs ++ L) e1.symm (by rw [← e2]; exact X'.warmed.alike) hp hb k1 k2 k3 T' rfl X'
    exact ⟨t2, st t2 a1, b1⟩
  · obtain ⟨k1, k2, k3⟩ := vx_keep h0 e1 hS hAX hf hL hF
    obtain ⟨t2, a1, b1⟩ := kx E ce q u t T'.heap (locs ++ L) e1.symm (by rw [← e2]; exact X'.warmed.alike) hp hb k1 k2 k3 (by rw [e1]; exact hce) hcv hcl T' rfl X'
    exact ⟨t2, st.trans a1, b1⟩
theorem vx_callf {S SX : Type} {post : UInt32 → S → Prop} {px : SX → Prop} {B : S → State → Prop} {BX : String → SX → State → Prop} {AX : Nat → Prop} (hr : vx_Run p l e R s m args below meth c H locs cells slots mc ms (F0 m pc ls st0) rest (va_Qf post B A1 a) (vx_X px BX AX) free) (hS : va_S A0 H0 H locs) (hA : ∀ q, q < H.size → A1 q → A0 q) (hf : ∀ q, free q → A0 q) (hAX : ∀ q, q < H.size → AX q → A0 q)
    (kx : ∀ (E : String) (ce : Cell) (q9 : Addr) (u : SX) (t : State) (H1 : Heap) (locs1 : List Loc), t.heap = H1 → s.vm.Alike t.vm → px u → BX E u t → H.size ≤ H1.size → (∀ q : Nat, q < H.size → ¬ AX q → H1[q]? = H[q]?) → va_S A0 H0 H1 locs1 → H1[q9]? = some ce → ce.vm = .none → s.vm.findClass E = some ce.cls → vx_W p l e R s m args below meth c H1 locs1 (cells + mc) (slots + ms) Q (F0 m pc ls rest) q9)
    (kk : ∀ (r : UInt32) (u : S) (t : State) (H1 : Heap) (locs1 : List Loc), t.heap = H1 → s.vm.Alike t.vm → post r u → B u t → H.size ≤ H1.size → (∀ q : Nat, q < H.size → ¬ A1 q → H1[q]? = H[q]?) → va_S A0 H0 H1 locs1 → W p l e R s m args below meth c H1 locs1 (cells + mc) (slots + ms) Q (F0 m (pc + 3) ls (.float r :: rest))) : W p l e R s m args below meth c H locs cells slots Q (F0 m pc ls st0) := by
  intro T hT X
  rcases hr T hT X with ⟨v, st₀, t, T', L, h0, X', hL, e1, e2, ⟨⟨r, u, hv, hp, hb⟩, hF⟩, st⟩ | ⟨q, st₀, t, T', L, E, ce, h0, X', hL, e1, e2, ⟨u, hp, hb, hF⟩, hce, hcv, hcl, st⟩
  · cases hv
    obtain ⟨k1, k2, k3⟩ := vx_keep h0 e1 hS hA hf hL hF
    obtain ⟨t2, a1, b1⟩ := kk r u t T'.heap (locs ++ L) e1.symm (by rw [← e2]; exact X'.warmed.alike) hp hb k1 k2 k3 T' rfl X'
    exact ⟨t2, st t2 a1, b1⟩
  · obtain ⟨k1, k2, k3⟩ := vx_keep h0 e1 hS hAX hf hL hF
    obtain ⟨t2, a1, b1⟩ := kx E ce q u t T'.heap (locs ++ L) e1.symm (by rw [← e2]; exact X'.warmed.alike) hp hb k1 k2 k3 (by rw [e1]; exact hce) hcv hcl T' rfl X'
    exact ⟨t2, st.trans a1, b1⟩
theorem vx_calld {S SX : Type} {post : UInt64 → S → Prop} {px : SX → Prop} {B : S → State → Prop} {BX : String → SX → State → Prop} {AX : Nat → Prop} (hr : vx_Run p l e R s m args below meth c H locs cells slots mc ms (F0 m pc ls st0) rest (va_Qd post B A1 a) (vx_X px BX AX) free) (hS : va_S A0 H0 H locs) (hA : ∀ q, q < H.size → A1 q → A0 q) (hf : ∀ q, free q → A0 q) (hAX : ∀ q, q < H.size → AX q → A0 q)
    (kx : ∀ (E : String) (ce : Cell) (q9 : Addr) (u : SX) (t : State) (H1 : Heap) (locs1 : List Loc), t.heap = H1 → s.vm.Alike t.vm → px u → BX E u t → H.size ≤ H1.size → (∀ q : Nat, q < H.size → ¬ AX q → H1[q]? = H[q]?) → va_S A0 H0 H1 locs1 → H1[q9]? = some ce → ce.vm = .none → s.vm.findClass E = some ce.cls → vx_W p l e R s m args below meth c H1 locs1 (cells + mc) (slots + ms) Q (F0 m pc ls rest) q9)
    (kk : ∀ (r : UInt64) (u : S) (t : State) (H1 : Heap) (locs1 : List Loc), t.heap = H1 → s.vm.Alike t.vm → post r u → B u t → H.size ≤ H1.size → (∀ q : Nat, q < H.size → ¬ A1 q → H1[q]? = H[q]?) → va_S A0 H0 H1 locs1 → W p l e R s m args below meth c H1 locs1 (cells + mc) (slots + ms) Q (F0 m (pc + 3) ls (.double r :: rest))) : W p l e R s m args below meth c H locs cells slots Q (F0 m pc ls st0) := by
  intro T hT X
  rcases hr T hT X with ⟨v, st₀, t, T', L, h0, X', hL, e1, e2, ⟨⟨r, u, hv, hp, hb⟩, hF⟩, st⟩ | ⟨q, st₀, t, T', L, E, ce, h0, X', hL, e1, e2, ⟨u, hp, hb, hF⟩, hce, hcv, hcl, st⟩
  · cases hv
    obtain ⟨k1, k2, k3⟩ := vx_keep h0 e1 hS hA hf hL hF
    obtain ⟨t2, a1, b1⟩ := kk r u t T'.heap (locs ++ L) e1.symm (by rw [← e2]; exact X'.warmed.alike) hp hb k1 k2 k3 T' rfl X'
    exact ⟨t2, st t2 a1, b1⟩
  · obtain ⟨k1, k2, k3⟩ := vx_keep h0 e1 hS hAX hf hL hF
    obtain ⟨t2, a1, b1⟩ := kx E ce q u t T'.heap (locs ++ L) e1.symm (by rw [← e2]; exact X'.warmed.alike) hp hb k1 k2 k3 (by rw [e1]; exact hce) hcv hcl T' rfl X'
    exact ⟨t2, st.trans a1, b1⟩
theorem vx_callv {S SX : Type} {post : S → Prop} {px : SX → Prop} {B : S → State → Prop} {BX : String → SX → State → Prop} {AX : Nat → Prop} (hr : vx_Run p l e R s m args below meth c H locs cells slots mc ms (F0 m pc ls st0) rest (va_Qv post B A1 a) (vx_X px BX AX) free) (hS : va_S A0 H0 H locs) (hA : ∀ q, q < H.size → A1 q → A0 q) (hf : ∀ q, free q → A0 q) (hAX : ∀ q, q < H.size → AX q → A0 q)
    (kx : ∀ (E : String) (ce : Cell) (q9 : Addr) (u : SX) (t : State) (H1 : Heap) (locs1 : List Loc), t.heap = H1 → s.vm.Alike t.vm → px u → BX E u t → H.size ≤ H1.size → (∀ q : Nat, q < H.size → ¬ AX q → H1[q]? = H[q]?) → va_S A0 H0 H1 locs1 → H1[q9]? = some ce → ce.vm = .none → s.vm.findClass E = some ce.cls → vx_W p l e R s m args below meth c H1 locs1 (cells + mc) (slots + ms) Q (F0 m pc ls rest) q9)
    (kk : ∀ (u : S) (t : State) (H1 : Heap) (locs1 : List Loc), t.heap = H1 → s.vm.Alike t.vm → post u → B u t → H.size ≤ H1.size → (∀ q : Nat, q < H.size → ¬ A1 q → H1[q]? = H[q]?) → va_S A0 H0 H1 locs1 → W p l e R s m args below meth c H1 locs1 (cells + mc) (slots + ms) Q (F0 m (pc + 3) ls (rest))) : W p l e R s m args below meth c H locs cells slots Q (F0 m pc ls st0) := by
  intro T hT X
  rcases hr T hT X with ⟨v, st₀, t, T', L, h0, X', hL, e1, e2, ⟨⟨u, hv, hp, hb⟩, hF⟩, st⟩ | ⟨q, st₀, t, T', L, E, ce, h0, X', hL, e1, e2, ⟨u, hp, hb, hF⟩, hce, hcv, hcl, st⟩
  · cases hv
    obtain ⟨k1, k2, k3⟩ := vx_keep h0 e1 hS hA hf hL hF
    obtain ⟨t2, a1, b1⟩ := kk u t T'.heap (locs ++ L) e1.symm (by rw [← e2]; exact X'.warmed.alike) hp hb k1 k2 k3 T' rfl X'
    exact ⟨t2, st t2 a1, b1⟩
  · obtain ⟨k1, k2, k3⟩ := vx_keep h0 e1 hS hAX hf hL hF
    obtain ⟨t2, a1, b1⟩ := kx E ce q u t T'.heap (locs ++ L) e1.symm (by rw [← e2]; exact X'.warmed.alike) hp hb k1 k2 k3 (by rw [e1]; exact hce) hcv hcl T' rfl X'
    exact ⟨t2, st.trans a1, b1⟩
/-- caught by the row x of this method's table; the rows ahead don't take it -/
theorem vx_catch {own name : String} {E : String} {ce : Cell} {q : Addr} (hown : s.vm.findClass own = some m.cls) (pre : List ExceptionTableEntry) (x : ExceptionTableEntry) (suf : List ExceptionTableEntry) (hsplit : c.exceptionTable.toList = pre ++ x :: suf)
    (hpass : ∀ z ∈ pre, covers z pc = false ∨ (z.catchType ≠ 0 ∧ ∃ nm : String, (Cond.classLink own z.catchType nm).before args s = true ∧ va_Nc E nm s)) (hx : covers x pc = true) (h0 : x.catchType ≠ 0)
    (hlink : (Cond.classLink own x.catchType name).before args s = true) (hcast : (Cond.castable E name).before args s = true) (hcell : H[q]? = some ce) (hv : ce.vm = .none) (hcl : s.vm.findClass E = some ce.cls)
    (kk : W p l e R s m args below meth c H locs cells slots Q (F0 m x.handlerPc ls [.ref q])) : vx_W p l e R s m args below meth c H locs cells slots Q (F0 m pc ls rest) q := by
  intro T hT X
  have hpl : e.platform.magicAccessors = ({} : Platform).magicAccessors := by rw [X.admits.platform]
  obtain ⟨c3, c4, hc3, hc4, hasg⟩ := Cond.castable_spec hcast
  cases Option.some.inj (hc3.symm.trans hcl)
  obtain ⟨c5, hc5, hcl5⟩ := Cond.classLink_spec hown hlink e.platform hpl
  cases Option.some.inj (hc4.symm.trans hc5)
  obtain ⟨vm', X', st⟩ := X.thenCaughtThrough q (g := F0 m pc ls rest) rfl (Steps.refl _) (by rw [hT]; exact hcell) (by rw [hv]; rfl) (by obtain ⟨k9, h9, -⟩ := Vm.findClass_spec hcl; exact ⟨k9, h9⟩) pre x suf hsplit
    (fun z hz => by
      rcases hpass z hz with h | ⟨hz0, nm, hl1, hn1⟩
      · exact Or.inl h
      · obtain ⟨c6, hc6, hcl6⟩ := Cond.classLink_spec hown hl1 e.platform hpl
        obtain ⟨a8, b8, h1, h2, h3⟩ := hn1
        cases Option.some.inj (h1.symm.trans hcl)
        cases Option.some.inj (h2.symm.trans hc6)
        exact Or.inr ⟨hz0, _, hcl6, h3⟩) hx (Or.inr ⟨h0, c4, hcl5, hasg⟩)
  obtain ⟨t, a1, b1⟩ := kk (T.setVm vm') hT X'
  exact ⟨t, st.trans a1, b1⟩
end Rows
section Ends
variable {p : Program} {l : Launch} {e : Env} {R : Room} {s : State} {m : MethodId} {args : Array Value} {below : List Frame} {meth : Method} {c : Code} {H : Heap} {locs : List Loc} {cells slots : Nat} {Q : State → Prop}
variable {mc ms : Nat} {free : Addr → Prop} {A0 A1 : Nat → Prop} {H0 : Heap} {a : Array Value} {ls : Array Slot} {st0 rest : List Value}
variable {Qc : Array Value → State → Outcome → State → Prop} {XC : String → State → State → Prop}
/-- what a body that may throw owes at its end -/
def vx_MQ (below : List Frame) (Qc : Array Value → State → Outcome → State → Prop) (XC : String → State → State → Prop) (a : Array Value) (s : State) (mc ms : Nat) (free : Addr → Prop) : State → Prop := fun t =>
  ∃ o, t.status = .running ∧ Ended t below o ∧ vx_Q Qc XC mc ms free a s o t
theorem vx_ret {g : JFrame} {mc ms : Nat} (k : W p l e R s m args below meth c H locs cells slots (MQ below Qc args s mc ms free) g) : W p l e R s m args below meth c H locs cells slots (vx_MQ below Qc XC args s mc ms free) g := by
  intro T hT X
  obtain ⟨t, a1, o, b1, b2, b3, b4⟩ := k T hT X
  exact ⟨t, a1, o, b1, b2, Or.inl ⟨b3, b4⟩⟩
/-- not caught here: it goes on to the caller -/
theorem vx_widen {g : JFrame} {q : Addr} {k n : Nat} (h1 : cells ≤ k) (h2 : slots ≤ n) (kk : vx_W p l e R s m args below meth c H locs k n Q g q) : vx_W p l e R s m args below meth c H locs cells slots Q g q := fun T hT X => kk T hT (stand_widen X h1 h2)
theorem vx_out {pc : Nat} {E : String} {ce : Cell} {q : Addr} {mc ms : Nat} (hout : ∀ x ∈ c.exceptionTable.toList, covers x pc = false) (hlocks : meth.locks = false) (hcell : H[q]? = some ce) (hv : ce.vm = .none) (hcl : s.vm.findClass E = some ce.cls)
    (hx : ∀ t : State, t.heap = H → s.vm.Alike t.vm → XC E s t) (hf : ∀ z ∈ locs, free z.base) (hc : cells ≤ mc) (hs : slots ≤ ms) :
    vx_W p l e R s m args below meth c H locs cells slots (vx_MQ below Qc XC args s mc ms free) (F0 m pc ls rest) q := by
  intro T hT X
  obtain ⟨st1, hrun, hend, hW, hsm⟩ := X.leaveThrown q (g := F0 m pc ls rest) rfl rfl rfl hout hlocks
  have hcell9 : (T.setFrames (.throwing q :: below)).heap[q]? = some ce := by
    show T.heap[q]? = some ce
    rw [hT]; exact hcell
  exact ⟨_, st1, .threw q, hrun, hend, Or.inr ⟨q, rfl, E, ce, locs, hx _ hT hW.alike, hcell9, hv, hcl, hW, hsm.mono hc hs, hf⟩⟩
theorem vx_frame {U : State} {k n : Nat} (h : s.sameButNew ({ U with vm := s.vm } : State) locs k n) : s.heap.size ≤ U.heap.size ∧ ∀ q : Nat, q < s.heap.size → (∀ z ∈ locs, z.base ≠ q) → U.heap[q]? = s.heap[q]? := by
  obtain ⟨-, h2, -, -, -, h6⟩ := h
  refine ⟨h2, fun q hq hz => ?_⟩
  obtain ⟨c9, e1, e2, e3, e4⟩ := h6 q _ (Array.getElem?_eq_getElem hq)
  have hs : c9.slots = (s.heap[q]).slots := Array.ext_getElem? fun i => e4 i fun hm => hz _ hm rfl
  have h9 : c9 = s.heap[q] := by
    rw [hs] at e2
    exact e2
  have e5 : U.heap[q]? = some c9 := e1
  rw [e5, h9, Array.getElem?_eq_getElem hq]
/-- the words of a throw but the four that speak of the heap -/
def vx_no (w : Cond) : Bool := decide (w ≠ .isRef (.static Bundle.tN "UNASSIGNED_STACK" Bundle.steD)) && decide (w ≠ .isRef (.static Bundle.tN "SUPPRESSED_SENTINEL" Bundle.listD)) && decide (w ≠ .laysStatic Bundle.tN "UNASSIGNED_STACK" Bundle.steD) && decide (w ≠ .laysStatic Bundle.tN "SUPPRESSED_SENTINEL" Bundle.listD)
def vx_at0 (own : String) (ic : Nat) (X : String) (names : List String) : List Cond := (Bundle.ownAtoms0 own ic X names).filter vx_no
def vx_atS (own : String) (ic : Nat) (X : String) (names : List String) : List Cond := (Bundle.ownAtoms own ic X names).filter vx_no
/-- a word that the tables alone decide, or a good one -/
def vx_ot (w : Cond) : Bool := w.onTables || goodWord w
theorem vx_ot_at {args a' : Array Value} {s U : State} {w : Cond} (hW : s.WarmedH U.vm) (hvm : s.vm = U.vm) (hg : vx_ot w = true) (h : w.before args s = true) : w.before a' U = true := by
  simp only [vx_ot, Bool.or_eq_true] at hg
  rcases hg with hg | hg
  · exact va_tabs hg hvm h
  · exact word_at hW (good_of_word hg) h
/-- a list's words: the good ones out of the method's own list, the others by premises of their own -/
theorem vx_hat {args : Array Value} {s : State} {L B : List Cond} (h1 : ∀ w ∈ L.filter goodWord, w.before args s = true) (h2 : ∀ w ∈ L.filter (fun w => !goodWord w), w ∈ B) (h3 : ∀ w ∈ B, w.before args s = true) : ∀ w ∈ L, w.before args s = true := by
  intro w hw
  by_cases g : goodWord w = true
  · exact h1 w (List.mem_filter.mpr ⟨hw, g⟩)
  · refine h3 w (h2 w (List.mem_filter.mpr ⟨hw, ?_⟩))
    show (!goodWord w) = true
    cases hgw : goodWord w
    · rfl
    · exact absurd hgw g
theorem vx_c {args : Array Value} {s : State} {w : Cond} {B : List Cond} (h : w.before args s = true) (t : ∀ w ∈ B, w.before args s = true) : ∀ w' ∈ w :: B, w'.before args s = true := fun w' h' => (List.mem_cons.mp h').elim (fun e => by rw [e]; exact h) (t w')
theorem vx_n {args : Array Value} {s : State} : ∀ w ∈ ([] : List Cond), w.before args s = true := fun _ h => nomatch h
theorem vx_own {args : Array Value} {s : State} {L : List Cond} (h1 : ∀ w ∈ L.filter vx_no, w.before args s = true)
    (hU : (Cond.isRef (.static Bundle.tN "UNASSIGNED_STACK" Bundle.steD)).before args s = true) (hN : (Cond.isRef (.static Bundle.tN "SUPPRESSED_SENTINEL" Bundle.listD)).before args s = true)
    (lU : (Cond.laysStatic Bundle.tN "UNASSIGNED_STACK" Bundle.steD).before args s = true) (lN : (Cond.laysStatic Bundle.tN "SUPPRESSED_SENTINEL" Bundle.listD).before args s = true) : ∀ w ∈ L, w.before args s = true := by
  intro w hw
  by_cases e1 : w = .isRef (.static Bundle.tN "UNASSIGNED_STACK" Bundle.steD)
  · rw [e1]; exact hU
  · by_cases e2 : w = .isRef (.static Bundle.tN "SUPPRESSED_SENTINEL" Bundle.listD)
    · rw [e2]; exact hN
    · by_cases e3 : w = .laysStatic Bundle.tN "UNASSIGNED_STACK" Bundle.steD
      · rw [e3]; exact lU
      · by_cases e4 : w = .laysStatic Bundle.tN "SUPPRESSED_SENTINEL" Bundle.listD
        · rw [e4]; exact lN
        · exact h1 w (List.mem_filter.mpr ⟨hw, by unfold vx_no; rw [decide_eq_true e1, decide_eq_true e2, decide_eq_true e3, decide_eq_true e4]; rfl⟩)
/-- where a static field lies, its class's statics cell in H -/
def vx_L (C n d : String) (A : Nat → Prop) (U : State) (H : Heap) : Prop := ∃ (c : ClassId) (k : Class) (i : Nat) (f : Field) (a : Nat) (cell : Cell), U.vm.findClass C = some c ∧ U.fieldFound? C n d = some (c, k, i, f) ∧ f.isStatic = true ∧ k.statics = some a ∧ H[a]? = some cell ∧ cell.vm.isStatics = true ∧ cell.cls = c ∧ f.slot < cell.slots.size ∧ k.staticTypes[f.slot]? = some f.type ∧ ¬ A a
theorem vx_L.moved {C n d : String} {A : Nat → Prop} {u U : State} {H : Heap} (hvm : u.vm.Alike U.vm) (h : vx_L C n d A u H) : vx_L C n d A U H := by
  obtain ⟨c, k, i, f, a, cell, h1, h2, h3, h4, h5, h6, h7, h8, h9, h10⟩ := h
  obtain ⟨k', hi', he⟩ := State.fieldFound?_setVm hvm h2
  exact ⟨c, k', i, f, a, cell, by rw [hvm.findClass]; exact h1, hi', h3, by rw [he]; exact h4, h5, h6, h7, h8, by rw [he]; exact h9, h10⟩
theorem vx_L.kept {C n d : String} {A : Nat → Prop} {U : State} {H H1 : Heap} (h : vx_L C n d A U H) (hq : ∀ a : Nat, a < H.size → ¬ A a → H1[a]? = H[a]?) : vx_L C n d A U H1 := by
  obtain ⟨c, k, i, f, a, cell, h1, h2, h3, h4, h5, h6, h7, h8, h9, h10⟩ := h
  exact ⟨c, k, i, f, a, cell, h1, h2, h3, h4, by rw [hq a (Array.getElem?_eq_some_iff.mp h5).1 h10]; exact h5, h6, h7, h8, h9, h10⟩
theorem vx_L.narrow {C n d : String} {A B : Nat → Prop} {U : State} {H : Heap} (h : vx_L C n d A U H) (hAB : ∀ q, B q → A q) : vx_L C n d B U H := by
  obtain ⟨c, k, i, f, a, cell, h1, h2, h3, h4, h5, h6, h7, h8, h9, h10⟩ := h
  exact ⟨c, k, i, f, a, cell, h1, h2, h3, h4, h5, h6, h7, h8, h9, fun z => h10 (hAB _ z)⟩
theorem vx_L.word {C n d : String} {A : Nat → Prop} {s : State} {args : Array Value} (h : vx_L C n d A s s.heap) : (Cond.laysStatic C n d).before args s = true := by
  obtain ⟨c, k, i, f, a, cell, h1, h2, h3, h4, h5, h6, h7, h8, h9, -⟩ := h
  show (Cond.laysStatic C n d).holds args s none s [] = true
  exact Cond.laysStatic_of h1 h2 h3 h4 h5 h6 h7 h8 h9
/-- .. and what it holds: null or some reference -/
def vx_Zq (C n d : String) (A : Nat → Prop) (U : State) (H : Heap) : Prop := va_Zq C n d A U H ∧ vx_L C n d A U H
theorem vx_Zq.moved {C n d : String} {A : Nat → Prop} {u U : State} {H : Heap} (hvm : u.vm.Alike U.vm) (h : vx_Zq C n d A u H) : vx_Zq C n d A U H := ⟨va_Zq.moved hvm h.1, vx_L.moved hvm h.2⟩
theorem vx_Zq.kept {C n d : String} {A : Nat → Prop} {U : State} {H H1 : Heap} (h : vx_Zq C n d A U H) (hq : ∀ a : Nat, a < H.size → ¬ A a → H1[a]? = H[a]?) : vx_Zq C n d A U H1 := ⟨va_Zq.kept h.1 hq, vx_L.kept h.2 hq⟩
theorem vx_Zq.narrow {C n d : String} {A B : Nat → Prop} {U : State} {H : Heap} (h : vx_Zq C n d A U H) (hAB : ∀ q, B q → A q) : vx_Zq C n d B U H := ⟨va_Zq.narrow h.1 hAB, vx_L.narrow h.2 hAB⟩
theorem vx_Zqof {args : Array Value} {s : State} {C n d : String} {A : Nat → Prop} (hl : (Cond.laysStatic C n d).before args s = true) (hini : (Cond.initialized C).before args s = true) (h : (Cond.isRef (.static C n d)).before args s = true) (hA : ∀ a : Nat, a < s.heap.size → ¬ A a) : vx_Zq C n d A s s.heap := by
  refine ⟨va_Zqof hl hini h hA, ?_⟩
  obtain ⟨c, k, i, f, a, cell, h1, h2, h3, h4, h5, h6, h7, h8, h9⟩ := Cond.laysStatic_spec hl
  exact ⟨c, k, i, f, a, cell, h1, h2, h3, h4, h5, h6, h7, h8, h9, hA a (Array.getElem?_eq_some_iff.mp h5).1⟩
theorem vx_isRef {C n d : String} {v : Value} {A : Nat → Prop} {s : State} {args : Array Value} (h : va_Z C n d v A s s.heap) (hv : v.isRef = true) : (Cond.isRef (.static C n d)).before args s = true := by
  obtain ⟨cf, kf, fi, f, a, cell, h1, h2, h3, h4, h5, h6, h7, -⟩ := h
  have he : (Term.static C n d).eval args s none [] s = some v := by
    simp [Term.eval, State.fieldNamed?, h1, h2, h4, h5, h6, h7]
  simp only [Cond.before, Cond.holds, Cond.value, he]
  cases v <;> simp_all [Value.isRef]
theorem vx_isRefq {C n d : String} {A : Nat → Prop} {s : State} {args : Array Value} (h : va_Zq C n d A s s.heap) : (Cond.isRef (.static C n d)).before args s = true := by
  rcases h with h | ⟨t, h⟩
  · exact vx_isRef h rfl
  · exact vx_isRef h rfl
/-- the same frame, seen from here: as if the method were called anew in this heap -/
theorem vx_rebase {T : State} (X : Stand p l e R s m args below meth c T locs cells slots) {R' : Room} (hf : R'.frames ≤ R.frames) (hl : R'.locals ≤ R.locals) (hc : cells + R'.cells ≤ R.cells) (hs : slots + R'.slots ≤ R.slots) :
    Stand p l e R' ((T.setVm s.vm).setFrames (.invoking m args :: below)) m args below meth c T [] 0 0 := by
  have htop : (T.setVm s.vm).topJava?.isSome := X.here.top
  have hF : ((T.setVm s.vm).setFrames (.invoking m args :: below)).frames = .invoking m args :: below := State.frames_setFrames _ (State.cur_lt_of_top htop)
  obtain ⟨g₀, hg0⟩ := Option.isSome_iff_exists.mp htop
  obtain ⟨r, hr⟩ := State.topJava?_eq_some.mp hg0
  have hl9 : e.platform.stackLimits (T.setVm s.vm).me = e.platform.stackLimits s.me := X.limits
  have hb9 : (T.setVm s.vm).me.stackBytes = s.me.stackBytes := X.bytes
  refine ⟨X.admits, X.cas, X.clock, hF, ?_, X.hears, X.method, X.code, X.here, X.tail, X.warmed, ?_, ?_, ?_⟩
  · have h := X.room
    have hU : ((T.setVm s.vm).setFrames (.invoking m args :: below)).localsInUse = s.localsInUse := by
      rw [State.localsInUse_invoking hF (meth := meth) (c := c) X.method X.code, State.localsInUse_invoking X.frames X.method X.code]
    simp only [State.hasRoom, Bool.and_eq_true, decide_eq_true_eq] at h ⊢
    obtain ⟨⟨⟨⟨h1, h2, h3, h4, h5, h6⟩, h7⟩, h8⟩, h9⟩ := h
    rw [X.frames, List.length_cons] at h2 h3
    have q1 := X.heapSize
    have q2 := X.used
    simp only [hF, hU, List.length_cons, State.stackLimits_setFrames, State.stackBytes_setFrames, hl9, hb9]
    refine ⟨⟨⟨⟨by omega, by omega, by omega, by omega, by omega, h6⟩, ?_⟩, ?_⟩, X.book⟩
    · show T.heap.size + R'.cells ≤ e.platform.maxCells
      omega
    · show T.slotsUsed + R'.slots ≤ e.platform.maxSlots
      omega
  · rw [State.stackLimits_setFrames]; rfl
  · rw [State.stackBytes_setFrames]; rfl
  · refine ⟨?_, Nat.le_refl _, Nat.le_refl _, ?_, ?_, fun a c9 h9 => ⟨c9, h9, rfl, rfl, fun _ _ => rfl⟩⟩
    · obtain ⟨t, ht, -⟩ := State.frames_cons hr
      show T.setVm s.vm = { ((T.setVm s.vm).setFrames (.invoking m args :: below)).setFrames (T.setVm s.vm).frames with heap := T.heap, slotsUsed := T.slotsUsed }
      rw [State.setFrames_setFrames, State.setFrames_self ht]
      rfl
    · show T.slotsUsed = T.slotsUsed + ((T.heap.toList.drop T.heap.size).map (·.slots.size)).sum
      rw [List.drop_eq_nil_of_le (Nat.le_of_eq Array.length_toList)]
      rfl
    · show ((T.heap.toList.drop T.heap.size).map (·.slots.size)).sum ≤ 0
      rw [List.drop_eq_nil_of_le (Nat.le_of_eq Array.length_toList)]
      exact Nat.le_refl _
/-- 'throw new E()': new; dup; invokespecial; athrow -/
theorem vx_throw0 {cc : ByteArray} {pc : Nat} (hexec : p.tables.exec = Jvm.exec) (hb : c.code = cc) (hl : l.stackTraces = false) {own cls : String} {names : List String} {ik ic mc ms : Nat} {A : Nat → Prop}
    (hown : s.vm.findClass own = some m.cls) (hcls : Bundle.fit cls = true) (hnames : ∀ n ∈ names, Bundle.fit n = true)
    (hk : (Cond.classLink own ik cls).before args s = true) (hini : (Cond.initialized cls).before args s = true) (hat : ∀ w ∈ vx_at0 own ic cls names, w.before args s = true)
    (hgood : ∀ w ∈ Cond.classLink own ik cls :: Cond.initialized cls :: vx_at0 own ic cls names, vx_ot w = true)
    (hU : vx_Zq Bundle.tN "UNASSIGNED_STACK" Bundle.steD A s s.heap) (hN : vx_Zq Bundle.tN "SUPPRESSED_SENTINEL" Bundle.listD A s s.heap) (hS : va_S A s.heap H locs) (hsize : ls.size = c.maxLocals)
    (d0 : decode cc pc = .ok (.new ik, 3)) (d3 : decode cc (pc + 3) = .ok (.dup, 1)) (d4 : decode cc (pc + 4) = .ok (.invokespecial ic, 3)) (d7 : decode cc (pc + 7) = .ok (.athrow, 1))
    (hout : ∀ x ∈ c.exceptionTable.toList, covers x (pc + 7) = false)
    (hRframes : names.length + 3 < R.frames) (hRlocals : (rest.map fun v => v.category).sum + (13 * (names.length + 1) + 42) ≤ R.locals) (hRcells : cells + 1 ≤ R.cells) (hRslots : slots + 6 ≤ R.slots) (hlocks : meth.locks = false)
    (hx : ∀ t : State, s.vm.Alike t.vm → H.size ≤ t.heap.size → (∀ q : Nat, q < H.size → t.heap[q]? = H[q]?) → XC cls s t)
    (hf : ∀ z ∈ locs, free z.base) (hc : cells + 1 ≤ mc) (hs : slots + 6 ≤ ms) :
    W p l e R s m args below meth c H locs cells slots (vx_MQ below Qc XC args s mc ms free) (F0 m pc ls rest) := by
  intro T hT X
  have htr : e.platform.stackTraces = false := (show e.platform.stackTraces = l.stackTraces by rw [X.admits.platform]).trans hl
  have Y := vx_rebase X (R' := { frames := R.frames, locals := R.locals, cells := 1, slots := 6 }) (Nat.le_refl _) (Nat.le_refl _) hRcells hRslots
  obtain ⟨s', hA⟩ : ∃ z, z = (T.setVm s.vm).setFrames (.invoking m args :: below) := ⟨_, rfl⟩
  rw [← hA] at Y
  have hvm : s'.vm = s.vm := by rw [hA]; rfl
  have hhp : s'.heap = H := by rw [hA]; exact hT
  have hW0 : s.WarmedH s'.vm := by rw [hvm]; exact State.WarmedH.refl s
  have hat' : ∀ w ∈ vx_at0 own ic cls names, w.before args s' = true := fun w hw => vx_ot_at hW0 hvm.symm (hgood w (List.mem_cons_of_mem _ (List.mem_cons_of_mem _ hw))) (hat w hw)
  have hk' : (Cond.classLink own ik cls).before args s' = true := vx_ot_at hW0 hvm.symm (hgood _ List.mem_cons_self) hk
  have hini' : (Cond.initialized cls).before args s' = true := vx_ot_at hW0 hvm.symm (hgood _ (List.mem_cons_of_mem _ List.mem_cons_self)) hini
  have hU' : vx_Zq Bundle.tN "UNASSIGNED_STACK" Bundle.steD A s' s'.heap := by rw [hhp]; exact vx_Zq.moved hW0.alike (hU.kept hS.2.1)
  have hN' : vx_Zq Bundle.tN "SUPPRESSED_SENTINEL" Bundle.listD A s' s'.heap := by rw [hhp]; exact vx_Zq.moved hW0.alike (hN.kept hS.2.1)
  have h : ∀ w ∈ Bundle.ownAtoms0 own ic cls names, w.before args s' = true := vx_own hat' (vx_isRefq hU'.1) (vx_isRefq hN'.1) hU'.2.word hN'.2.word
  have hown' : s'.vm.findClass own = some m.cls := by rw [hvm]; exact hown
  have hins : (Cond.instantiable cls 6).before args s' = true := h _ (by simp [Bundle.ownAtoms0])
  obtain ⟨vm₁, cX, kX, hfX, hkX, -, -, X₁, st1⟩ := Y.newCold hexec (own := own) (C := cls) (index := ik) (n := 6) hown' hk' hins hini'
    (g := F0 m pc ls rest) rfl (by rw [hb]; exact d0) (Nat.le_refl _) (Nat.le_refl _)
  generalize hT1 : (T.setVm vm₁).pushCell { cls := cX, slots := kX.instanceTypes.map defaultValue, vm := .none } = T1 at X₁ st1
  have hcat : (Value.ref T.heap.size).category = 1 := rfl
  have hcellA : T1.heap[T.heap.size]? = some (freshCell cX kX) := by rw [← hT1]; exact State.heap_pushCell_size _ _
  have d3' : decode c.code (pc + 3) = .ok (.dup, 1) := by rw [hb]; exact d3
  obtain ⟨U, hsteps, hrun, hend, hW, hsame, ce, hce, hO⟩ := X₁.ctorThrow0 hexec htr (own := own) (cls := cls) (names := names) (ic := ic) hown' hcls hnames h (fun x hx => nomatch hx) hfX hkX hcellA (by rw [hhp, hT]; exact Nat.le_refl _)
    (g := { method := m, pc := pc + 4, locals := ls, stack := .ref T.heap.size :: .ref T.heap.size :: rest, locked := none }) rfl hsize rfl rfl (rest := rest) rfl
    (by rw [hb]; exact d4) (by rw [hb]; exact d7) hout hRframes (by simp only [List.map_cons, List.sum_cons, hcat]; omega) hlocks
  obtain ⟨f1, f2⟩ := vx_frame hsame
  rw [hhp] at f1 f2
  have hWs : s.WarmedH U.vm := State.WarmedH.trans hW0 hW
  have hcl : s.vm.findClass cls = some ce.cls := by
    have h9 := hO.cls
    rw [hvm] at h9
    exact h9
  have hall : s.sameButNew ({ U with vm := s.vm } : State) locs mc ms := by
    subst hA
    obtain ⟨e1, e2⟩ := hsame
    rw [State.setFrames_setFrames] at e1
    have h2 : (T.setVm s.vm).sameButNew ({ U with vm := s.vm } : State) [] (0 + 1) (0 + 6) := ⟨e1, e2⟩
    have h3 := X.same.trans h2
    rw [List.append_nil] at h3
    exact h3.mono hc hs
  refine ⟨U, ?_, .threw T.heap.size, hrun, hend, Or.inr ⟨T.heap.size, rfl, cls, ce, locs, hx U hWs.alike f1 (fun q hq => f2 q hq (fun z hz => nomatch hz)), hce, hO.vm, hcl, hWs, hall, hf⟩⟩
  refine st1 _ ?_
  show Steps p.tables e below (T1.setTop { method := m, pc := pc + 3, locals := ls, stack := .ref T.heap.size :: rest, locked := none }) _
  jvm_step X₁.here [X₁.here.top, hexec, d3', Value.category]
  exact hsteps
/-- 'throw new E("text")': new; dup; ldc; invokespecial; athrow -/
theorem vx_throwS {cc : ByteArray} {pc : Nat} (hexec : p.tables.exec = Jvm.exec) (hb : c.code = cc) (hl : l.stackTraces = false) {own cls text : String} {names : List String} {ik is ic mc ms sa : Nat} {A : Nat → Prop}
    (hown : s.vm.findClass own = some m.cls) (hcls : Bundle.fit cls = true) (hnames : ∀ n ∈ names, Bundle.fit n = true)
    (hk : (Cond.classLink own ik cls).before args s = true) (hini : (Cond.initialized cls).before args s = true) (hstr : vk_R own is text sa s) (hat : ∀ w ∈ vx_atS own ic cls names, w.before args s = true)
    (hgood : ∀ w ∈ Cond.classLink own ik cls :: Cond.initialized cls :: vx_atS own ic cls names, vx_ot w = true)
    (hU : vx_Zq Bundle.tN "UNASSIGNED_STACK" Bundle.steD A s s.heap) (hN : vx_Zq Bundle.tN "SUPPRESSED_SENTINEL" Bundle.listD A s s.heap) (hS : va_S A s.heap H locs) (hsize : ls.size = c.maxLocals)
    (d0 : decode cc pc = .ok (.new ik, 3)) (d3 : decode cc (pc + 3) = .ok (.dup, 1)) (d4 : decode cc (pc + 4) = .ok (.ldc is, 2)) (d6 : decode cc (pc + 6) = .ok (.invokespecial ic, 3)) (d9 : decode cc (pc + 9) = .ok (.athrow, 1))
    (hout : ∀ x ∈ c.exceptionTable.toList, covers x (pc + 9) = false)
    (hRframes : names.length + 3 < R.frames) (hRlocals : (rest.map fun v => v.category).sum + (13 * (names.length + 1) + 43) ≤ R.locals) (hRcells : cells + 1 ≤ R.cells) (hRslots : slots + 6 ≤ R.slots) (hlocks : meth.locks = false)
    (hx : ∀ t : State, s.vm.Alike t.vm → H.size ≤ t.heap.size → (∀ q : Nat, q < H.size → t.heap[q]? = H[q]?) → XC cls s t)
    (hf : ∀ z ∈ locs, free z.base) (hc : cells + 1 ≤ mc) (hs : slots + 6 ≤ ms) :
    W p l e R s m args below meth c H locs cells slots (vx_MQ below Qc XC args s mc ms free) (F0 m pc ls rest) := by
  intro T hT X
  have htr : e.platform.stackTraces = false := (show e.platform.stackTraces = l.stackTraces by rw [X.admits.platform]).trans hl
  have Y := vx_rebase X (R' := { frames := R.frames, locals := R.locals, cells := 1, slots := 6 }) (Nat.le_refl _) (Nat.le_refl _) hRcells hRslots
  obtain ⟨s', hA⟩ : ∃ z, z = (T.setVm s.vm).setFrames (.invoking m args :: below) := ⟨_, rfl⟩
  rw [← hA] at Y
  have hvm : s'.vm = s.vm := by rw [hA]; rfl
  have hhp : s'.heap = H := by rw [hA]; exact hT
  have hW0 : s.WarmedH s'.vm := by rw [hvm]; exact State.WarmedH.refl s
  have hat' : ∀ w ∈ vx_atS own ic cls names, w.before args s' = true := fun w hw => vx_ot_at hW0 hvm.symm (hgood w (List.mem_cons_of_mem _ (List.mem_cons_of_mem _ hw))) (hat w hw)
  have hk' : (Cond.classLink own ik cls).before args s' = true := vx_ot_at hW0 hvm.symm (hgood _ List.mem_cons_self) hk
  have hini' : (Cond.initialized cls).before args s' = true := vx_ot_at hW0 hvm.symm (hgood _ (List.mem_cons_of_mem _ List.mem_cons_self)) hini
  have hU' : vx_Zq Bundle.tN "UNASSIGNED_STACK" Bundle.steD A s' s'.heap := by rw [hhp]; exact vx_Zq.moved hW0.alike (hU.kept hS.2.1)
  have hN' : vx_Zq Bundle.tN "SUPPRESSED_SENTINEL" Bundle.listD A s' s'.heap := by rw [hhp]; exact vx_Zq.moved hW0.alike (hN.kept hS.2.1)
  have h : ∀ w ∈ Bundle.ownAtoms own ic cls names, w.before args s' = true := vx_own hat' (vx_isRefq hU'.1) (vx_isRefq hN'.1) hU'.2.word hN'.2.word
  have hown' : s'.vm.findClass own = some m.cls := by rw [hvm]; exact hown
  have hins : (Cond.instantiable cls 6).before args s' = true := h _ (by simp [Bundle.ownAtoms])
  obtain ⟨vm₁, cX, kX, hfX, hkX, -, -, X₁, st1⟩ := Y.newCold hexec (own := own) (C := cls) (index := ik) (n := 6) hown' hk' hins hini'
    (g := F0 m pc ls rest) rfl (by rw [hb]; exact d0) (Nat.le_refl _) (Nat.le_refl _)
  generalize hT1 : (T.setVm vm₁).pushCell { cls := cX, slots := kX.instanceTypes.map defaultValue, vm := .none } = T1 at X₁ st1
  have hcat : (Value.ref T.heap.size).category = 1 := rfl
  have hcellA : T1.heap[T.heap.size]? = some (freshCell cX kX) := by rw [← hT1]; exact State.heap_pushCell_size _ _
  have d3' : decode c.code (pc + 3) = .ok (.dup, 1) := by rw [hb]; exact d3
  have d4' : decode c.code (pc + 4) = .ok (.ldc is, 2) := by rw [hb]; exact d4
  have hstr' : vk_R own is text sa s' := vk_R.warm hW0 hstr
  obtain ⟨U, hsteps, hrun, hend, hW, hsame, ce, hce, hO⟩ := X₁.ctorThrowS hexec htr (own := own) (cls := cls) (names := names) (ic := ic) hown' hcls hnames h (fun x hx => nomatch hx) hfX hkX hcellA (by rw [hhp, hT]; exact Nat.le_refl _) (msg := .ref sa) rfl
    (g := { method := m, pc := pc + 6, locals := ls, stack := .ref sa :: .ref T.heap.size :: .ref T.heap.size :: rest, locked := none }) rfl hsize rfl rfl (rest := rest) rfl
    (by rw [hb]; exact d6) (by rw [hb]; exact d9) hout hRframes (by simp only [List.map_cons, List.sum_cons, hcat]; omega) hlocks
  obtain ⟨f1, f2⟩ := vx_frame hsame
  rw [hhp] at f1 f2
  have hWs : s.WarmedH U.vm := State.WarmedH.trans hW0 hW
  have hcl : s.vm.findClass cls = some ce.cls := by
    have h9 := hO.cls
    rw [hvm] at h9
    exact h9
  have hall : s.sameButNew ({ U with vm := s.vm } : State) locs mc ms := by
    subst hA
    obtain ⟨e1, e2⟩ := hsame
    rw [State.setFrames_setFrames] at e1
    have h2 : (T.setVm s.vm).sameButNew ({ U with vm := s.vm } : State) [] (0 + 1) (0 + 6) := ⟨e1, e2⟩
    have h3 := X.same.trans h2
    rw [List.append_nil] at h3
    exact h3.mono hc hs
  refine ⟨U, ?_, .threw T.heap.size, hrun, hend, Or.inr ⟨T.heap.size, rfl, cls, ce, locs, hx U hWs.alike f1 (fun q hq => f2 q hq (fun z hz => nomatch hz)), hce, hO.vm, hcl, hWs, hall, hf⟩⟩
  refine st1 _ ?_
  show Steps p.tables e below (T1.setTop { method := m, pc := pc + 3, locals := ls, stack := .ref T.heap.size :: rest, locked := none }) _
  jvm_step X₁.here [X₁.here.top, hexec, d3', Value.category]
  exact X₁.ldcString hexec (own := own) (text := text) (index := is) (a := sa) hown' hstr'.1 hstr'.2
    (g := { method := m, pc := pc + 4, locals := ls, stack := .ref T.heap.size :: .ref T.heap.size :: rest, locked := none }) rfl d4' _ hsteps
/-- 'throw new E("text")', the text by a wide index -/
theorem vx_throwSW {cc : ByteArray} {pc : Nat} (hexec : p.tables.exec = Jvm.exec) (hb : c.code = cc) (hl : l.stackTraces = false) {own cls text : String} {names : List String} {ik is ic mc ms sa : Nat} {A : Nat → Prop}
    (hown : s.vm.findClass own = some m.cls) (hcls : Bundle.fit cls = true) (hnames : ∀ n ∈ names, Bundle.fit n = true)
    (hk : (Cond.classLink own ik cls).before args s = true) (hini : (Cond.initialized cls).before args s = true) (hstr : vk_R own is text sa s) (hat : ∀ w ∈ vx_atS own ic cls names, w.before args s = true)
    (hgood : ∀ w ∈ Cond.classLink own ik cls :: Cond.initialized cls :: vx_atS own ic cls names, vx_ot w = true)
    (hU : vx_Zq Bundle.tN "UNASSIGNED_STACK" Bundle.steD A s s.heap) (hN : vx_Zq Bundle.tN "SUPPRESSED_SENTINEL" Bundle.listD A s s.heap) (hS : va_S A s.heap H locs) (hsize : ls.size = c.maxLocals)
    (d0 : decode cc pc = .ok (.new ik, 3)) (d3 : decode cc (pc + 3) = .ok (.dup, 1)) (d4 : decode cc (pc + 4) = .ok (.ldc_w is, 3)) (d7 : decode cc (pc + 7) = .ok (.invokespecial ic, 3)) (d10 : decode cc (pc + 10) = .ok (.athrow, 1))
    (hout : ∀ x ∈ c.exceptionTable.toList, covers x (pc + 10) = false)
    (hRframes : names.length + 3 < R.frames) (hRlocals : (rest.map fun v => v.category).sum + (13 * (names.length + 1) + 43) ≤ R.locals) (hRcells : cells + 1 ≤ R.cells) (hRslots : slots + 6 ≤ R.slots) (hlocks : meth.locks = false)
    (hx : ∀ t : State, s.vm.Alike t.vm → H.size ≤ t.heap.size → (∀ q : Nat, q < H.size → t.heap[q]? = H[q]?) → XC cls s t)
    (hf : ∀ z ∈ locs, free z.base) (hc : cells + 1 ≤ mc) (hs : slots + 6 ≤ ms) :
    W p l e R s m args below meth c H locs cells slots (vx_MQ below Qc XC args s mc ms free) (F0 m pc ls rest) := by
  intro T hT X
  have htr : e.platform.stackTraces = false := (show e.platform.stackTraces = l.stackTraces by rw [X.admits.platform]).trans hl
  have Y := vx_rebase X (R' := { frames := R.frames, locals := R.locals, cells := 1, slots := 6 }) (Nat.le_refl _) (Nat.le_refl _) hRcells hRslots
  obtain ⟨s', hA⟩ : ∃ z, z = (T.setVm s.vm).setFrames (.invoking m args :: below) := ⟨_, rfl⟩
  rw [← hA] at Y
  have hvm : s'.vm = s.vm := by rw [hA]; rfl
  have hhp : s'.heap = H := by rw [hA]; exact hT
  have hW0 : s.WarmedH s'.vm := by rw [hvm]; exact State.WarmedH.refl s
  have hat' : ∀ w ∈ vx_atS own ic cls names, w.before args s' = true := fun w hw => vx_ot_at hW0 hvm.symm (hgood w (List.mem_cons_of_mem _ (List.mem_cons_of_mem _ hw))) (hat w hw)
  have hk' : (Cond.classLink own ik cls).before args s' = true := vx_ot_at hW0 hvm.symm (hgood _ List.mem_cons_self) hk
  have hini' : (Cond.initialized cls).before args s' = true := vx_ot_at hW0 hvm.symm (hgood _ (List.mem_cons_of_mem _ List.mem_cons_self)) hini
  have hU' : vx_Zq Bundle.tN "UNASSIGNED_STACK" Bundle.steD A s' s'.heap := by rw [hhp]; exact vx_Zq.moved hW0.alike (hU.kept hS.2.1)
  have hN' : vx_Zq Bundle.tN "SUPPRESSED_SENTINEL" Bundle.listD A s' s'.heap := by rw [hhp]; exact vx_Zq.moved hW0.alike (hN.kept hS.2.1)
  have h : ∀ w ∈ Bundle.ownAtoms own ic cls names, w.before args s' = true := vx_own hat' (vx_isRefq hU'.1) (vx_isRefq hN'.1) hU'.2.word hN'.2.word
  have hown' : s'.vm.findClass own = some m.cls := by rw [hvm]; exact hown
  have hins : (Cond.instantiable cls 6).before args s' = true := h _ (by simp [Bundle.ownAtoms])
  obtain ⟨vm₁, cX, kX, hfX, hkX, -, -, X₁, st1⟩ := Y.newCold hexec (own := own) (C := cls) (index := ik) (n := 6) hown' hk' hins hini'
    (g := F0 m pc ls rest) rfl (by rw [hb]; exact d0) (Nat.le_refl _) (Nat.le_refl _)
  generalize hT1 : (T.setVm vm₁).pushCell { cls := cX, slots := kX.instanceTypes.map defaultValue, vm := .none } = T1 at X₁ st1
  have hcat : (Value.ref T.heap.size).category = 1 := rfl
  have hcellA : T1.heap[T.heap.size]? = some (freshCell cX kX) := by rw [← hT1]; exact State.heap_pushCell_size _ _
  have d3' : decode c.code (pc + 3) = .ok (.dup, 1) := by rw [hb]; exact d3
  have d4' : decode c.code (pc + 4) = .ok (.ldc_w is, 3) := by rw [hb]; exact d4
  have hstr' : vk_R own is text sa s' := vk_R.warm hW0 hstr
  obtain ⟨U, hsteps, hrun, hend, hW, hsame, ce, hce, hO⟩ := X₁.ctorThrowS hexec htr (own := own) (cls := cls) (names := names) (ic := ic) hown' hcls hnames h (fun x hx => nomatch hx) hfX hkX hcellA (by rw [hhp, hT]; exact Nat.le_refl _) (msg := .ref sa) rfl
    (g := { method := m, pc := pc + 7, locals := ls, stack := .ref sa :: .ref T.heap.size :: .ref T.heap.size :: rest, locked := none }) rfl hsize rfl rfl (rest := rest) rfl
    (by rw [hb]; exact d7) (by rw [hb]; exact d10) hout hRframes (by simp only [List.map_cons, List.sum_cons, hcat]; omega) hlocks
  obtain ⟨f1, f2⟩ := vx_frame hsame
  rw [hhp] at f1 f2
  have hWs : s.WarmedH U.vm := State.WarmedH.trans hW0 hW
  have hcl : s.vm.findClass cls = some ce.cls := by
    have h9 := hO.cls
    rw [hvm] at h9
    exact h9
  have hall : s.sameButNew ({ U with vm := s.vm } : State) locs mc ms := by
    subst hA
    obtain ⟨e1, e2⟩ := hsame
    rw [State.setFrames_setFrames] at e1
    have h2 : (T.setVm s.vm).sameButNew ({ U with vm := s.vm } : State) [] (0 + 1) (0 + 6) := ⟨e1, e2⟩
    have h3 := X.same.trans h2
    rw [List.append_nil] at h3
    exact h3.mono hc hs
  refine ⟨U, ?_, .threw T.heap.size, hrun, hend, Or.inr ⟨T.heap.size, rfl, cls, ce, locs, hx U hWs.alike f1 (fun q hq => f2 q hq (fun z hz => nomatch hz)), hce, hO.vm, hcl, hWs, hall, hf⟩⟩
  refine st1 _ ?_
  show Steps p.tables e below (T1.setTop { method := m, pc := pc + 3, locals := ls, stack := .ref T.heap.size :: rest, locked := none }) _
  jvm_step X₁.here [X₁.here.top, hexec, d3', Value.category]
  exact X₁.ldcStringW hexec (own := own) (text := text) (index := is) (a := sa) hown' hstr'.1 hstr'.2
    (g := { method := m, pc := pc + 4, locals := ls, stack := .ref T.heap.size :: .ref T.heap.size :: rest, locked := none }) rfl d4' _ hsteps
end Ends
section Bodies
variable {l : Launch}
theorem vx_ofW {y : MethodName} {ws ws' : List Cond} {rm : Room} {Pc : Array Value → State → Prop} {Qc : Array Value → State → Outcome → State → Prop} {XC : String → State → State → Prop} {mc ms : Nat} {free : Addr → Prop} {cc : ByteArray} {maxL : Nat} {ret : Option FieldType}
    (hy : plainName y.cls = true) (hw : ws = Cond.code y cc maxL ret :: ws')
    (body : ∀ p e s m args below meth c s₁, BodyLoose p l y (headSpec ws rm) cc maxL ret e s m args below meth c s₁ → c.maxLocals = maxL → (∀ x ∈ c.exceptionTable.toList, False) → Pc args s →
      W p l e (headSpec ws rm).room s m args below meth c s.heap [] 0 0 (vx_MQ below Qc XC args s mc ms free) (entryFrame m args maxL)) : vx_Met l y ws rm Pc Qc XC mc ms free := by
  refine MetFree.of_bodyS (code := cc) (maxLocals := maxL) (ret := ret) hy ?_ ?_
  · intro args s m h hn
    obtain ⟨meth, c, h1, h2, h3, h4, h5, h6, -, -⟩ := Cond.code_spec hn (atoms_spec (ws := ws) h _ (by rw [hw]; exact List.mem_cons_self))
    exact ⟨meth, c, h1, h2, h3, h4, h5, h6⟩
  · intro p e s m args below meth c s₁ B hml hP _
    have hh0 : s₁.heap = s.heap := by rw [B.state]; rfl
    have ht : ∀ x ∈ c.exceptionTable.toList, False := by
      obtain ⟨meth9, c9, h1, h2, -, -, -, -, h7, -⟩ := Cond.code_spec B.named (atoms_spec (ws := ws) B.pre _ (by rw [hw]; exact List.mem_cons_self))
      cases Option.some.inj (h1.symm.trans B.method)
      cases Option.some.inj (h2.symm.trans (Stand.of_body B).code)
      intro x hx
      rw [Array.isEmpty_iff.mp h7] at hx
      cases hx
    obtain ⟨t, a1, o, b1, b2, b3⟩ := body p e s m args below meth c s₁ B hml ht hP s₁ hh0 (Stand.of_body B)
    exact ⟨t, o, a1, b1, b2, b3⟩
/-- the table of a body with handlers -/
theorem vx_table {p : Program} {x y : MethodName} {S : Spec} {cc bytes : ByteArray} {maxL maxL' : Nat} {ret ret' : Option FieldType} {e : Env} {s s₁ : State} {m : MethodId} {args : Array Value} {below : List Frame} {meth : Method} {c : Code} {hh : List (Nat × Nat × Nat × Nat)}
    (B : BodyLoose p l y S cc maxL ret e s m args below meth c s₁) (h : (Cond.codeWith y bytes maxL' ret' hh).before args s = true) : c.exceptionTable.toList = tableOf hh := by
  obtain ⟨m9, meth9, c9, hn9, h1, h2, -, -, h6, -⟩ := Cond.codeWith_spec h
  cases Option.some.inj (hn9.symm.trans B.named)
  cases Option.some.inj (h1.symm.trans B.method)
  cases Option.some.inj (h2.symm.trans (Stand.of_body B).code)
  rw [← h6, table_eq]
end Bodies
end VXA
/-! ===== END ===== -/
/-! ===== BEGIN a static call of a method with an exception table ===== -/
section VXS
variable {p : Program} {l : Launch} {e : Env} {R : Room} {s : State} {m : MethodId} {args : Array Value} {below : List Frame} {meth : Method} {c : Code} {T : State} {H : Heap} {locs : List Loc} {cells slots : Nat}
abbrev vx_CSW (R : Room) (s : State) (args : Array Value) (own : String) (index : Nat) (y : MethodName) (bytes : ByteArray) (maxL : Nat) (ret : Option FieldType) (hh : List (Nat × Nat × Nat × Nat)) (ws : List Cond) (rm : Room) (mc ms n : Nat) : Prop :=
  (rm.cells = mc ∧ rm.slots = ms ∧ rm.frames + 1 ≤ R.frames ∧ 8 + (maxL + 11) + rm.locals ≤ R.locals ∧ (∀ w ∈ ws, ∀ (a' : Array Value) (U : State), s.WarmedH U.vm → w.before a' U = true) ∧ Cond.codeWith y bytes maxL ret hh ∈ ws) ∧
  (Cond.codeWith y bytes maxL ret hh).before args s = true ∧ (Cond.initialized y.cls).before args s = true ∧ (y.cls ≠ "java/lang/invoke/MethodHandle" ∧ y.cls ≠ "java/lang/invoke/VarHandle") ∧
  (∀ sig, parseMethodDescriptor y.desc = some sig → n = sig.parameters.length) ∧ (Cond.methodLink own index y).before args s = true ∧ (Cond.static y).before args s = true
theorem vx_cwSW {own : String} {index maxL mc ms : Nat} {y : MethodName} {bytes : ByteArray} {ret : Option FieldType} {hh : List (Nat × Nat × Nat × Nat)} {Ts ws ws' : List Cond} {rm : Room} (n : Nat) (ht : ∀ w ∈ Ts, w.before args s = true) (hT : GoodIn Ts (va_wsS own index y ws)) (hw : ws = Cond.codeWith y bytes maxL ret hh :: ws') (hrc : rm.cells = mc) (hrs : rm.slots = ms)
    (hd : y.cls ≠ "java/lang/invoke/MethodHandle" ∧ y.cls ≠ "java/lang/invoke/VarHandle" ∧ (parseMethodDescriptor y.desc).map (fun d => d.parameters.length) = some n) (hR : rm.frames + 1 ≤ R.frames ∧ 8 + (maxL + 11) + rm.locals ≤ R.locals) :
    vx_CSW R s args own index y bytes maxL ret hh ws rm mc ms n := by
  have ok : ∀ w ∈ va_wsS own index y ws, w.before args s = true := fun w h => ht w (hT w h).1
  have hG : GoodIn Ts ws := fun w h => hT w (by unfold va_wsS; exact List.mem_append_right _ h)
  have hc : Cond.codeWith y bytes maxL ret hh ∈ ws := by rw [hw]; exact List.mem_cons_self
  refine ⟨⟨hrc, hrs, hR.1, hR.2, pay_in ht hG, hc⟩, ht _ (hG _ hc).1, ok _ (by simp [va_wsS]), ⟨hd.1, hd.2.1⟩, fun sig h => ?_, ok _ (by simp [va_wsS]), ok _ (by simp [va_wsS])⟩
  have h2 := hd.2.2
  rw [h] at h2
  exact (Option.some.inj h2).symm
theorem vx_callSW (X : Stand p l e R s m args below meth c T locs cells slots) (hexec : p.tables.exec = Jvm.exec) {own : String} {index : Nat} {y : MethodName} {bytes : ByteArray} {maxL : Nat} {ret : Option FieldType} {hh : List (Nat × Nat × Nat × Nat)}
    (hown : s.vm.findClass own = some m.cls) (hlink : (Cond.methodLink own index y).before args s = true) (hstat : (Cond.static y).before args s = true) (hinit : (Cond.initialized y.cls).before args s = true)
    (hcode : (Cond.codeWith y bytes maxL ret hh).before args s = true) (hy : y.cls ≠ "java/lang/invoke/MethodHandle" ∧ y.cls ≠ "java/lang/invoke/VarHandle")
    {W9 : Nat} {Pre : Pt → Array Value → Prop} {Post : Pt → Array Value → Option Value → Pt → Prop} (hK : Back l R p e below s args y 3 W9 Pre Post)
    {g : JFrame} (hg : g.method = m) (hsize : g.locals.size = c.maxLocals) {argsL rest : List Value} (hlen : ∀ sig, parseMethodDescriptor y.desc = some sig → argsL.length = sig.parameters.length)
    (hstack : g.stack = argsL.reverse ++ rest) (hW : 2 * g.monitorRoom + (rest.map fun v => v.category).sum ≤ W9) (hdg : decode c.code g.pc = .ok (.invokestatic index, 3))
    (hpre : ∀ vm₁, s.WarmedH vm₁ → Pre ⟨T.setVm vm₁, locs, cells, slots⟩ argsL.toArray) :
    ∃ (v : Option Value) (vm₁ : Vm) (B : Pt), s.WarmedH vm₁ ∧ Stand p l e R s m args below meth c B.U B.locs B.cells B.slots ∧ Post ⟨T.setVm vm₁, locs, cells, slots⟩ argsL.toArray v B ∧
      ∀ target, Steps p.tables e below (B.U.setTop { g with pc := g.pc + 3, stack := v.toList ++ rest }) target → Steps p.tables e below (T.setTop g) target := by
  obtain ⟨mk, methM, cM, hnamed, hmethM, -, -, -, -, -, -, hsigM⟩ := Cond.codeWith_spec hcode
  have hstatic : methM.isStatic = true := Cond.static_spec hnamed hmethM hstat
  obtain ⟨kP, hkP, -⟩ := className_of_methodNamed hnamed
  have hinitP : kP.init = .initialized := Cond.initialized_spec (findClass_of_methodNamed hnamed) hkP hinit
  obtain ⟨vm₁, X₁, hstep₁⟩ := X.invokestatic hexec hown hlink hnamed hmethM hstatic hkP hinitP hy (g := g) hg (argsL := argsL) (rest := rest) (hlen _ hsigM) hstack hdg
  obtain ⟨v, B, X', hpost, hsteps⟩ := hK m meth c ⟨T.setVm vm₁, locs, cells, slots⟩ { g with stack := rest } (.invokestatic index) mk argsL.toArray X₁ hg hsize hdg hW (X₁.named hnamed) (hpre vm₁ X₁.warmed)
  exact ⟨v, vm₁, B, X₁.warmed, X', hpost, fun target h => hstep₁ _ fun acts => by rw [doInvoke_state]; exact hsteps.trans h⟩
theorem vx_runSW {y : MethodName} {bytes cc : ByteArray} {maxL nL mc ms n index : Nat} {ret : Option FieldType} {hh : List (Nat × Nat × Nat × Nat)} {ws : List Cond} {rm : Room} {Pc : Array Value → State → Prop} {Qc : Array Value → State → Outcome → State → Prop} {free : Addr → Prop} {Ts : List Cond} {own : String} {As rest : List Value} {g : JFrame}
    (S : CallFix p m c cc nL s args Ts own) (hM : Met l y ws rm Pc Qc mc ms free) (cw : vx_CSW R s args own index y bytes maxL ret hh ws rm mc ms n) (hp : PreS s H Pc As)
    (hg : g.method = m) (hn : As.length = n) (hsize : g.locals.size = nL) (hstack : g.stack = As.reverse ++ rest) (hW : 2 * g.monitorRoom + (rest.map fun v => v.category).sum ≤ 8) (hdg : decode cc g.pc = .ok (.invokestatic index, 3)) (hf : cells + mc ≤ R.cells ∧ slots + ms ≤ R.slots) :
    va_Run p l e R s m args below meth c H locs cells slots mc ms g rest (Qc As.toArray) (free) := by
  obtain ⟨⟨hrc, hrs, hfr, hlo, hws, hcw⟩, hcode, hini, hy, hlen, hl, hstt⟩ := cw
  have hK : Back l R p e below s args y 3 8 (PreOf R mc ms Pc) (PostOf Qc mc ms free) := va_backW (hh := hh) (bytes := bytes) (maxL := maxL) (ret := ret) hM hp.1 hrc hrs hfr hlo hws hcw (fun a' U hW => word_at hW (Or.inl (by first | rfl | simp [Cond.onTables, Cond.keeps, Cond.steady])) hini)
  obtain ⟨hx, hb, hml, ho, -⟩ := S
  intro T hT X
  obtain ⟨v, vm₁, ⟨U', l2, c2, s2⟩, hW₁, X', ⟨g', mk, t, L, e1, e2, hq, h1, hL, h2, h3⟩, st⟩ := vx_callSW X hx (hh := hh) (bytes := bytes) (maxL := maxL) (ret := ret) ho hl hstt hini hcode hy hK hg (hsize.trans hml.symm) (argsL := As) (rest := rest) (fun sig h => hn.trans (hlen sig h)) hstack hW (by rw [hb]; exact hdg)
    (fun vm₁ hW₁ => ⟨hf.1, hf.2, hp.2 (T.setVm vm₁) hT hW₁⟩)
  dsimp only [Pt.U, Pt.locs, Pt.cells, Pt.slots] at X' e1 e2 h1 h2 h3 st
  subst h1; subst h2; subst h3
  exact ⟨v, (T.setVm vm₁).calling g' mk As.toArray, t, U', L, hT, X', hL, e1, e2, hq, st⟩
/-- not caught here, past rows that name other classes: it goes on to the caller -/
theorem vx_outP {p : Program} {l : Launch} {e : Env} {R : Room} {s : State} {m : MethodId} {args : Array Value} {below : List Frame} {meth : Method} {c : Code} {H : Heap} {locs : List Loc} {cells slots : Nat} {free : Addr → Prop} {ls : Array Slot} {rest : List Value} {Qc : Array Value → State → Outcome → State → Prop} {XC : String → State → State → Prop}
    {pc : Nat} {own E : String} {ce : Cell} {q : Addr} {mc ms : Nat} (hown : s.vm.findClass own = some m.cls) (hlocks : meth.locks = false)
    (hpass : ∀ z ∈ c.exceptionTable.toList, covers z pc = false ∨ (z.catchType ≠ 0 ∧ ∃ nm : String, (Cond.classLink own z.catchType nm).before args s = true ∧ va_Nc E nm s)) (hcell : H[q]? = some ce) (hv : ce.vm = .none) (hcl : s.vm.findClass E = some ce.cls)
    (hx : ∀ t : State, t.heap = H → s.vm.Alike t.vm → XC E s t) (hf : ∀ z ∈ locs, free z.base) (hc : cells ≤ mc) (hs : slots ≤ ms) :
    vx_W p l e R s m args below meth c H locs cells slots (vx_MQ below Qc XC args s mc ms free) (F0 m pc ls rest) q := by
  intro T hT X
  have hpl : e.platform.magicAccessors = ({} : Platform).magicAccessors := by rw [X.admits.platform]
  obtain ⟨vm', hW', X', st⟩ := X.outThrough hlocks q (g := F0 m pc ls rest) rfl rfl rfl (cell := ce) (by rw [hT]; exact hcell) (by rw [hv]; rfl)
    (by obtain ⟨k9, h9, -⟩ := Vm.findClass_spec hcl; exact ⟨k9, h9⟩) (fun z hz => by
      rcases hpass z hz with h | ⟨hz0, nm, hl1, hn1⟩
      · exact Or.inl h
      · obtain ⟨c6, hc6, hcl6⟩ := Cond.classLink_spec hown hl1 e.platform hpl
        obtain ⟨a8, b8, h1, h2, h3⟩ := hn1
        cases Option.some.inj (h1.symm.trans hcl)
        cases Option.some.inj (h2.symm.trans hc6)
        exact Or.inr ⟨hz0, _, hcl6, h3⟩)
  obtain ⟨g₀, hfr⟩ := X'.frames_eq
  have hcell9 : ((T.setVm vm').setFrames (.throwing q :: below)).heap[q]? = some ce := by
    show T.heap[q]? = some ce
    rw [hT]; exact hcell
  have hend : Ended ((T.setVm vm').setFrames (.throwing q :: below)) below (.threw q) := State.frames_setFrames _ (State.cur_lt_of_frames hfr)
  refine ⟨(T.setVm vm').setFrames (.throwing q :: below), ?_, .threw q, X'.here.running, hend, Or.inr ⟨q, rfl, E, ce, locs, hx _ hT (X'.ends _).1.alike, hcell9, hv, hcl, (X'.ends _).1, (X'.ends _).2.mono hc hs, hf⟩⟩
  rw [X.pushThrowing_eq]
  exact st
/-- a thing of a world lies in the heap -/
theorem vx_lt {D : va_G} {cl : List vw_C} {ws : va_W} {H1 : Heap} (h : va_P D cl ws H1) {k : Nat} {q : Nat × va_E} (hk : ws[k]? = some q) : q.1 < H1.size := (h k q hk).lt
end VXS
/-! ===== END ===== -/
/-! ===== BEGIN methods with a table of their own: called by a name, returning or throwing ===== -/
section VXH
/-! vx_backW, vx_callVX, vx_callSX, vx_callVW, vx_runVW, vx_runVX, vx_runSX, vx_ofWH follow the same proofs as their sisters above (Free/Laws.lean, Shelf42/LK1.lean); vx_outP calls Shelf42/NT130.lean (outThrough). -/
section
variable {l : Launch} {R : Room} {p : Program} {e : Env} {below : List Frame} {s : State} {sargs : Array Value} {y : MethodName} {len W9 : Nat}
theorem vx_backW {ws : List Cond} {rm : Room} {Pc : Array Value → State → Prop} {Qc : Array Value → State → Outcome → State → Prop} {XC : String → State → State → Prop} {mc ms : Nat} {free : Addr → Prop} {bytes : ByteArray} {maxL : Nat} {ret : Option FieldType} {hh : List (Nat × Nat × Nat × Nat)}
    (hM : vx_Met l y ws rm Pc Qc XC mc ms free) (hblind : FrameBlind Pc) (hrc : rm.cells = mc) (hrs : rm.slots = ms)
    (hframes : rm.frames + 1 ≤ R.frames) (hlocals : W9 + (maxL + 11) + rm.locals ≤ R.locals)
    (hws : ∀ w ∈ ws, ∀ a' U, s.WarmedH U.vm → w.before a' U = true) (hcode : Cond.codeWith y bytes maxL ret hh ∈ ws) (hinit : ∀ a' U, s.WarmedH U.vm → (Cond.initialized y.cls).before a' U = true) :
    vx_Back l R p e below s sargs y len W9 (PreOf R mc ms Pc) (PostOf Qc mc ms free) (vx_Post XC mc ms free) := by
  intro m meth c A g ig mk a X hg hsize hdg hW hn hp
  have h1 : (headSpec ws rm).pre.before a A.U = true := atoms_intro fun w hw => hws w hw _ _ X.warmed
  have h2 : (Cond.codeWith y bytes maxL ret hh).before a A.U = true := hws _ hcode _ _ X.warmed
  have h3 : (Cond.initialized y.cls).before a A.U = true := hinit _ _ X.warmed
  have h4 : A.cells + (headSpec ws rm).room.cells ≤ R.cells := by rw [show (headSpec ws rm).room.cells = mc from hrc]; exact hp.1
  have h5 : A.slots + (headSpec ws rm).room.slots ≤ R.slots := by rw [show (headSpec ws rm).room.slots = ms from hrs]; exact hp.2.1
  have hPc : Pc a (A.U.calling g mk a) := hblind _ _ _ _ hp.2.2
  obtain ⟨U, Ls, c0, s0⟩ := A
  dsimp only [Pt.U, Pt.locs, Pt.cells, Pt.slots] at h1 h2 h3 h4 h5 X hn hPc ⊢
  obtain ⟨m9, methY, cY, hn9, hmY, hcY, -, hlY, -⟩ := Cond.codeWith_spec h2
  cases Option.some.inj (hn9.symm.trans hn)
  obtain ⟨kY, hkY, -⟩ := className_of_methodNamed hn
  have hinitY : kY.init = .initialized := Cond.initialized_spec (findClass_of_methodNamed hn) hkY h3
  have h : At U g.method c below := by rw [hg]; exact X.here
  have hlocals9 : W9 + (maxL + 11) + (headSpec ws rm).room.locals ≤ R.locals := hlocals
  have happ : (headSpec ws rm).appliesLoose y e.platform (U.calling g mk a) = true :=
    Spec.appliesLoose_calling (g := g) h hdg hn hkY hinitY
      (X.room_calling (g := g) (R' := (headSpec ws rm).room) hsize hmY hcY hframes (by rw [hlY]; omega) h4 h5) h1
  obtain ⟨mid, hmid⟩ := h.above
  have hfr : (U.setTop g).frames = (.java g :: mid) ++ below := by rw [State.frames_setTop' g h.top, hmid]; rfl
  obtain ⟨o, s₂, hsteps, -, hend, hq⟩ := Steps.callFree hM p X.admits X.cas X.clock (acts := []) hfr happ hPc trivial
  have hq' : vx_Q Qc XC mc ms free a (U.calling g mk a) o s₂ := hq
  rw [State.frames_setTop' g h.top] at hend
  obtain ⟨g₀, hg0⟩ := Option.isSome_iff_exists.mp h.top
  obtain ⟨r, hr⟩ := State.topJava?_eq_some.mp hg0
  have hr' : (({ U with heap := s₂.heap, slotsUsed := s₂.slotsUsed } : State).setVm s₂.vm).frames = .java g₀ :: r := hr
  rcases hq' with ⟨hqc, L, hfe, hL⟩ | ⟨q, rfl, E, ce, L, hx, hce, hcv, hcl, hW₂, hsm, hL⟩
  · obtain ⟨⟨v, rfl⟩, hW₂, e2, q2, q3, q4, q5, q6⟩ := id hfe
    have e3 : s₂ = ({ (U.calling g mk a).setFrames s₂.frames with heap := s₂.heap, slotsUsed := s₂.slotsUsed } : State).setVm s₂.vm := by
      have : s₂ = ({ s₂ with vm := (U.calling g mk a).vm } : State).setVm s₂.vm := rfl
      rw [e2] at this
      exact this
    obtain ⟨c₂, i₂, len₂, hc₂, hd₂, hf₂⟩ := hend
    have hW' : U.WarmedH s₂.vm := hW₂
    have hcc : c₂ = c := by
      have h1 : s₂.code? g.method = U.code? g.method := by
        rw [State.code?_eq, State.code?_eq, hW'.alike.method?]
      exact Option.some.inj (hc₂.symm.trans (h1.trans h.code))
    subst hcc
    have hlen : len₂ = len := by rw [hdg] at hd₂; cases hd₂; rfl
    subst hlen
    have hs₂ : s₂ = (({ U with heap := s₂.heap, slotsUsed := s₂.slotsUsed } : State).setVm s₂.vm).setTop { g with pc := g.pc + len₂, stack := v.toList ++ g.stack } := by
      refine e3.trans ?_
      rw [hf₂, State.calling_eq h.top, State.setFrames_setFrames, State.setTop_of_frames _ hr', hr]
      rfl
    have hsame : U.sameButNew ({ U with heap := s₂.heap, slotsUsed := s₂.slotsUsed } : State) L mc ms := by
      refine ⟨?_, q2, q3, q4, q5, q6⟩
      obtain ⟨t, ht, -⟩ := State.frames_cons hr
      show ({ U with heap := s₂.heap, slotsUsed := s₂.slotsUsed } : State) = { U.setFrames U.frames with heap := s₂.heap, slotsUsed := s₂.slotsUsed }
      rw [State.setFrames_self ht]
    subst hg
    refine Or.inl ⟨v, ⟨(({ U with heap := s₂.heap, slotsUsed := s₂.slotsUsed } : State).setVm s₂.vm), Ls ++ L, c0 + mc, s0 + ms⟩,
      ⟨X.admits, X.cas, X.clock, X.frames, X.room, X.hears, X.method, X.code, (X.here.setHeapUsed s₂.heap s₂.slotsUsed).setVm hW'.alike, X.tail, State.WarmedH.trans X.warmed hW', X.limits, X.bytes, X.same.trans (hsame.setVm s.vm)⟩,
      ⟨g, mk, s₂, L, rfl, rfl, hqc, rfl, hL, rfl, rfl⟩, ?_⟩
    show Steps p.tables e below _ ((({ U with heap := s₂.heap, slotsUsed := s₂.slotsUsed } : State).setVm s₂.vm).setTop { g with pc := g.pc + len₂, stack := v.toList ++ g.stack })
    rw [← hs₂]
    exact hsteps
  · obtain ⟨e2, q2, q3, q4, q5, q6⟩ := id hsm
    have e3 : s₂ = ({ (U.calling g mk a).setFrames s₂.frames with heap := s₂.heap, slotsUsed := s₂.slotsUsed } : State).setVm s₂.vm := by
      have : s₂ = ({ s₂ with vm := (U.calling g mk a).vm } : State).setVm s₂.vm := rfl
      rw [e2] at this
      exact this
    have hf₂ : s₂.frames = .throwing q :: .java g :: U.frames.tail := hend
    have hW' : U.WarmedH s₂.vm := hW₂
    have hs₂ : s₂ = ((({ U with heap := s₂.heap, slotsUsed := s₂.slotsUsed } : State).setVm s₂.vm).setTop g).pushFrame (.throwing q) := by
      refine e3.trans ?_
      rw [hf₂, State.calling_eq h.top, State.setFrames_setFrames, State.pushFrame, State.frames_setTop _ hr', State.setTop_of_frames _ hr', State.setFrames_setFrames, hr]
      rfl
    have hsame : U.sameButNew ({ U with heap := s₂.heap, slotsUsed := s₂.slotsUsed } : State) L mc ms := by
      refine ⟨?_, q2, q3, q4, q5, q6⟩
      obtain ⟨t, ht, -⟩ := State.frames_cons hr
      show ({ U with heap := s₂.heap, slotsUsed := s₂.slotsUsed } : State) = { U.setFrames U.frames with heap := s₂.heap, slotsUsed := s₂.slotsUsed }
      rw [State.setFrames_self ht]
    subst hg
    refine Or.inr ⟨q, ⟨(({ U with heap := s₂.heap, slotsUsed := s₂.slotsUsed } : State).setVm s₂.vm), Ls ++ L, c0 + mc, s0 + ms⟩,
      ⟨X.admits, X.cas, X.clock, X.frames, X.room, X.hears, X.method, X.code, (X.here.setHeapUsed s₂.heap s₂.slotsUsed).setVm hW'.alike, X.tail, State.WarmedH.trans X.warmed hW', X.limits, X.bytes, X.same.trans (hsame.setVm s.vm)⟩,
      ⟨g, mk, s₂, L, E, ce, rfl, rfl, hx, hce, hcv, hcl, rfl, hL, rfl, rfl⟩, ?_⟩
    show Steps p.tables e below _ (((({ U with heap := s₂.heap, slotsUsed := s₂.slotsUsed } : State).setVm s₂.vm).setTop g).pushFrame (.throwing q))
    rw [← hs₂]
    exact hsteps
end
variable {p : Program} {l : Launch} {e : Env} {R : Room} {s : State} {m : MethodId} {args : Array Value} {below : List Frame} {meth : Method} {c : Code} {T : State} {H : Heap} {locs : List Loc} {cells slots : Nat}
theorem vx_callVX (X : Stand p l e R s m args below meth c T locs cells slots) (hexec : p.tables.exec = Jvm.exec) {own C : String} {index : Nat} {y : MethodName} {bytes : ByteArray} {maxL : Nat} {ret : Option FieldType} {hh : List (Nat × Nat × Nat × Nat)}
    (hown : s.vm.findClass own = some m.cls) (hlink : (Cond.methodLink own index y).before args s = true) (hinst : (Cond.instanceMethod y).before args s = true) (hsel : (Cond.selects C y y).before args s = true)
    (hcode : (Cond.codeWith y bytes maxL ret hh).before args s = true) (hy : y.cls ≠ "java/lang/invoke/MethodHandle" ∧ y.cls ≠ "java/lang/invoke/VarHandle")
    {W9 : Nat} {Pre : Pt → Array Value → Prop} {Post : Pt → Array Value → Option Value → Pt → Prop} {PostX : Pt → Array Value → Addr → Pt → Prop} (hK : vx_Back l R p e below s args y 3 W9 Pre Post PostX)
    {b : Addr} {cellB : Cell} (hcell : T.heap[b]? = some cellB) (hobj : cellB.vm.isStatics = false) (hcls : s.vm.findClass C = some cellB.cls)
    {g : JFrame} (hg : g.method = m) (hsize : g.locals.size = c.maxLocals) {argsL rest : List Value} (hlen : ∀ sig, parseMethodDescriptor y.desc = some sig → argsL.length = sig.parameters.length)
    (hstack : g.stack = argsL.reverse ++ .ref b :: rest) (hW : 2 * g.monitorRoom + (rest.map fun v => v.category).sum ≤ W9) (hdg : decode c.code g.pc = .ok (.invokevirtual index, 3))
    (hpre : ∀ vm₁, s.WarmedH vm₁ → Pre ⟨T.setVm vm₁, locs, cells, slots⟩ (Value.ref b :: argsL).toArray) :
    (∃ (v : Option Value) (vm₁ : Vm) (B : Pt), s.WarmedH vm₁ ∧ Stand p l e R s m args below meth c B.U B.locs B.cells B.slots ∧ Post ⟨T.setVm vm₁, locs, cells, slots⟩ (Value.ref b :: argsL).toArray v B ∧
      ∀ target, Steps p.tables e below (B.U.setTop { g with pc := g.pc + 3, stack := v.toList ++ rest }) target → Steps p.tables e below (T.setTop g) target) ∨
    (∃ (q : Addr) (vm₁ : Vm) (B : Pt), s.WarmedH vm₁ ∧ Stand p l e R s m args below meth c B.U B.locs B.cells B.slots ∧ PostX ⟨T.setVm vm₁, locs, cells, slots⟩ (Value.ref b :: argsL).toArray q B ∧
      Steps p.tables e below (T.setTop g) ((B.U.setTop { g with stack := rest }).pushFrame (.throwing q))) := by
  obtain ⟨mk, methM, hnamed, hmethM, hstM, habM⟩ := Cond.instanceMethod_spec hinst
  obtain ⟨m8, methM', cM, hn8, hmethM', -, -, -, -, -, -, hsigM⟩ := Cond.codeWith_spec hcode
  cases Option.some.inj (hn8.symm.trans hnamed)
  cases hmethM.symm.trans hmethM'
  obtain ⟨c2, r2, m2, q1, q2, q3, q4, kP, hkP, hkPi⟩ := Cond.selects_spec hsel
  cases hcls.symm.trans q1
  cases (State.methodFound?_of_named hnamed hy).symm.trans q2
  cases hnamed.symm.trans q3
  have hselP : selectMethod e.platform s.vm cellB.cls mk = .method mk := by rw [Launch.admits_selectMethod X.admits]; exact q4
  obtain ⟨vm₁, X₁, hstep₁⟩ := X.invokevirtual hexec hown hlink hnamed hmethM hstM hkP hkPi hy (a := b) (cell := cellB) hcell
    (fun z h => by rw [h] at hobj; cases hobj) hselP hmethM habM hkP hkPi (g := g) hg (argsL := argsL) (rest := rest) (hlen _ hsigM) hstack hdg
  rcases hK m meth c ⟨T.setVm vm₁, locs, cells, slots⟩ { g with stack := rest } (.invokevirtual index) mk (Value.ref b :: argsL).toArray X₁ hg hsize hdg hW (X₁.named hnamed) (hpre vm₁ X₁.warmed) with ⟨v, B, X', hpost, hsteps⟩ | ⟨q, B, X', hpost, hsteps⟩
  · exact Or.inl ⟨v, vm₁, B, X₁.warmed, X', hpost, fun target h => hstep₁ _ fun acts => by rw [doInvoke_state]; exact hsteps.trans h⟩
  · exact Or.inr ⟨q, vm₁, B, X₁.warmed, X', hpost, hstep₁ _ fun acts => by rw [doInvoke_state]; exact hsteps⟩
theorem vx_callSX (X : Stand p l e R s m args below meth c T locs cells slots) (hexec : p.tables.exec = Jvm.exec) {own : String} {index : Nat} {y : MethodName} {bytes : ByteArray} {maxL : Nat} {ret : Option FieldType} {hh : List (Nat × Nat × Nat × Nat)}
    (hown : s.vm.findClass own = some m.cls) (hlink : (Cond.methodLink own index y).before args s = true) (hstat : (Cond.static y).before args s = true) (hinit : (Cond.initialized y.cls).before args s = true)
    (hcode : (Cond.codeWith y bytes maxL ret hh).before args s = true) (hy : y.cls ≠ "java/lang/invoke/MethodHandle" ∧ y.cls ≠ "java/lang/invoke/VarHandle")
    {W9 : Nat} {Pre : Pt → Array Value → Prop} {Post : Pt → Array Value → Option Value → Pt → Prop} {PostX : Pt → Array Value → Addr → Pt → Prop} (hK : vx_Back l R p e below s args y 3 W9 Pre Post PostX)
    {g : JFrame} (hg : g.method = m) (hsize : g.locals.size = c.maxLocals) {argsL rest : List Value} (hlen : ∀ sig, parseMethodDescriptor y.desc = some sig → argsL.length = sig.parameters.length)
    (hstack : g.stack = argsL.reverse ++ rest) (hW : 2 * g.monitorRoom + (rest.map fun v => v.category).sum ≤ W9) (hdg : decode c.code g.pc = .ok (.invokestatic index, 3))
    (hpre : ∀ vm₁, s.WarmedH vm₁ → Pre ⟨T.setVm vm₁, locs, cells, slots⟩ argsL.toArray) :
    (∃ (v : Option Value) (vm₁ : Vm) (B : Pt), s.WarmedH vm₁ ∧ Stand p l e R s m args below meth c B.U B.locs B.cells B.slots ∧ Post ⟨T.setVm vm₁, locs, cells, slots⟩ argsL.toArray v B ∧
      ∀ target, Steps p.tables e below (B.U.setTop { g with pc := g.pc + 3, stack := v.toList ++ rest }) target → Steps p.tables e below (T.setTop g) target) ∨
    (∃ (q : Addr) (vm₁ : Vm) (B : Pt), s.WarmedH vm₁ ∧ Stand p l e R s m args below meth c B.U B.locs B.cells B.slots ∧ PostX ⟨T.setVm vm₁, locs, cells, slots⟩ argsL.toArray q B ∧
      Steps p.tables e below (T.setTop g) ((B.U.setTop { g with stack := rest }).pushFrame (.throwing q))) := by
  obtain ⟨mk, methM, cM, hnamed, hmethM, -, -, -, -, -, -, hsigM⟩ := Cond.codeWith_spec hcode
  have hstatic : methM.isStatic = true := Cond.static_spec hnamed hmethM hstat
  obtain ⟨kP, hkP, -⟩ := className_of_methodNamed hnamed
  have hinitP : kP.init = .initialized := Cond.initialized_spec (findClass_of_methodNamed hnamed) hkP hinit
  obtain ⟨vm₁, X₁, hstep₁⟩ := X.invokestatic hexec hown hlink hnamed hmethM hstatic hkP hinitP hy (g := g) hg (argsL := argsL) (rest := rest) (hlen _ hsigM) hstack hdg
  rcases hK m meth c ⟨T.setVm vm₁, locs, cells, slots⟩ { g with stack := rest } (.invokestatic index) mk argsL.toArray X₁ hg hsize hdg hW (X₁.named hnamed) (hpre vm₁ X₁.warmed) with ⟨v, B, X', hpost, hsteps⟩ | ⟨q, B, X', hpost, hsteps⟩
  · exact Or.inl ⟨v, vm₁, B, X₁.warmed, X', hpost, fun target h => hstep₁ _ fun acts => by rw [doInvoke_state]; exact hsteps.trans h⟩
  · exact Or.inr ⟨q, vm₁, B, X₁.warmed, X', hpost, hstep₁ _ fun acts => by rw [doInvoke_state]; exact hsteps⟩
theorem vx_callVW (X : Stand p l e R s m args below meth c T locs cells slots) (hexec : p.tables.exec = Jvm.exec) {own C : String} {index : Nat} {y : MethodName} {bytes : ByteArray} {maxL : Nat} {ret : Option FieldType} {hh : List (Nat × Nat × Nat × Nat)}
    (hown : s.vm.findClass own = some m.cls) (hlink : (Cond.methodLink own index y).before args s = true) (hinst : (Cond.instanceMethod y).before args s = true) (hsel : (Cond.selects C y y).before args s = true)
    (hcode : (Cond.codeWith y bytes maxL ret hh).before args s = true) (hy : y.cls ≠ "java/lang/invoke/MethodHandle" ∧ y.cls ≠ "java/lang/invoke/VarHandle")
    {W9 : Nat} {Pre : Pt → Array Value → Prop} {Post : Pt → Array Value → Option Value → Pt → Prop} (hK : Back l R p e below s args y 3 W9 Pre Post)
    {b : Addr} {cellB : Cell} (hcell : T.heap[b]? = some cellB) (hobj : cellB.vm.isStatics = false) (hcls : s.vm.findClass C = some cellB.cls)
    {g : JFrame} (hg : g.method = m) (hsize : g.locals.size = c.maxLocals) {argsL rest : List Value} (hlen : ∀ sig, parseMethodDescriptor y.desc = some sig → argsL.length = sig.parameters.length)
    (hstack : g.stack = argsL.reverse ++ .ref b :: rest) (hW : 2 * g.monitorRoom + (rest.map fun v => v.category).sum ≤ W9) (hdg : decode c.code g.pc = .ok (.invokevirtual index, 3))
    (hpre : ∀ vm₁, s.WarmedH vm₁ → Pre ⟨T.setVm vm₁, locs, cells, slots⟩ (Value.ref b :: argsL).toArray) :
    ∃ (v : Option Value) (vm₁ : Vm) (B : Pt), s.WarmedH vm₁ ∧ Stand p l e R s m args below meth c B.U B.locs B.cells B.slots ∧ Post ⟨T.setVm vm₁, locs, cells, slots⟩ (Value.ref b :: argsL).toArray v B ∧
      ∀ target, Steps p.tables e below (B.U.setTop { g with pc := g.pc + 3, stack := v.toList ++ rest }) target → Steps p.tables e below (T.setTop g) target := by
  obtain ⟨mk, methM, hnamed, hmethM, hstM, habM⟩ := Cond.instanceMethod_spec hinst
  obtain ⟨m8, methM', cM, hn8, hmethM', -, -, -, -, -, -, hsigM⟩ := Cond.codeWith_spec hcode
  cases Option.some.inj (hn8.symm.trans hnamed)
  cases hmethM.symm.trans hmethM'
  obtain ⟨c2, r2, m2, q1, q2, q3, q4, kP, hkP, hkPi⟩ := Cond.selects_spec hsel
  cases hcls.symm.trans q1
  cases (State.methodFound?_of_named hnamed hy).symm.trans q2
  cases hnamed.symm.trans q3
  have hselP : selectMethod e.platform s.vm cellB.cls mk = .method mk := by rw [Launch.admits_selectMethod X.admits]; exact q4
  obtain ⟨vm₁, X₁, hstep₁⟩ := X.invokevirtual hexec hown hlink hnamed hmethM hstM hkP hkPi hy (a := b) (cell := cellB) hcell
    (fun z h => by rw [h] at hobj; cases hobj) hselP hmethM habM hkP hkPi (g := g) hg (argsL := argsL) (rest := rest) (hlen _ hsigM) hstack hdg
  obtain ⟨v, B, X', hpost, hsteps⟩ := hK m meth c ⟨T.setVm vm₁, locs, cells, slots⟩ { g with stack := rest } (.invokevirtual index) mk (Value.ref b :: argsL).toArray X₁ hg hsize hdg hW (X₁.named hnamed) (hpre vm₁ X₁.warmed)
  exact ⟨v, vm₁, B, X₁.warmed, X', hpost, fun target h => hstep₁ _ fun acts => by rw [doInvoke_state]; exact hsteps.trans h⟩
abbrev vx_CVW (R : Room) (s : State) (args : Array Value) (own C : String) (index : Nat) (y : MethodName) (bytes : ByteArray) (maxL : Nat) (ret : Option FieldType) (hh : List (Nat × Nat × Nat × Nat)) (ws : List Cond) (rm : Room) (mc ms n : Nat) : Prop :=
  (rm.cells = mc ∧ rm.slots = ms ∧ rm.frames + 1 ≤ R.frames ∧ 8 + (maxL + 11) + rm.locals ≤ R.locals ∧ (∀ w ∈ ws, ∀ (a' : Array Value) (U : State), s.WarmedH U.vm → w.before a' U = true) ∧ Cond.codeWith y bytes maxL ret hh ∈ ws) ∧
  (Cond.codeWith y bytes maxL ret hh).before args s = true ∧ (Cond.initialized y.cls).before args s = true ∧ (y.cls ≠ "java/lang/invoke/MethodHandle" ∧ y.cls ≠ "java/lang/invoke/VarHandle") ∧
  (∀ sig, parseMethodDescriptor y.desc = some sig → n = sig.parameters.length) ∧ (Cond.methodLink own index y).before args s = true ∧ (Cond.instanceMethod y).before args s = true ∧ (Cond.selects C y y).before args s = true
theorem vx_cwVW {own C : String} {index maxL mc ms : Nat} {y : MethodName} {bytes : ByteArray} {ret : Option FieldType} {hh : List (Nat × Nat × Nat × Nat)} {Ts ws ws' : List Cond} {rm : Room} (n : Nat) (ht : ∀ w ∈ Ts, w.before args s = true) (hT : GoodIn Ts (wsV own index C y ws)) (hw : ws = Cond.codeWith y bytes maxL ret hh :: ws') (hrc : rm.cells = mc) (hrs : rm.slots = ms)
    (hd : y.cls = C ∧ y.cls ≠ "java/lang/invoke/MethodHandle" ∧ y.cls ≠ "java/lang/invoke/VarHandle" ∧ (parseMethodDescriptor y.desc).map (fun d => d.parameters.length) = some n) (hR : rm.frames + 1 ≤ R.frames ∧ 8 + (maxL + 11) + rm.locals ≤ R.locals) :
    vx_CVW R s args own C index y bytes maxL ret hh ws rm mc ms n := by
  obtain ⟨hC, hd⟩ := hd
  subst hC
  have ok : ∀ w ∈ wsV own index y.cls y ws, w.before args s = true := fun w h => ht w (hT w h).1
  have hG : GoodIn Ts ws := fun w h => hT w (by unfold wsV; exact List.mem_append_right _ h)
  have hc : Cond.codeWith y bytes maxL ret hh ∈ ws := by rw [hw]; exact List.mem_cons_self
  refine ⟨⟨hrc, hrs, hR.1, hR.2, pay_in ht hG, hc⟩, ht _ (hG _ hc).1, ok _ (by simp [wsV]), ⟨hd.1, hd.2.1⟩, fun sig h => ?_, ok _ (by simp [wsV]), ok _ (by simp [wsV]), ok _ (by simp [wsV])⟩
  have h2 := hd.2.2
  rw [h] at h2
  exact (Option.some.inj h2).symm
theorem vx_runVW {y : MethodName} {bytes cc : ByteArray} {maxL nL mc ms n index : Nat} {ret : Option FieldType} {hh : List (Nat × Nat × Nat × Nat)} {ws : List Cond} {rm : Room} {Pc : Array Value → State → Prop} {Qc : Array Value → State → Outcome → State → Prop} {free : Addr → Prop} {Ts : List Cond} {own C : String} {b : Addr} {As rest : List Value} {g : JFrame}
    (S : CallFix p m c cc nL s args Ts own) (hM : Met l y ws rm Pc Qc mc ms free) (cw : vx_CVW R s args own C index y bytes maxL ret hh ws rm mc ms n) (hp : PreV s H C b Pc As)
    (hg : g.method = m) (hn : As.length = n) (hsize : g.locals.size = nL) (hstack : g.stack = As.reverse ++ .ref b :: rest) (hW : 2 * g.monitorRoom + (rest.map fun v => v.category).sum ≤ 8) (hdg : decode cc g.pc = .ok (.invokevirtual index, 3)) (hf : cells + mc ≤ R.cells ∧ slots + ms ≤ R.slots) :
    va_Run p l e R s m args below meth c H locs cells slots mc ms g rest (Qc (Value.ref b :: As).toArray) free := by
  obtain ⟨⟨hrc, hrs, hfr, hlo, hws, hcw⟩, hcode, hini, hy, hlen, hl, hin, hse⟩ := cw
  have hK : Back l R p e below s args y 3 8 (PreOf R mc ms Pc) (PostOf Qc mc ms free) := va_backW (hh := hh) (bytes := bytes) (maxL := maxL) (ret := ret) hM hp.1 hrc hrs hfr hlo hws hcw (fun a' U hW => word_at hW (Or.inl (by first | rfl | simp [Cond.onTables, Cond.keeps, Cond.steady])) hini)
  obtain ⟨hx, hb, hml, ho, -⟩ := S
  obtain ⟨-, ⟨cellB, hcB, hoB, hclB⟩, hPc⟩ := hp
  intro T hT X
  obtain ⟨v, vm₁, ⟨U', l2, c2, s2⟩, hW₁, X', ⟨g', mk, t, L, e1, e2, hq, h1, hL, h2, h3⟩, st⟩ := vx_callVW X hx (C := C) (hh := hh) (bytes := bytes) (maxL := maxL) (ret := ret) ho hl hin hse hcode hy hK (by rw [hT]; exact hcB) hoB hclB hg (hsize.trans hml.symm) (argsL := As) (rest := rest) (fun sig h => hn.trans (hlen sig h)) hstack hW (by rw [hb]; exact hdg)
    (fun vm₁ hW₁ => ⟨hf.1, hf.2, hPc (T.setVm vm₁) hT hW₁⟩)
  dsimp only [Pt.U, Pt.locs, Pt.cells, Pt.slots] at X' e1 e2 h1 h2 h3 st
  subst h1; subst h2; subst h3
  exact ⟨v, (T.setVm vm₁).calling g' mk (Value.ref b :: As).toArray, t, U', L, hT, X', hL, e1, e2, hq, st⟩
section
variable {y : MethodName} {bytes cc : ByteArray} {maxL nL mc ms n index : Nat} {ret : Option FieldType} {ws : List Cond} {rm : Room} {Pc : Array Value → State → Prop} {Qc : Array Value → State → Outcome → State → Prop} {XC : String → State → State → Prop} {free : Addr → Prop} {Ts : List Cond} {own C : String} {b : Addr} {As rest : List Value} {g : JFrame}
theorem vx_runVX {hh : List (Nat × Nat × Nat × Nat)} (S : CallFix p m c cc nL s args Ts own) (hM : vx_Met l y ws rm Pc Qc XC mc ms free) (cw : vx_CVW R s args own C index y bytes maxL ret hh ws rm mc ms n) (hp : PreV s H C b Pc As)
    (hg : g.method = m) (hn : As.length = n) (hsize : g.locals.size = nL) (hstack : g.stack = As.reverse ++ .ref b :: rest) (hW : 2 * g.monitorRoom + (rest.map fun v => v.category).sum ≤ 8) (hdg : decode cc g.pc = .ok (.invokevirtual index, 3)) (hf : cells + mc ≤ R.cells ∧ slots + ms ≤ R.slots) :
    vx_Run p l e R s m args below meth c H locs cells slots mc ms g rest (Qc (Value.ref b :: As).toArray) XC free := by
  obtain ⟨⟨hrc, hrs, hfr, hlo, hws, hcw⟩, hcode, hini, hy, hlen, hl, hin, hse⟩ := cw
  have hK : vx_Back l R p e below s args y 3 8 (PreOf R mc ms Pc) (PostOf Qc mc ms free) (vx_Post XC mc ms free) := vx_backW (hh := hh) (bytes := bytes) (maxL := maxL) (ret := ret) hM hp.1 hrc hrs hfr hlo hws hcw (fun a' U hW => word_at hW (Or.inl (by first | rfl | simp [Cond.onTables, Cond.keeps, Cond.steady])) hini)
  obtain ⟨hx, hb, hml, ho, -⟩ := S
  obtain ⟨-, ⟨cellB, hcB, hoB, hclB⟩, hPc⟩ := hp
  intro T hT X
  rcases vx_callVX X hx (C := C) (hh := hh) (bytes := bytes) (maxL := maxL) (ret := ret) ho hl hin hse hcode hy hK (by rw [hT]; exact hcB) hoB hclB hg (hsize.trans hml.symm) (argsL := As) (rest := rest) (fun sig h => hn.trans (hlen sig h)) hstack hW (by rw [hb]; exact hdg)
    (fun vm₁ hW₁ => ⟨hf.1, hf.2, hPc (T.setVm vm₁) hT hW₁⟩) with ⟨v, vm₁, ⟨U', l2, c2, s2⟩, hW₁, X', ⟨g', mk, t, L, e1, e2, hq, h1, hL, h2, h3⟩, st⟩ | ⟨q, vm₁, ⟨U', l2, c2, s2⟩, hW₁, X', ⟨g', mk, t, L, E, ce, e1, e2, hq, hce, hcv, hcl, h1, hL, h2, h3⟩, st⟩
  · dsimp only [Pt.U, Pt.locs, Pt.cells, Pt.slots] at X' e1 e2 h1 h2 h3 st
    subst h1; subst h2; subst h3
    exact Or.inl ⟨v, (T.setVm vm₁).calling g' mk (Value.ref b :: As).toArray, t, U', L, hT, X', hL, e1, e2, hq, st⟩
  · dsimp only [Pt.U, Pt.locs, Pt.cells, Pt.slots] at X' e1 e2 h1 h2 h3 st hcl
    subst h1; subst h2; subst h3
    exact Or.inr ⟨q, (T.setVm vm₁).calling g' mk (Value.ref b :: As).toArray, t, U', L, E, ce, hT, X', hL, e1, e2, hq, hce, hcv, vx_cls hW₁ hcl, st⟩
theorem vx_runSX {hh : List (Nat × Nat × Nat × Nat)} (S : CallFix p m c cc nL s args Ts own) (hM : vx_Met l y ws rm Pc Qc XC mc ms free) (cw : vx_CSW R s args own index y bytes maxL ret hh ws rm mc ms n) (hp : PreS s H Pc As)
    (hg : g.method = m) (hn : As.length = n) (hsize : g.locals.size = nL) (hstack : g.stack = As.reverse ++ rest) (hW : 2 * g.monitorRoom + (rest.map fun v => v.category).sum ≤ 8) (hdg : decode cc g.pc = .ok (.invokestatic index, 3)) (hf : cells + mc ≤ R.cells ∧ slots + ms ≤ R.slots) :
    vx_Run p l e R s m args below meth c H locs cells slots mc ms g rest (Qc As.toArray) XC free := by
  obtain ⟨⟨hrc, hrs, hfr, hlo, hws, hcw⟩, hcode, hini, hy, hlen, hl, hstt⟩ := cw
  have hK : vx_Back l R p e below s args y 3 8 (PreOf R mc ms Pc) (PostOf Qc mc ms free) (vx_Post XC mc ms free) := vx_backW (hh := hh) (bytes := bytes) (maxL := maxL) (ret := ret) hM hp.1 hrc hrs hfr hlo hws hcw (fun a' U hW => word_at hW (Or.inl (by first | rfl | simp [Cond.onTables, Cond.keeps, Cond.steady])) hini)
  obtain ⟨hx, hb, hml, ho, -⟩ := S
  intro T hT X
  rcases vx_callSX X hx (hh := hh) (bytes := bytes) (maxL := maxL) (ret := ret) ho hl hstt hini hcode hy hK hg (hsize.trans hml.symm) (argsL := As) (rest := rest) (fun sig h => hn.trans (hlen sig h)) hstack hW (by rw [hb]; exact hdg)
    (fun vm₁ hW₁ => ⟨hf.1, hf.2, hp.2 (T.setVm vm₁) hT hW₁⟩) with ⟨v, vm₁, ⟨U', l2, c2, s2⟩, hW₁, X', ⟨g', mk, t, L, e1, e2, hq, h1, hL, h2, h3⟩, st⟩ | ⟨q, vm₁, ⟨U', l2, c2, s2⟩, hW₁, X', ⟨g', mk, t, L, E, ce, e1, e2, hq, hce, hcv, hcl, h1, hL, h2, h3⟩, st⟩
  · dsimp only [Pt.U, Pt.locs, Pt.cells, Pt.slots] at X' e1 e2 h1 h2 h3 st
    subst h1; subst h2; subst h3
    exact Or.inl ⟨v, (T.setVm vm₁).calling g' mk As.toArray, t, U', L, hT, X', hL, e1, e2, hq, st⟩
  · dsimp only [Pt.U, Pt.locs, Pt.cells, Pt.slots] at X' e1 e2 h1 h2 h3 st hcl
    subst h1; subst h2; subst h3
    exact Or.inr ⟨q, (T.setVm vm₁).calling g' mk As.toArray, t, U', L, E, ce, hT, X', hL, e1, e2, hq, hce, hcv, vx_cls hW₁ hcl, st⟩
end
end VXH
theorem vx_ofWH {l : Launch} {y : MethodName} {ws ws' : List Cond} {rm : Room} {Pc : Array Value → State → Prop} {Qc : Array Value → State → Outcome → State → Prop} {XC : String → State → State → Prop} {mc ms : Nat} {free : Addr → Prop} {cc : ByteArray} {maxL : Nat} {ret : Option FieldType} {hh : List (Nat × Nat × Nat × Nat)}
    (hy : plainName y.cls = true) (hw : ws = Cond.codeWith y cc maxL ret hh :: ws')
    (body : ∀ p e s m args below meth c s₁, BodyLoose p l y (headSpec ws rm) cc maxL ret e s m args below meth c s₁ → c.maxLocals = maxL → Pc args s →
      W p l e (headSpec ws rm).room s m args below meth c s.heap [] 0 0 (vx_MQ below Qc XC args s mc ms free) (entryFrame m args maxL)) : vx_Met l y ws rm Pc Qc XC mc ms free := by
  refine MetFree.of_bodyS (code := cc) (maxLocals := maxL) (ret := ret) hy ?_ ?_
  · intro args s m h hn
    obtain ⟨m9, meth, c, hn9, h1, h2, h3, h4, -, h5, h6, -⟩ := Cond.codeWith_spec (atoms_spec (ws := ws) h _ (by rw [hw]; exact List.mem_cons_self))
    cases hn.symm.trans hn9
    exact ⟨meth, c, h1, h2, h3, h4, h5, h6⟩
  · intro p e s m args below meth c s₁ B hml hP _
    have hh0 : s₁.heap = s.heap := by rw [B.state]; rfl
    obtain ⟨t, a1, o, b1, b2, b3⟩ := body p e s m args below meth c s₁ B hml hP s₁ hh0 (Stand.of_body B)
    exact ⟨t, o, a1, b1, b2, b3⟩
/-! ===== END ===== -/

def RX0 : String := "BellHush"
def TX0 : u_T := fun k => match k with
  | 0 => ("BellHush", "loudness", "[I", true)
  | 1 => ("BellHush", "period", "[I", true)
  | 2 => ("BellHush", "silence", "[I", true)
  | 3 => ("BellHush", "untilStroke", "[I", true)
  | 4 => ("BellHush", "strokes", "[I", true)
  | 5 => ("BellHush", "purse", "[I", true)
  | 6 => ("BellHush", "held", "[[I", true)
  | 7 => ("BellHush", "second", "I", false)
  | 8 => ("BellHush", "towerCount", "I", false)
  | _ => ("BellHush", "traderCount", "I", false)
def tyX0 : Nat → FieldType := fun k => match k with
  | 0 => .array .int
  | 1 => .array .int
  | 2 => .array .int
  | 3 => .array .int
  | 4 => .array .int
  | 5 => .array .int
  | 6 => .array (.array .int)
  | 7 => .int
  | 8 => .int
  | _ => .int
abbrev wsX00 : List Cond := u_ws RX0 TX0 10
theorem nmX0 : ∀ a, a < 10 → ∀ b, b < 10 → a ≠ b → (TX0 a).2.1 ≠ (TX0 b).2.1 := by decide +kernel
theorem tyX0_ok : ∀ k, k < 10 → parseFieldDescriptor (TX0 k).2.2.1 = some (tyX0 k) := by decide +kernel
abbrev cX0_init : ByteArray := prog_1_method_1_code
def yX0_init : MethodName := ⟨RX0, "<init>", "()V"⟩
abbrev cX0_list : ByteArray := prog_1_method_2_code
def yX0_list : MethodName := ⟨RX0, "list", "(III)I"⟩
abbrev cX0_addTrader : ByteArray := prog_1_method_3_code
def yX0_addTrader : MethodName := ⟨RX0, "addTrader", "()I"⟩
abbrev cX0_buy : ByteArray := prog_1_method_4_code
def yX0_buy : MethodName := ⟨RX0, "buy", "(III)I"⟩
abbrev cX0_sell : ByteArray := prog_1_method_5_code
def yX0_sell : MethodName := ⟨RX0, "sell", "(III)I"⟩
abbrev cX0_pass : ByteArray := prog_1_method_6_code
def yX0_pass : MethodName := ⟨RX0, "pass", "(I)I"⟩
abbrev cX0_second : ByteArray := prog_1_method_7_code
def yX0_second : MethodName := ⟨RX0, "second", "()I"⟩
abbrev cX0_towers : ByteArray := prog_1_method_8_code
def yX0_towers : MethodName := ⟨RX0, "towers", "()I"⟩
abbrev cX0_silenceOf : ByteArray := prog_1_method_9_code
def yX0_silenceOf : MethodName := ⟨RX0, "silenceOf", "(I)I"⟩
abbrev cX0_dovesOn : ByteArray := prog_1_method_10_code
def yX0_dovesOn : MethodName := ⟨RX0, "dovesOn", "(I)I"⟩
abbrev cX0_priceOf : ByteArray := prog_1_method_11_code
def yX0_priceOf : MethodName := ⟨RX0, "priceOf", "(I)I"⟩
abbrev cX0_secondsUntilStroke : ByteArray := prog_1_method_12_code
def yX0_secondsUntilStroke : MethodName := ⟨RX0, "secondsUntilStroke", "(I)I"⟩
abbrev cX0_strokesOf : ByteArray := prog_1_method_13_code
def yX0_strokesOf : MethodName := ⟨RX0, "strokesOf", "(I)I"⟩
abbrev cX0_openSeconds : ByteArray := prog_1_method_14_code
def yX0_openSeconds : MethodName := ⟨RX0, "openSeconds", "(I)I"⟩
abbrev cX0_dearest : ByteArray := prog_1_method_15_code
def yX0_dearest : MethodName := ⟨RX0, "dearest", "()I"⟩
abbrev cX0_nextToStrike : ByteArray := prog_1_method_16_code
def yX0_nextToStrike : MethodName := ⟨RX0, "nextToStrike", "()I"⟩
abbrev cX0_traders : ByteArray := prog_1_method_17_code
def yX0_traders : MethodName := ⟨RX0, "traders", "()I"⟩
abbrev cX0_purseOf : ByteArray := prog_1_method_18_code
def yX0_purseOf : MethodName := ⟨RX0, "purseOf", "(I)I"⟩
abbrev cX0_holds : ByteArray := prog_1_method_19_code
def yX0_holds : MethodName := ⟨RX0, "holds", "(II)I"⟩
abbrev cX0_worthOf : ByteArray := prog_1_method_20_code
def yX0_worthOf : MethodName := ⟨RX0, "worthOf", "(I)I"⟩
abbrev cX0_richest : ByteArray := prog_1_method_21_code
def yX0_richest : MethodName := ⟨RX0, "richest", "()I"⟩
abbrev cX0_shortsOf : ByteArray := prog_1_method_22_code
def yX0_shortsOf : MethodName := ⟨RX0, "shortsOf", "(I)I"⟩
abbrev cX0_inDebt : ByteArray := prog_1_method_23_code
def yX0_inDebt : MethodName := ⟨RX0, "inDebt", "()I"⟩
abbrev cX0_closingPrice : ByteArray := prog_1_method_24_code
def yX0_closingPrice : MethodName := ⟨RX0, "closingPrice", "(I)I"⟩
abbrev cX0_priceIn : ByteArray := prog_1_method_25_code
def yX0_priceIn : MethodName := ⟨RX0, "priceIn", "(II)I"⟩
abbrev cX0_worthIn : ByteArray := prog_1_method_26_code
def yX0_worthIn : MethodName := ⟨RX0, "worthIn", "(II)I"⟩
abbrev cX0_bestToBuy : ByteArray := prog_1_method_27_code
def yX0_bestToBuy : MethodName := ⟨RX0, "bestToBuy", "()I"⟩
abbrev cX0_bestToSell : ByteArray := prog_1_method_28_code
def yX0_bestToSell : MethodName := ⟨RX0, "bestToSell", "(II)I"⟩
abbrev cX0_secondsUntilDebt : ByteArray := prog_1_method_29_code
def yX0_secondsUntilDebt : MethodName := ⟨RX0, "secondsUntilDebt", "(I)I"⟩
abbrev cX0_meanPrice : ByteArray := prog_1_method_30_code
def yX0_meanPrice : MethodName := ⟨RX0, "meanPrice", "()D"⟩
abbrev cX0_digest : ByteArray := prog_1_method_31_code
def yX0_digest : MethodName := ⟨RX0, "digest", "()J"⟩
abbrev cX0_requireTower : ByteArray := prog_1_method_32_code
def yX0_requireTower : MethodName := ⟨RX0, "requireTower", "(I)V"⟩
abbrev cX0_requireTrader : ByteArray := prog_1_method_33_code
def yX0_requireTrader : MethodName := ⟨RX0, "requireTrader", "(I)V"⟩
abbrev cX0_requireTradable : ByteArray := prog_1_method_34_code
def yX0_requireTradable : MethodName := ⟨RX0, "requireTradable", "(I)V"⟩
abbrev cX0_requirePassable : ByteArray := prog_1_method_35_code
def yX0_requirePassable : MethodName := ⟨RX0, "requirePassable", "(I)V"⟩
abbrev cX0_goOneSecond : ByteArray := prog_1_method_36_code
def yX0_goOneSecond : MethodName := ⟨RX0, "goOneSecond", "()I"⟩
abbrev cX0_strike : ByteArray := prog_1_method_37_code
def yX0_strike : MethodName := ⟨RX0, "strike", "(I)V"⟩
abbrev cX0_price : ByteArray := prog_1_method_38_code
def yX0_price : MethodName := ⟨RX0, "price", "(III)I"⟩
abbrev cX0_dovesNow : ByteArray := prog_1_method_39_code
def yX0_dovesNow : MethodName := ⟨RX0, "dovesNow", "(I)I"⟩
abbrev cX0_dovesFor : ByteArray := prog_1_method_40_code
def yX0_dovesFor : MethodName := ⟨RX0, "dovesFor", "(I)I"⟩
abbrev cX0_priceNow : ByteArray := prog_1_method_41_code
def yX0_priceNow : MethodName := ⟨RX0, "priceNow", "(I)I"⟩
abbrev cX0_closing : ByteArray := prog_1_method_42_code
def yX0_closing : MethodName := ⟨RX0, "closing", "(I)I"⟩
abbrev cX0_closingWith : ByteArray := prog_1_method_43_code
def yX0_closingWith : MethodName := ⟨RX0, "closingWith", "(II)I"⟩
abbrev cX0_riseUntilStroke : ByteArray := prog_1_method_44_code
def yX0_riseUntilStroke : MethodName := ⟨RX0, "riseUntilStroke", "(I)I"⟩
abbrev cX0_priceBehind : ByteArray := prog_1_method_45_code
def yX0_priceBehind : MethodName := ⟨RX0, "priceBehind", "(II)I"⟩
abbrev cX0_heldByAll : ByteArray := prog_1_method_46_code
def yX0_heldByAll : MethodName := ⟨RX0, "heldByAll", "(I)I"⟩
abbrev cX0_shortTowers : ByteArray := prog_1_method_47_code
def yX0_shortTowers : MethodName := ⟨RX0, "shortTowers", "(I)I"⟩
abbrev cX0_worthBehind : ByteArray := prog_1_method_48_code
def yX0_worthBehind : MethodName := ⟨RX0, "worthBehind", "(II)I"⟩
abbrev cX0_closedIn : ByteArray := prog_1_method_49_code
def yX0_closedIn : MethodName := ⟨RX0, "closedIn", "(II)I"⟩
abbrev cX0_yieldOfSelling : ByteArray := prog_1_method_50_code
def yX0_yieldOfSelling : MethodName := ⟨RX0, "yieldOfSelling", "(III)I"⟩
abbrev cX0_mixed : ByteArray := prog_1_method_51_code
def yX0_mixed : MethodName := ⟨RX0, "mixed", "(JI)J"⟩
abbrev cX0_mixedTower : ByteArray := prog_1_method_52_code
def yX0_mixedTower : MethodName := ⟨RX0, "mixedTower", "(JI)J"⟩
abbrev cX0_mixedTrader : ByteArray := prog_1_method_53_code
def yX0_mixedTrader : MethodName := ⟨RX0, "mixedTrader", "(JI)J"⟩
def RX1 : String := "BellHushModel"
def TX1 : u_T := fun k => match k with
  | 0 => ("BellHushModel", "thrown", "I", false)
  | 1 => ("BellHushModel", "towers", "I", false)
  | 2 => ("BellHushModel", "traders", "I", false)
  | 3 => ("BellHushModel", "loud", "[I", true)
  | 4 => ("BellHushModel", "period", "[I", true)
  | 5 => ("BellHushModel", "beat", "[I", true)
  | 6 => ("BellHushModel", "now", "[I", true)
  | _ => ("BellHushModel", "kept", "[I", true)
def tyX1 : Nat → FieldType := fun k => match k with
  | 0 => .int
  | 1 => .int
  | 2 => .int
  | 3 => .array .int
  | 4 => .array .int
  | 5 => .array .int
  | 6 => .array .int
  | _ => .array .int
abbrev wsX10 : List Cond := u_ws RX1 TX1 8
theorem nmX1 : ∀ a, a < 8 → ∀ b, b < 8 → a ≠ b → (TX1 a).2.1 ≠ (TX1 b).2.1 := by decide +kernel
theorem tyX1_ok : ∀ k, k < 8 → parseFieldDescriptor (TX1 k).2.2.1 = some (tyX1 k) := by decide +kernel
abbrev cX1_init : ByteArray := prog_3_method_1_code
def yX1_init : MethodName := ⟨RX1, "<init>", "()V"⟩
abbrev cX1_thrown : ByteArray := prog_3_method_2_code
def yX1_thrown : MethodName := ⟨RX1, "thrown", "()I"⟩
abbrev cX1_fail : ByteArray := prog_3_method_3_code
def yX1_fail : MethodName := ⟨RX1, "fail", "(I)I"⟩
abbrev cX1_told : ByteArray := prog_3_method_4_code
def yX1_told : MethodName := ⟨RX1, "told", "(I)I"⟩
abbrev cX1_isIn : ByteArray := prog_3_method_5_code
def yX1_isIn : MethodName := ⟨RX1, "isIn", "(III)Z"⟩
abbrev cX1_isTower : ByteArray := prog_3_method_6_code
def yX1_isTower : MethodName := ⟨RX1, "isTower", "(I)Z"⟩
abbrev cX1_isTrader : ByteArray := prog_3_method_7_code
def yX1_isTrader : MethodName := ⟨RX1, "isTrader", "(I)Z"⟩
abbrev cX1_keep : ByteArray := prog_3_method_8_code
def yX1_keep : MethodName := ⟨RX1, "keep", "()V"⟩
abbrev cX1_bringBack : ByteArray := prog_3_method_9_code
def yX1_bringBack : MethodName := ⟨RX1, "bringBack", "()V"⟩
abbrev cX1_at : ByteArray := prog_3_method_10_code
def yX1_at : MethodName := ⟨RX1, "at", "(II)I"⟩
abbrev cX1_doves : ByteArray := prog_3_method_11_code
def yX1_doves : MethodName := ⟨RX1, "doves", "(I)I"⟩
abbrev cX1_priceBehind : ByteArray := prog_3_method_12_code
def yX1_priceBehind : MethodName := ⟨RX1, "priceBehind", "(II)I"⟩
abbrev cX1_price : ByteArray := prog_3_method_13_code
def yX1_price : MethodName := ⟨RX1, "price", "(I)I"⟩
abbrev cX1_until : ByteArray := prog_3_method_14_code
def yX1_until : MethodName := ⟨RX1, "until", "(I)I"⟩
abbrev cX1_secondOn : ByteArray := prog_3_method_15_code
def yX1_secondOn : MethodName := ⟨RX1, "secondOn", "()I"⟩
abbrev cX1_secondsOn : ByteArray := prog_3_method_16_code
def yX1_secondsOn : MethodName := ⟨RX1, "secondsOn", "(I)I"⟩
abbrev cX1_list : ByteArray := prog_3_method_17_code
def yX1_list : MethodName := ⟨RX1, "list", "(III)I"⟩
abbrev cX1_addTrader : ByteArray := prog_3_method_18_code
def yX1_addTrader : MethodName := ⟨RX1, "addTrader", "()I"⟩
abbrev cX1_can : ByteArray := prog_3_method_19_code
def yX1_can : MethodName := ⟨RX1, "can", "(III)Z"⟩
abbrev cX1_buy : ByteArray := prog_3_method_20_code
def yX1_buy : MethodName := ⟨RX1, "buy", "(III)I"⟩
abbrev cX1_sold : ByteArray := prog_3_method_21_code
def yX1_sold : MethodName := ⟨RX1, "sold", "(III)I"⟩
abbrev cX1_sell : ByteArray := prog_3_method_22_code
def yX1_sell : MethodName := ⟨RX1, "sell", "(III)I"⟩
abbrev cX1_pass : ByteArray := prog_3_method_23_code
def yX1_pass : MethodName := ⟨RX1, "pass", "(I)I"⟩
abbrev cX1_second : ByteArray := prog_3_method_24_code
def yX1_second : MethodName := ⟨RX1, "second", "()I"⟩
abbrev cX1_towers : ByteArray := prog_3_method_25_code
def yX1_towers : MethodName := ⟨RX1, "towers", "()I"⟩
abbrev cX1_silenceOf : ByteArray := prog_3_method_26_code
def yX1_silenceOf : MethodName := ⟨RX1, "silenceOf", "(I)I"⟩
abbrev cX1_dovesOn : ByteArray := prog_3_method_27_code
def yX1_dovesOn : MethodName := ⟨RX1, "dovesOn", "(I)I"⟩
abbrev cX1_priceOf : ByteArray := prog_3_method_28_code
def yX1_priceOf : MethodName := ⟨RX1, "priceOf", "(I)I"⟩
abbrev cX1_secondsUntilStroke : ByteArray := prog_3_method_29_code
def yX1_secondsUntilStroke : MethodName := ⟨RX1, "secondsUntilStroke", "(I)I"⟩
abbrev cX1_strokesOf : ByteArray := prog_3_method_30_code
def yX1_strokesOf : MethodName := ⟨RX1, "strokesOf", "(I)I"⟩
abbrev cX1_open : ByteArray := prog_3_method_31_code
def yX1_open : MethodName := ⟨RX1, "open", "(I)I"⟩
abbrev cX1_openSeconds : ByteArray := prog_3_method_32_code
def yX1_openSeconds : MethodName := ⟨RX1, "openSeconds", "(I)I"⟩
abbrev cX1_dear : ByteArray := prog_3_method_33_code
def yX1_dear : MethodName := ⟨RX1, "dear", "()I"⟩
abbrev cX1_dearest : ByteArray := prog_3_method_34_code
def yX1_dearest : MethodName := ⟨RX1, "dearest", "()I"⟩
abbrev cX1_next : ByteArray := prog_3_method_35_code
def yX1_next : MethodName := ⟨RX1, "next", "()I"⟩
abbrev cX1_nextToStrike : ByteArray := prog_3_method_36_code
def yX1_nextToStrike : MethodName := ⟨RX1, "nextToStrike", "()I"⟩
abbrev cX1_traders : ByteArray := prog_3_method_37_code
def yX1_traders : MethodName := ⟨RX1, "traders", "()I"⟩
abbrev cX1_purseOf : ByteArray := prog_3_method_38_code
def yX1_purseOf : MethodName := ⟨RX1, "purseOf", "(I)I"⟩
abbrev cX1_holds : ByteArray := prog_3_method_39_code
def yX1_holds : MethodName := ⟨RX1, "holds", "(II)I"⟩
abbrev cX1_worth : ByteArray := prog_3_method_40_code
def yX1_worth : MethodName := ⟨RX1, "worth", "(I)I"⟩
abbrev cX1_worthOf : ByteArray := prog_3_method_41_code
def yX1_worthOf : MethodName := ⟨RX1, "worthOf", "(I)I"⟩
abbrev cX1_rich : ByteArray := prog_3_method_42_code
def yX1_rich : MethodName := ⟨RX1, "rich", "()I"⟩
abbrev cX1_richest : ByteArray := prog_3_method_43_code
def yX1_richest : MethodName := ⟨RX1, "richest", "()I"⟩
abbrev cX1_shorts : ByteArray := prog_3_method_44_code
def yX1_shorts : MethodName := ⟨RX1, "shorts", "(I)I"⟩
abbrev cX1_shortsOf : ByteArray := prog_3_method_45_code
def yX1_shortsOf : MethodName := ⟨RX1, "shortsOf", "(I)I"⟩
abbrev cX1_owing : ByteArray := prog_3_method_46_code
def yX1_owing : MethodName := ⟨RX1, "owing", "()I"⟩
abbrev cX1_inDebt : ByteArray := prog_3_method_47_code
def yX1_inDebt : MethodName := ⟨RX1, "inDebt", "()I"⟩
abbrev cX1_closing : ByteArray := prog_3_method_48_code
def yX1_closing : MethodName := ⟨RX1, "closing", "(I)I"⟩
abbrev cX1_closingPrice : ByteArray := prog_3_method_49_code
def yX1_closingPrice : MethodName := ⟨RX1, "closingPrice", "(I)I"⟩
abbrev cX1_priceIn : ByteArray := prog_3_method_50_code
def yX1_priceIn : MethodName := ⟨RX1, "priceIn", "(II)I"⟩
abbrev cX1_worthIn : ByteArray := prog_3_method_51_code
def yX1_worthIn : MethodName := ⟨RX1, "worthIn", "(II)I"⟩
abbrev cX1_toBuy : ByteArray := prog_3_method_52_code
def yX1_toBuy : MethodName := ⟨RX1, "toBuy", "()I"⟩
abbrev cX1_bestToBuy : ByteArray := prog_3_method_53_code
def yX1_bestToBuy : MethodName := ⟨RX1, "bestToBuy", "()I"⟩
abbrev cX1_bestToSell : ByteArray := prog_3_method_54_code
def yX1_bestToSell : MethodName := ⟨RX1, "bestToSell", "(II)I"⟩
abbrev cX1_secondsUntilDebt : ByteArray := prog_3_method_55_code
def yX1_secondsUntilDebt : MethodName := ⟨RX1, "secondsUntilDebt", "(I)I"⟩
abbrev cX1_meanPrice : ByteArray := prog_3_method_56_code
def yX1_meanPrice : MethodName := ⟨RX1, "meanPrice", "()D"⟩
abbrev cX1_digest : ByteArray := prog_3_method_57_code
def yX1_digest : MethodName := ⟨RX1, "digest", "()J"⟩
def RJ9 : String := "java/lang/Math"
def TJ9 : u_T := fun k => match k with
  | _ => ("", "", "", false)
def tyJ9 : Nat → FieldType := fun k => match k with
  | _ => .int
abbrev wsJ90 : List Cond := u_ws RJ9 TJ9 0
theorem nmJ9 : ∀ a, a < 0 → ∀ b, b < 0 → a ≠ b → (TJ9 a).2.1 ≠ (TJ9 b).2.1 := by decide +kernel
theorem tyJ9_ok : ∀ k, k < 0 → parseFieldDescriptor (TJ9 k).2.2.1 = some (tyJ9 k) := by decide +kernel
abbrev cJ9_floorMod_7cf53 : ByteArray := prog_8_method_50_code
def yJ9_floorMod_7cf53 : MethodName := ⟨RJ9, "floorMod", "(II)I"⟩
abbrev cJ9_max_7cf53 : ByteArray := prog_8_method_65_code
def yJ9_max_7cf53 : MethodName := ⟨RJ9, "max", "(II)I"⟩
abbrev cJ9_min_7cf53 : ByteArray := prog_8_method_69_code
def yJ9_min_7cf53 : MethodName := ⟨RJ9, "min", "(II)I"⟩
def RJ0 : String := "java/lang/String"
def TJ0 : u_T := fun k => match k with
  | _ => ("", "", "", false)
def tyJ0 : Nat → FieldType := fun k => match k with
  | _ => .int
abbrev wsJ00 : List Cond := u_ws RJ0 TJ0 0
theorem nmJ0 : ∀ a, a < 0 → ∀ b, b < 0 → a ≠ b → (TJ0 a).2.1 ≠ (TJ0 b).2.1 := by decide +kernel
theorem tyJ0_ok : ∀ k, k < 0 → parseFieldDescriptor (TJ0 k).2.2.1 = some (tyJ0 k) := by decide +kernel
def RJ10 : String := "java/lang/System"
def TJ10 : u_T := fun k => match k with
  | _ => ("", "", "", false)
def tyJ10 : Nat → FieldType := fun k => match k with
  | _ => .int
abbrev wsJ100 : List Cond := u_ws RJ10 TJ10 0
theorem nmJ10 : ∀ a, a < 0 → ∀ b, b < 0 → a ≠ b → (TJ10 a).2.1 ≠ (TJ10 b).2.1 := by decide +kernel
theorem tyJ10_ok : ∀ k, k < 0 → parseFieldDescriptor (TJ10 k).2.2.1 = some (tyJ10 k) := by decide +kernel
def RL : String := "BellHushLaw"
abbrev cL_list : ByteArray := method_3_code
def yL_list : MethodName := ⟨RL, "list", "(LBellHush;III[J)I"⟩
abbrev cL_addTrader : ByteArray := method_4_code
def yL_addTrader : MethodName := ⟨RL, "addTrader", "(LBellHush;[J)I"⟩
abbrev cL_buy : ByteArray := method_5_code
def yL_buy : MethodName := ⟨RL, "buy", "(LBellHush;III[J)I"⟩
abbrev cL_sell : ByteArray := method_6_code
def yL_sell : MethodName := ⟨RL, "sell", "(LBellHush;III[J)I"⟩
abbrev cL_pass : ByteArray := method_7_code
def yL_pass : MethodName := ⟨RL, "pass", "(LBellHush;I[J)I"⟩
abbrev cL_silenceOf : ByteArray := method_8_code
def yL_silenceOf : MethodName := ⟨RL, "silenceOf", "(LBellHush;I[J)I"⟩
abbrev cL_dovesOn : ByteArray := method_9_code
def yL_dovesOn : MethodName := ⟨RL, "dovesOn", "(LBellHush;I[J)I"⟩
abbrev cL_priceOf : ByteArray := method_10_code
def yL_priceOf : MethodName := ⟨RL, "priceOf", "(LBellHush;I[J)I"⟩
abbrev cL_secondsUntilStroke : ByteArray := method_11_code
def yL_secondsUntilStroke : MethodName := ⟨RL, "secondsUntilStroke", "(LBellHush;I[J)I"⟩
abbrev cL_strokesOf : ByteArray := method_12_code
def yL_strokesOf : MethodName := ⟨RL, "strokesOf", "(LBellHush;I[J)I"⟩
abbrev cL_openSeconds : ByteArray := method_13_code
def yL_openSeconds : MethodName := ⟨RL, "openSeconds", "(LBellHush;I[J)I"⟩
abbrev cL_purseOf : ByteArray := method_14_code
def yL_purseOf : MethodName := ⟨RL, "purseOf", "(LBellHush;I[J)I"⟩
abbrev cL_holds : ByteArray := method_15_code
def yL_holds : MethodName := ⟨RL, "holds", "(LBellHush;II[J)I"⟩
abbrev cL_worthOf : ByteArray := method_16_code
def yL_worthOf : MethodName := ⟨RL, "worthOf", "(LBellHush;I[J)I"⟩
abbrev cL_shortsOf : ByteArray := method_17_code
def yL_shortsOf : MethodName := ⟨RL, "shortsOf", "(LBellHush;I[J)I"⟩
abbrev cL_closingPrice : ByteArray := method_18_code
def yL_closingPrice : MethodName := ⟨RL, "closingPrice", "(LBellHush;I[J)I"⟩
abbrev cL_priceIn : ByteArray := method_19_code
def yL_priceIn : MethodName := ⟨RL, "priceIn", "(LBellHush;II[J)I"⟩
abbrev cL_worthIn : ByteArray := method_20_code
def yL_worthIn : MethodName := ⟨RL, "worthIn", "(LBellHush;II[J)I"⟩
abbrev cL_bestToSell : ByteArray := method_21_code
def yL_bestToSell : MethodName := ⟨RL, "bestToSell", "(LBellHush;II[J)I"⟩
abbrev cL_secondsUntilDebt : ByteArray := method_22_code
def yL_secondsUntilDebt : MethodName := ⟨RL, "secondsUntilDebt", "(LBellHush;I[J)I"⟩
abbrev cL_law : ByteArray := code
def yL_law : MethodName := ⟨RL, "law", "([I)Z"⟩
def wsL_law0_r1 : List Cond := [Cond.classLink RL 8 RX0, Cond.instantiable RX0 10, Cond.initialized RX0, Cond.classLink RL 80 RX1, Cond.instantiable RX1 8, Cond.initialized RX1, Cond.arrayClass .long, Cond.methodLink RL 79 yX0_init, Cond.instanceMethod yX0_init, Cond.code yX0_init cX0_init 1 none, Cond.methodLink RX0 1 objectInit, Cond.instanceMethod objectInit, Cond.code objectInit ⟨#[0xb1]⟩ 1 none, Cond.arrayClass .int, Cond.fieldLink RX0 9 "BellHush" "loudness" "[I", Cond.fieldLink RX0 13 "BellHush" "period" "[I", Cond.fieldLink RX0 16 "BellHush" "silence" "[I", Cond.fieldLink RX0 19 "BellHush" "untilStroke" "[I", Cond.fieldLink RX0 22 "BellHush" "strokes" "[I", Cond.fieldLink RX0 25 "BellHush" "purse" "[I", Cond.classLink RX0 28 "[[I", Cond.fieldLink RX0 30 "BellHush" "held" "[[I", Cond.methodLink RL 82 yX1_init, Cond.instanceMethod yX1_init]
def wsL_law0_r2 : List Cond := [Cond.code yX1_init cX1_init 1 none, Cond.methodLink RX1 1 objectInit, Cond.fieldLink RX1 9 "BellHushModel" "loud" "[I", Cond.fieldLink RX1 13 "BellHushModel" "period" "[I", Cond.fieldLink RX1 16 "BellHushModel" "beat" "[I", Cond.fieldLink RX1 19 "BellHushModel" "now" "[I", Cond.fieldLink RX1 22 "BellHushModel" "kept" "[I", Cond.methodLink RL 83 yL_list, Cond.static yL_list, Cond.initialized RL, Cond.codeWith yL_list cL_list 6 (some .int) [(0, 12, 15, 13), (0, 12, 19, 15)], Cond.classLink RL 13 "java/lang/IllegalArgumentException", Cond.classLink RL 15 "java/lang/IllegalStateException", Cond.methodLink RL 7 yX0_list, Cond.instanceMethod yX0_list, Cond.selects RX0 yX0_list yX0_list, Cond.code yX0_list cX0_list 6 (some .int), Cond.classLink RX0 33 "java/lang/IllegalArgumentException", Cond.initialized "java/lang/IllegalArgumentException", Cond.classLink RX0 48 "java/lang/IllegalStateException", Cond.initialized "java/lang/IllegalStateException", Cond.fieldLink RX0 44 "BellHush" "towerCount" "I", Cond.fieldLink RX0 53 "BellHush" "second" "I", Cond.methodLink RX0 56 yJ9_floorMod_7cf53]
def wsL_law0_r3 : List Cond := [Cond.static yJ9_floorMod_7cf53, Cond.initialized RJ9, Cond.code yJ9_floorMod_7cf53 cJ9_floorMod_7cf53 3 (some .int), Cond.methodLink RL 88 yX1_list, Cond.instanceMethod yX1_list, Cond.selects RX1 yX1_list yX1_list, Cond.code yX1_list cX1_list 4 (some .int), Cond.fieldLink RX1 25 "BellHushModel" "thrown" "I", Cond.fieldLink RX1 29 "BellHushModel" "towers" "I", Cond.methodLink RX1 32 yX1_isIn, Cond.static yX1_isIn, Cond.code yX1_isIn cX1_isIn 3 (some .boolean), Cond.methodLink RX1 68 yX1_fail, Cond.instanceMethod yX1_fail, Cond.selects RX1 yX1_fail yX1_fail, Cond.code yX1_fail cX1_fail 2 (some .int), Cond.methodLink RL 89 yX1_thrown, Cond.instanceMethod yX1_thrown, Cond.selects RX1 yX1_thrown yX1_thrown, Cond.code yX1_thrown cX1_thrown 1 (some .int), Cond.methodLink RL 92 yL_addTrader, Cond.static yL_addTrader, Cond.codeWith yL_addTrader cL_addTrader 3 (some .int) [(0, 8, 11, 15)], Cond.methodLink RL 17 yX0_addTrader]
def wsL_law0_r4 : List Cond := [Cond.instanceMethod yX0_addTrader, Cond.selects RX0 yX0_addTrader yX0_addTrader, Cond.code yX0_addTrader cX0_addTrader 2 (some .int), Cond.fieldLink RX0 62 "BellHush" "traderCount" "I", Cond.methodLink RL 95 yX1_addTrader, Cond.instanceMethod yX1_addTrader, Cond.selects RX1 yX1_addTrader yX1_addTrader, Cond.code yX1_addTrader cX1_addTrader 1 (some .int), Cond.fieldLink RX1 36 "BellHushModel" "traders" "I", Cond.methodLink RL 96 yL_buy, Cond.static yL_buy, Cond.codeWith yL_buy cL_buy 6 (some .int) [(0, 12, 15, 24), (0, 12, 19, 13), (0, 12, 23, 15)], Cond.classLink RL 24 "java/lang/IndexOutOfBoundsException", Cond.methodLink RL 21 yX0_buy, Cond.instanceMethod yX0_buy, Cond.selects RX0 yX0_buy yX0_buy, Cond.code yX0_buy cX0_buy 5 (some .int), Cond.methodLink RX0 67 yX0_requireTrader, Cond.instanceMethod yX0_requireTrader, Cond.selects RX0 yX0_requireTrader yX0_requireTrader, Cond.code yX0_requireTrader cX0_requireTrader 2 none, Cond.classLink RX0 152 "java/lang/IndexOutOfBoundsException", Cond.initialized "java/lang/IndexOutOfBoundsException", Cond.methodLink RX0 71 yX0_requireTower]
def wsL_law0_r5 : List Cond := [Cond.instanceMethod yX0_requireTower, Cond.selects RX0 yX0_requireTower yX0_requireTower, Cond.code yX0_requireTower cX0_requireTower 2 none, Cond.methodLink RX0 74 yX0_requireTradable, Cond.static yX0_requireTradable, Cond.code yX0_requireTradable cX0_requireTradable 1 none, Cond.methodLink RX0 77 yX0_priceNow, Cond.instanceMethod yX0_priceNow, Cond.selects RX0 yX0_priceNow yX0_priceNow, Cond.code yX0_priceNow cX0_priceNow 2 (some .int), Cond.methodLink RX0 94 yX0_dovesNow, Cond.instanceMethod yX0_dovesNow, Cond.selects RX0 yX0_dovesNow yX0_dovesNow, Cond.code yX0_dovesNow cX0_dovesNow 4 (some .int), Cond.methodLink RX0 169 yX0_dovesFor, Cond.static yX0_dovesFor, Cond.code yX0_dovesFor cX0_dovesFor 1 (some .int), Cond.methodLink RX0 166 Lib.Math.max.name, Cond.static Lib.Math.max.name, Cond.initialized "java/lang/Math", Cond.code Lib.Math.max.name Lib.Math.max.code 2 (some .int), Cond.methodLink RX0 172 yX0_price, Cond.static yX0_price, Cond.code yX0_price cX0_price 3 (some .int)]
def wsL_law0_r6 : List Cond := [Cond.methodLink RL 98 yX1_buy, Cond.instanceMethod yX1_buy, Cond.selects RX1 yX1_buy yX1_buy, Cond.code yX1_buy cX1_buy 5 (some .int), Cond.methodLink RX1 78 yX1_can, Cond.instanceMethod yX1_can, Cond.selects RX1 yX1_can yX1_can, Cond.code yX1_can cX1_can 4 (some .boolean), Cond.methodLink RX1 71 yX1_isTrader, Cond.instanceMethod yX1_isTrader, Cond.selects RX1 yX1_isTrader yX1_isTrader, Cond.code yX1_isTrader cX1_isTrader 2 (some .boolean), Cond.methodLink RX1 75 yX1_isTower, Cond.instanceMethod yX1_isTower, Cond.selects RX1 yX1_isTower yX1_isTower, Cond.code yX1_isTower cX1_isTower 2 (some .boolean), Cond.methodLink RX1 61 yX1_price, Cond.instanceMethod yX1_price, Cond.selects RX1 yX1_price yX1_price, Cond.code yX1_price cX1_price 2 (some .int), Cond.methodLink RX1 58 yX1_priceBehind, Cond.instanceMethod yX1_priceBehind, Cond.selects RX1 yX1_priceBehind yX1_priceBehind, Cond.code yX1_priceBehind cX1_priceBehind 3 (some .int)]
def wsL_law0_r7 : List Cond := [Cond.methodLink RX1 49 Lib.Math.max.name, Cond.methodLink RX1 54 yX1_doves, Cond.instanceMethod yX1_doves, Cond.selects RX1 yX1_doves yX1_doves, Cond.code yX1_doves cX1_doves 4 (some .int), Cond.methodLink RX1 45 yX1_at, Cond.static yX1_at, Cond.code yX1_at cX1_at 2 (some .int), Cond.methodLink RL 99 yL_sell, Cond.static yL_sell, Cond.codeWith yL_sell cL_sell 6 (some .int) [(0, 12, 15, 24), (0, 12, 19, 13), (0, 12, 23, 15)], Cond.methodLink RL 26 yX0_sell, Cond.instanceMethod yX0_sell, Cond.selects RX0 yX0_sell yX0_sell, Cond.code yX0_sell cX0_sell 5 (some .int), Cond.methodLink RL 101 yX1_sell, Cond.instanceMethod yX1_sell, Cond.selects RX1 yX1_sell yX1_sell, Cond.code yX1_sell cX1_sell 4 (some .int), Cond.methodLink RX1 81 yX1_sold, Cond.instanceMethod yX1_sold, Cond.selects RX1 yX1_sold yX1_sold, Cond.code yX1_sold cX1_sold 5 (some .int), Cond.methodLink RL 102 yL_pass]
def wsL_law0_r8 : List Cond := [Cond.static yL_pass, Cond.codeWith yL_pass cL_pass 4 (some .int) [(0, 9, 12, 13)], Cond.methodLink RL 29 yX0_pass, Cond.instanceMethod yX0_pass, Cond.selects RX0 yX0_pass yX0_pass, Cond.code yX0_pass cX0_pass 4 (some .int), Cond.methodLink RX0 87 yX0_requirePassable, Cond.static yX0_requirePassable, Cond.code yX0_requirePassable cX0_requirePassable 1 none, Cond.methodLink RX0 90 yX0_goOneSecond, Cond.instanceMethod yX0_goOneSecond, Cond.selects RX0 yX0_goOneSecond yX0_goOneSecond, Cond.code yX0_goOneSecond cX0_goOneSecond 3 (some .int), Cond.methodLink RX0 163 yX0_strike, Cond.instanceMethod yX0_strike, Cond.selects RX0 yX0_strike yX0_strike, Cond.code yX0_strike cX0_strike 4 none, Cond.methodLink RL 105 yX1_pass, Cond.instanceMethod yX1_pass, Cond.selects RX1 yX1_pass yX1_pass, Cond.code yX1_pass cX1_pass 2 (some .int), Cond.methodLink RX1 85 yX1_secondsOn, Cond.instanceMethod yX1_secondsOn, Cond.selects RX1 yX1_secondsOn yX1_secondsOn]
def wsL_law0_r9 : List Cond := [Cond.code yX1_secondsOn cX1_secondsOn 4 (some .int), Cond.methodLink RX1 64 yX1_secondOn, Cond.instanceMethod yX1_secondOn, Cond.selects RX1 yX1_secondOn yX1_secondOn, Cond.code yX1_secondOn cX1_secondOn 5 (some .int), Cond.methodLink RL 106 yX0_second, Cond.instanceMethod yX0_second, Cond.selects RX0 yX0_second yX0_second, Cond.code yX0_second cX0_second 1 (some .int), Cond.methodLink RL 109 yX1_second, Cond.instanceMethod yX1_second, Cond.selects RX1 yX1_second yX1_second, Cond.code yX1_second cX1_second 1 (some .int), Cond.methodLink RX1 88 yX1_told, Cond.instanceMethod yX1_told, Cond.selects RX1 yX1_told yX1_told, Cond.code yX1_told cX1_told 2 (some .int), Cond.methodLink RL 110 yX0_towers, Cond.instanceMethod yX0_towers, Cond.selects RX0 yX0_towers yX0_towers, Cond.code yX0_towers cX0_towers 1 (some .int), Cond.methodLink RL 113 yX1_towers, Cond.instanceMethod yX1_towers, Cond.selects RX1 yX1_towers yX1_towers]
def wsL_law0_r10 : List Cond := [Cond.code yX1_towers cX1_towers 1 (some .int), Cond.methodLink RL 114 yL_silenceOf, Cond.static yL_silenceOf, Cond.codeWith yL_silenceOf cL_silenceOf 4 (some .int) [(0, 9, 12, 24)], Cond.methodLink RL 33 yX0_silenceOf, Cond.instanceMethod yX0_silenceOf, Cond.selects RX0 yX0_silenceOf yX0_silenceOf, Cond.code yX0_silenceOf cX0_silenceOf 2 (some .int), Cond.methodLink RL 116 yX1_silenceOf, Cond.instanceMethod yX1_silenceOf, Cond.selects RX1 yX1_silenceOf yX1_silenceOf, Cond.code yX1_silenceOf cX1_silenceOf 2 (some .int), Cond.methodLink RL 117 yL_dovesOn, Cond.static yL_dovesOn, Cond.codeWith yL_dovesOn cL_dovesOn 4 (some .int) [(0, 9, 12, 24)], Cond.methodLink RL 36 yX0_dovesOn, Cond.instanceMethod yX0_dovesOn, Cond.selects RX0 yX0_dovesOn yX0_dovesOn, Cond.code yX0_dovesOn cX0_dovesOn 2 (some .int), Cond.methodLink RL 119 yX1_dovesOn, Cond.instanceMethod yX1_dovesOn, Cond.selects RX1 yX1_dovesOn yX1_dovesOn, Cond.code yX1_dovesOn cX1_dovesOn 2 (some .int), Cond.methodLink RL 120 yL_priceOf]
def wsL_law0_r11 : List Cond := [Cond.static yL_priceOf, Cond.codeWith yL_priceOf cL_priceOf 4 (some .int) [(0, 9, 12, 24)], Cond.methodLink RL 39 yX0_priceOf, Cond.instanceMethod yX0_priceOf, Cond.selects RX0 yX0_priceOf yX0_priceOf, Cond.code yX0_priceOf cX0_priceOf 2 (some .int), Cond.methodLink RL 122 yX1_priceOf, Cond.instanceMethod yX1_priceOf, Cond.selects RX1 yX1_priceOf yX1_priceOf, Cond.code yX1_priceOf cX1_priceOf 2 (some .int), Cond.methodLink RL 123 yL_secondsUntilStroke, Cond.static yL_secondsUntilStroke, Cond.codeWith yL_secondsUntilStroke cL_secondsUntilStroke 4 (some .int) [(0, 9, 12, 24)], Cond.methodLink RL 42 yX0_secondsUntilStroke, Cond.instanceMethod yX0_secondsUntilStroke, Cond.selects RX0 yX0_secondsUntilStroke yX0_secondsUntilStroke, Cond.code yX0_secondsUntilStroke cX0_secondsUntilStroke 2 (some .int), Cond.methodLink RL 125 yX1_secondsUntilStroke, Cond.instanceMethod yX1_secondsUntilStroke, Cond.selects RX1 yX1_secondsUntilStroke yX1_secondsUntilStroke, Cond.code yX1_secondsUntilStroke cX1_secondsUntilStroke 2 (some .int), Cond.methodLink RX1 91 yX1_until, Cond.instanceMethod yX1_until, Cond.selects RX1 yX1_until yX1_until]
def wsL_law0_r12 : List Cond := [Cond.code yX1_until cX1_until 3 (some .int), Cond.methodLink RL 126 yL_strokesOf, Cond.static yL_strokesOf, Cond.codeWith yL_strokesOf cL_strokesOf 4 (some .int) [(0, 9, 12, 24)], Cond.methodLink RL 45 yX0_strokesOf, Cond.instanceMethod yX0_strokesOf, Cond.selects RX0 yX0_strokesOf yX0_strokesOf, Cond.code yX0_strokesOf cX0_strokesOf 2 (some .int), Cond.methodLink RL 128 yX1_strokesOf, Cond.instanceMethod yX1_strokesOf, Cond.selects RX1 yX1_strokesOf yX1_strokesOf, Cond.code yX1_strokesOf cX1_strokesOf 2 (some .int), Cond.methodLink RL 129 yL_openSeconds, Cond.static yL_openSeconds, Cond.codeWith yL_openSeconds cL_openSeconds 4 (some .int) [(0, 9, 12, 24)], Cond.methodLink RL 48 yX0_openSeconds, Cond.instanceMethod yX0_openSeconds, Cond.selects RX0 yX0_openSeconds yX0_openSeconds, Cond.code yX0_openSeconds cX0_openSeconds 2 (some .int), Cond.methodLink RX0 97 yX0_heldByAll, Cond.instanceMethod yX0_heldByAll, Cond.selects RX0 yX0_heldByAll yX0_heldByAll, Cond.code yX0_heldByAll cX0_heldByAll 4 (some .int), Cond.methodLink RL 131 yX1_openSeconds]
def wsL_law0_r13 : List Cond := [Cond.instanceMethod yX1_openSeconds, Cond.selects RX1 yX1_openSeconds yX1_openSeconds, Cond.code yX1_openSeconds cX1_openSeconds 2 (some .int), Cond.methodLink RX1 94 yX1_open, Cond.instanceMethod yX1_open, Cond.selects RX1 yX1_open yX1_open, Cond.code yX1_open cX1_open 4 (some .int), Cond.methodLink RL 132 yX0_dearest, Cond.instanceMethod yX0_dearest, Cond.selects RX0 yX0_dearest yX0_dearest, Cond.code yX0_dearest cX0_dearest 3 (some .int), Cond.methodLink RL 135 yX1_dearest, Cond.instanceMethod yX1_dearest, Cond.selects RX1 yX1_dearest yX1_dearest, Cond.code yX1_dearest cX1_dearest 1 (some .int), Cond.methodLink RX1 97 yX1_dear, Cond.instanceMethod yX1_dear, Cond.selects RX1 yX1_dear yX1_dear, Cond.code yX1_dear cX1_dear 3 (some .int), Cond.methodLink RL 136 yX0_nextToStrike, Cond.instanceMethod yX0_nextToStrike, Cond.selects RX0 yX0_nextToStrike yX0_nextToStrike, Cond.code yX0_nextToStrike cX0_nextToStrike 3 (some .int), Cond.methodLink RL 139 yX1_nextToStrike]
def wsL_law0_r14 : List Cond := [Cond.instanceMethod yX1_nextToStrike, Cond.selects RX1 yX1_nextToStrike yX1_nextToStrike, Cond.code yX1_nextToStrike cX1_nextToStrike 1 (some .int), Cond.methodLink RX1 100 yX1_next, Cond.instanceMethod yX1_next, Cond.selects RX1 yX1_next yX1_next, Cond.code yX1_next cX1_next 3 (some .int), Cond.methodLink RL 140 yX0_traders, Cond.instanceMethod yX0_traders, Cond.selects RX0 yX0_traders yX0_traders, Cond.code yX0_traders cX0_traders 1 (some .int), Cond.methodLink RL 143 yX1_traders, Cond.instanceMethod yX1_traders, Cond.selects RX1 yX1_traders yX1_traders, Cond.code yX1_traders cX1_traders 1 (some .int), Cond.methodLink RL 144 yL_purseOf, Cond.static yL_purseOf, Cond.codeWith yL_purseOf cL_purseOf 4 (some .int) [(0, 9, 12, 24)], Cond.methodLink RL 51 yX0_purseOf, Cond.instanceMethod yX0_purseOf, Cond.selects RX0 yX0_purseOf yX0_purseOf, Cond.code yX0_purseOf cX0_purseOf 2 (some .int), Cond.methodLink RL 146 yX1_purseOf, Cond.instanceMethod yX1_purseOf]
def wsL_law0_r15 : List Cond := [Cond.selects RX1 yX1_purseOf yX1_purseOf, Cond.code yX1_purseOf cX1_purseOf 2 (some .int), Cond.methodLink RL 147 yL_holds, Cond.static yL_holds, Cond.codeWith yL_holds cL_holds 5 (some .int) [(0, 10, 13, 24)], Cond.methodLink RL 54 yX0_holds, Cond.instanceMethod yX0_holds, Cond.selects RX0 yX0_holds yX0_holds, Cond.code yX0_holds cX0_holds 3 (some .int), Cond.methodLink RL 150 yX1_holds, Cond.instanceMethod yX1_holds, Cond.selects RX1 yX1_holds yX1_holds, Cond.code yX1_holds cX1_holds 3 (some .int), Cond.methodLink RL 151 yL_worthOf, Cond.static yL_worthOf, Cond.codeWith yL_worthOf cL_worthOf 4 (some .int) [(0, 9, 12, 24)], Cond.methodLink RL 58 yX0_worthOf, Cond.instanceMethod yX0_worthOf, Cond.selects RX0 yX0_worthOf yX0_worthOf, Cond.code yX0_worthOf cX0_worthOf 2 (some .int), Cond.methodLink RX0 100 yX0_worthBehind, Cond.instanceMethod yX0_worthBehind, Cond.selects RX0 yX0_worthBehind yX0_worthBehind, Cond.code yX0_worthBehind cX0_worthBehind 7 (some .int)]
def wsL_law0_r16 : List Cond := [Cond.methodLink RX0 106 yX0_closing, Cond.instanceMethod yX0_closing, Cond.selects RX0 yX0_closing yX0_closing, Cond.code yX0_closing cX0_closing 2 (some .int), Cond.methodLink RX0 175 yX0_closingWith, Cond.instanceMethod yX0_closingWith, Cond.selects RX0 yX0_closingWith yX0_closingWith, Cond.code yX0_closingWith cX0_closingWith 3 (some .int), Cond.methodLink RX0 109 yX0_priceBehind, Cond.instanceMethod yX0_priceBehind, Cond.selects RX0 yX0_priceBehind yX0_priceBehind, Cond.code yX0_priceBehind cX0_priceBehind 6 (some .int), Cond.methodLink RL 153 yX1_worthOf, Cond.instanceMethod yX1_worthOf, Cond.selects RX1 yX1_worthOf yX1_worthOf, Cond.code yX1_worthOf cX1_worthOf 2 (some .int), Cond.methodLink RX1 103 yX1_worth, Cond.instanceMethod yX1_worth, Cond.selects RX1 yX1_worth yX1_worth, Cond.code yX1_worth cX1_worth 4 (some .int), Cond.methodLink RL 154 yX0_richest, Cond.instanceMethod yX0_richest, Cond.selects RX0 yX0_richest yX0_richest, Cond.code yX0_richest cX0_richest 3 (some .int)]
def wsL_law0_r17 : List Cond := [Cond.methodLink RL 157 yX1_richest, Cond.instanceMethod yX1_richest, Cond.selects RX1 yX1_richest yX1_richest, Cond.code yX1_richest cX1_richest 1 (some .int), Cond.methodLink RX1 106 yX1_rich, Cond.instanceMethod yX1_rich, Cond.selects RX1 yX1_rich yX1_rich, Cond.code yX1_rich cX1_rich 3 (some .int), Cond.methodLink RL 158 yL_shortsOf, Cond.static yL_shortsOf, Cond.codeWith yL_shortsOf cL_shortsOf 4 (some .int) [(0, 9, 12, 24)], Cond.methodLink RL 61 yX0_shortsOf, Cond.instanceMethod yX0_shortsOf, Cond.selects RX0 yX0_shortsOf yX0_shortsOf, Cond.code yX0_shortsOf cX0_shortsOf 2 (some .int), Cond.methodLink RX0 103 yX0_shortTowers, Cond.instanceMethod yX0_shortTowers, Cond.selects RX0 yX0_shortTowers yX0_shortTowers, Cond.code yX0_shortTowers cX0_shortTowers 4 (some .int), Cond.methodLink RL 160 yX1_shortsOf, Cond.instanceMethod yX1_shortsOf, Cond.selects RX1 yX1_shortsOf yX1_shortsOf, Cond.code yX1_shortsOf cX1_shortsOf 2 (some .int), Cond.methodLink RX1 109 yX1_shorts]
def wsL_law0_r18 : List Cond := [Cond.instanceMethod yX1_shorts, Cond.selects RX1 yX1_shorts yX1_shorts, Cond.code yX1_shorts cX1_shorts 4 (some .int), Cond.methodLink RL 161 yX0_inDebt, Cond.instanceMethod yX0_inDebt, Cond.selects RX0 yX0_inDebt yX0_inDebt, Cond.code yX0_inDebt cX0_inDebt 3 (some .int), Cond.methodLink RL 164 yX1_inDebt, Cond.instanceMethod yX1_inDebt, Cond.selects RX1 yX1_inDebt yX1_inDebt, Cond.code yX1_inDebt cX1_inDebt 1 (some .int), Cond.methodLink RX1 112 yX1_owing, Cond.instanceMethod yX1_owing, Cond.selects RX1 yX1_owing yX1_owing, Cond.code yX1_owing cX1_owing 3 (some .int), Cond.methodLink RL 165 yL_closingPrice, Cond.static yL_closingPrice, Cond.codeWith yL_closingPrice cL_closingPrice 4 (some .int) [(0, 9, 12, 24)], Cond.methodLink RL 64 yX0_closingPrice, Cond.instanceMethod yX0_closingPrice, Cond.selects RX0 yX0_closingPrice yX0_closingPrice, Cond.code yX0_closingPrice cX0_closingPrice 2 (some .int), Cond.methodLink RL 167 yX1_closingPrice, Cond.instanceMethod yX1_closingPrice]
def wsL_law0_r19 : List Cond := [Cond.selects RX1 yX1_closingPrice yX1_closingPrice, Cond.code yX1_closingPrice cX1_closingPrice 2 (some .int), Cond.methodLink RX1 115 yX1_closing, Cond.instanceMethod yX1_closing, Cond.selects RX1 yX1_closing yX1_closing, Cond.code yX1_closing cX1_closing 2 (some .int), Cond.methodLink RL 168 yL_priceIn, Cond.static yL_priceIn, Cond.codeWith yL_priceIn cL_priceIn 5 (some .int) [(0, 10, 13, 24), (0, 10, 17, 13)], Cond.methodLink RL 67 yX0_priceIn, Cond.instanceMethod yX0_priceIn, Cond.selects RX0 yX0_priceIn yX0_priceIn, Cond.code yX0_priceIn cX0_priceIn 3 (some .int), Cond.methodLink RL 170 yX1_priceIn, Cond.instanceMethod yX1_priceIn, Cond.selects RX1 yX1_priceIn yX1_priceIn, Cond.code yX1_priceIn cX1_priceIn 4 (some .int), Cond.methodLink RX1 118 yX1_keep, Cond.instanceMethod yX1_keep, Cond.selects RX1 yX1_keep yX1_keep, Cond.code yX1_keep cX1_keep 1 none, Cond.methodLink RX1 39 arraycopyName, Cond.native arraycopyName, Cond.static arraycopyName]
def wsL_law0_r20 : List Cond := [Cond.initialized "java/lang/System", Cond.methodLink RX1 121 yX1_bringBack, Cond.instanceMethod yX1_bringBack, Cond.selects RX1 yX1_bringBack yX1_bringBack, Cond.code yX1_bringBack cX1_bringBack 1 none, Cond.methodLink RL 171 yL_worthIn, Cond.static yL_worthIn, Cond.codeWith yL_worthIn cL_worthIn 5 (some .int) [(0, 10, 13, 24), (0, 10, 17, 13)], Cond.methodLink RL 70 yX0_worthIn, Cond.instanceMethod yX0_worthIn, Cond.selects RX0 yX0_worthIn yX0_worthIn, Cond.code yX0_worthIn cX0_worthIn 3 (some .int), Cond.methodLink RL 173 yX1_worthIn, Cond.instanceMethod yX1_worthIn, Cond.selects RX1 yX1_worthIn yX1_worthIn, Cond.code yX1_worthIn cX1_worthIn 4 (some .int), Cond.methodLink RL 174 yX0_bestToBuy, Cond.instanceMethod yX0_bestToBuy, Cond.selects RX0 yX0_bestToBuy yX0_bestToBuy, Cond.code yX0_bestToBuy cX0_bestToBuy 4 (some .int), Cond.methodLink RX0 112 yX0_riseUntilStroke, Cond.instanceMethod yX0_riseUntilStroke, Cond.selects RX0 yX0_riseUntilStroke yX0_riseUntilStroke, Cond.code yX0_riseUntilStroke cX0_riseUntilStroke 2 (some .int)]
def wsL_law0_r21 : List Cond := [Cond.methodLink RL 177 yX1_bestToBuy, Cond.instanceMethod yX1_bestToBuy, Cond.selects RX1 yX1_bestToBuy yX1_bestToBuy, Cond.code yX1_bestToBuy cX1_bestToBuy 1 (some .int), Cond.methodLink RX1 124 yX1_toBuy, Cond.instanceMethod yX1_toBuy, Cond.selects RX1 yX1_toBuy yX1_toBuy, Cond.code yX1_toBuy cX1_toBuy 5 (some .int), Cond.methodLink RL 178 yL_bestToSell, Cond.static yL_bestToSell, Cond.codeWith yL_bestToSell cL_bestToSell 5 (some .int) [(0, 10, 13, 24)], Cond.methodLink RL 73 yX0_bestToSell, Cond.instanceMethod yX0_bestToSell, Cond.selects RX0 yX0_bestToSell yX0_bestToSell, Cond.code yX0_bestToSell cX0_bestToSell 6 (some .int), Cond.methodLink RX0 115 Lib.Math.min.name, Cond.static Lib.Math.min.name, Cond.code Lib.Math.min.name Lib.Math.min.code 2 (some .int), Cond.methodLink RX0 118 yX0_yieldOfSelling, Cond.instanceMethod yX0_yieldOfSelling, Cond.selects RX0 yX0_yieldOfSelling yX0_yieldOfSelling, Cond.code yX0_yieldOfSelling cX0_yieldOfSelling 7 (some .int), Cond.methodLink RL 180 yX1_bestToSell, Cond.instanceMethod yX1_bestToSell]
def wsL_law0_r22 : List Cond := [Cond.selects RX1 yX1_bestToSell yX1_bestToSell, Cond.code yX1_bestToSell cX1_bestToSell 9 (some .int), Cond.methodLink RX1 127 Lib.Math.min.name, Cond.methodLink RL 181 yL_secondsUntilDebt, Cond.static yL_secondsUntilDebt, Cond.codeWith yL_secondsUntilDebt cL_secondsUntilDebt 4 (some .int) [(0, 9, 12, 24)], Cond.methodLink RL 76 yX0_secondsUntilDebt, Cond.instanceMethod yX0_secondsUntilDebt, Cond.selects RX0 yX0_secondsUntilDebt yX0_secondsUntilDebt, Cond.code yX0_secondsUntilDebt cX0_secondsUntilDebt 4 (some .int), Cond.methodLink RX0 122 yX0_closedIn, Cond.instanceMethod yX0_closedIn, Cond.selects RX0 yX0_closedIn yX0_closedIn, Cond.code yX0_closedIn cX0_closedIn 5 (some .int), Cond.methodLink RL 183 yX1_secondsUntilDebt, Cond.instanceMethod yX1_secondsUntilDebt, Cond.selects RX1 yX1_secondsUntilDebt yX1_secondsUntilDebt, Cond.code yX1_secondsUntilDebt cX1_secondsUntilDebt 3 (some .int), Cond.methodLink RL 184 yX0_meanPrice, Cond.instanceMethod yX0_meanPrice, Cond.selects RX0 yX0_meanPrice yX0_meanPrice, Cond.code yX0_meanPrice cX0_meanPrice 3 (some .double), Cond.methodLink RL 188 yX1_meanPrice, Cond.instanceMethod yX1_meanPrice]
def wsL_law0_r23 : List Cond := [Cond.selects RX1 yX1_meanPrice yX1_meanPrice, Cond.code yX1_meanPrice cX1_meanPrice 3 (some .double), Cond.methodLink RL 189 yX0_digest, Cond.instanceMethod yX0_digest, Cond.selects RX0 yX0_digest yX0_digest, Cond.code yX0_digest cX0_digest 4 (some .long), Cond.constantLong RX0 125 (2081), Cond.methodLink RX0 127 yX0_mixed, Cond.static yX0_mixed, Cond.code yX0_mixed cX0_mixed 3 (some .long), Cond.constantLong RX0 178 (31), Cond.methodLink RX0 131 yX0_dearest, Cond.methodLink RX0 134 yX0_nextToStrike, Cond.methodLink RX0 137 yX0_richest, Cond.methodLink RX0 140 yX0_inDebt, Cond.methodLink RX0 143 yX0_bestToBuy, Cond.methodLink RX0 146 yX0_mixedTower, Cond.instanceMethod yX0_mixedTower, Cond.selects RX0 yX0_mixedTower yX0_mixedTower, Cond.code yX0_mixedTower cX0_mixedTower 6 (some .long), Cond.methodLink RX0 149 yX0_mixedTrader, Cond.instanceMethod yX0_mixedTrader, Cond.selects RX0 yX0_mixedTrader yX0_mixedTrader, Cond.code yX0_mixedTrader cX0_mixedTrader 7 (some .long)]
def wsL_law0_r24 : List Cond := [Cond.methodLink RL 193 yX1_digest, Cond.instanceMethod yX1_digest, Cond.selects RX1 yX1_digest yX1_digest, Cond.code yX1_digest cX1_digest 10 (some .long), Cond.constantLong RX1 130 (2081), Cond.constantLong RX1 132 (31)]
def wsL_law0 : List Cond := (wsL_law0_r1 ++ (wsL_law0_r2 ++ (wsL_law0_r3 ++ (wsL_law0_r4 ++ (wsL_law0_r5 ++ (wsL_law0_r6 ++ (wsL_law0_r7 ++ (wsL_law0_r8 ++ (wsL_law0_r9 ++ (wsL_law0_r10 ++ (wsL_law0_r11 ++ (wsL_law0_r12 ++ (wsL_law0_r13 ++ (wsL_law0_r14 ++ (wsL_law0_r15 ++ (wsL_law0_r16 ++ (wsL_law0_r17 ++ (wsL_law0_r18 ++ (wsL_law0_r19 ++ (wsL_law0_r20 ++ (wsL_law0_r21 ++ (wsL_law0_r22 ++ (wsL_law0_r23 ++ wsL_law0_r24))))))))))))))))))))))) ++ wsX00 ++ wsX10 ++ ([] : List Cond)
def wsL_law : List Cond := wsL_law0 ++ (vx_atS RX0 37 "java/lang/IllegalArgumentException" ["java/lang/RuntimeException", "java/lang/Exception"]).filter goodWord ++ (vx_atS RX0 52 "java/lang/IllegalStateException" ["java/lang/RuntimeException", "java/lang/Exception"]).filter goodWord ++ (vx_atS RX0 156 "java/lang/IndexOutOfBoundsException" ["java/lang/RuntimeException", "java/lang/Exception"]).filter goodWord
set_option maxRecDepth 20000 in
theorem wsL_law_b1 : ∀ w ∈ wsL_law0_r1, w ∈ lw_tbl := fun w h => (goodIn_p wsL_law0_r1 [56, 59] (by decide +kernel) (by decide +kernel) w h).1
set_option maxRecDepth 20000 in
theorem wsL_law_b2 : ∀ w ∈ wsL_law0_r2, w ∈ lw_tbl := fun w h => (goodIn_p wsL_law0_r2 [489, 205] (by decide +kernel) (by decide +kernel) w h).1
set_option maxRecDepth 20000 in
theorem wsL_law_b3 : ∀ w ∈ wsL_law0_r3, w ∈ lw_tbl := fun w h => (goodIn_p wsL_law0_r3 [294, 523, 526, 530, 519] (by decide +kernel) (by decide +kernel) w h).1
set_option maxRecDepth 20000 in
theorem wsL_law_b4 : ∀ w ∈ wsL_law0_r4, w ∈ lw_tbl := fun w h => (goodIn_p wsL_law0_r4 [301, 534, 310, 314] (by decide +kernel) (by decide +kernel) w h).1
set_option maxRecDepth 20000 in
theorem wsL_law_b5 : ∀ w ∈ wsL_law0_r5, w ∈ lw_tbl := fun w h => (goodIn_p wsL_law0_r5 [334, 338, 109, 113, 116, 119, 122] (by decide +kernel) (by decide +kernel) w h).1
set_option maxRecDepth 20000 in
theorem wsL_law_b6 : ∀ w ∈ wsL_law0_r6, w ∈ lw_tbl := fun w h => (goodIn_p wsL_law0_r6 [538, 542, 546, 550, 554, 558] (by decide +kernel) (by decide +kernel) w h).1
set_option maxRecDepth 20000 in
theorem wsL_law_b7 : ∀ w ∈ wsL_law0_r7, w ∈ lw_tbl := fun w h => (goodIn_p wsL_law0_r7 [562, 565, 348, 570, 574] (by decide +kernel) (by decide +kernel) w h).1
set_option maxRecDepth 20000 in
theorem wsL_law_b8 : ∀ w ∈ wsL_law0_r8, w ∈ lw_tbl := fun w h => (goodIn_p wsL_law0_r8 [356, 359, 364, 368, 578] (by decide +kernel) (by decide +kernel) w h).1
set_option maxRecDepth 20000 in
theorem wsL_law_b9 : ∀ w ∈ wsL_law0_r9, w ∈ lw_tbl := fun w h => (goodIn_p wsL_law0_r9 [582, 586, 97, 590, 594, 101] (by decide +kernel) (by decide +kernel) w h).1
set_option maxRecDepth 20000 in
theorem wsL_law_b10 : ∀ w ∈ wsL_law0_r10, w ∈ lw_tbl := fun w h => (goodIn_p wsL_law0_r10 [598, 375, 602, 382, 606] (by decide +kernel) (by decide +kernel) w h).1
set_option maxRecDepth 20000 in
theorem wsL_law_b11 : ∀ w ∈ wsL_law0_r11, w ∈ lw_tbl := fun w h => (goodIn_p wsL_law0_r11 [389, 610, 396, 614] (by decide +kernel) (by decide +kernel) w h).1
set_option maxRecDepth 20000 in
theorem wsL_law_b12 : ∀ w ∈ wsL_law0_r12, w ∈ lw_tbl := fun w h => (goodIn_p wsL_law0_r12 [618, 403, 622, 410, 188] (by decide +kernel) (by decide +kernel) w h).1
set_option maxRecDepth 20000 in
theorem wsL_law_b13 : ∀ w ∈ wsL_law0_r13, w ∈ lw_tbl := fun w h => (goodIn_p wsL_law0_r13 [626, 630, 105, 634, 638, 126] (by decide +kernel) (by decide +kernel) w h).1
set_option maxRecDepth 20000 in
theorem wsL_law_b14 : ∀ w ∈ wsL_law0_r14, w ∈ lw_tbl := fun w h => (goodIn_p wsL_law0_r14 [642, 646, 130, 650, 417] (by decide +kernel) (by decide +kernel) w h).1
set_option maxRecDepth 20000 in
theorem wsL_law_b15 : ∀ w ∈ wsL_law0_r15, w ∈ lw_tbl := fun w h => (goodIn_p wsL_law0_r15 [654, 424, 658, 431, 138] (by decide +kernel) (by decide +kernel) w h).1
set_option maxRecDepth 20000 in
theorem wsL_law_b16 : ∀ w ∈ wsL_law0_r16, w ∈ lw_tbl := fun w h => (goodIn_p wsL_law0_r16 [142, 146, 150, 662, 666, 134] (by decide +kernel) (by decide +kernel) w h).1
set_option maxRecDepth 20000 in
theorem wsL_law_b17 : ∀ w ∈ wsL_law0_r17, w ∈ lw_tbl := fun w h => (goodIn_p wsL_law0_r17 [670, 674, 438, 196, 678] (by decide +kernel) (by decide +kernel) w h).1
set_option maxRecDepth 20000 in
theorem wsL_law_b18 : ∀ w ∈ wsL_law0_r18, w ∈ lw_tbl := fun w h => (goodIn_p wsL_law0_r18 [682, 154, 686, 690, 445] (by decide +kernel) (by decide +kernel) w h).1
set_option maxRecDepth 20000 in
theorem wsL_law_b19 : ∀ w ∈ wsL_law0_r19, w ∈ lw_tbl := fun w h => (goodIn_p wsL_law0_r19 [694, 698, 452, 702, 706] (by decide +kernel) (by decide +kernel) w h).1
set_option maxRecDepth 20000 in
theorem wsL_law_b20 : ∀ w ∈ wsL_law0_r20, w ∈ lw_tbl := fun w h => (goodIn_p wsL_law0_r20 [713, 459, 717, 158, 162] (by decide +kernel) (by decide +kernel) w h).1
set_option maxRecDepth 20000 in
theorem wsL_law_b21 : ∀ w ∈ wsL_law0_r21, w ∈ lw_tbl := fun w h => (goodIn_p wsL_law0_r21 [721, 725, 466, 469, 473] (by decide +kernel) (by decide +kernel) w h).1
set_option maxRecDepth 20000 in
theorem wsL_law_b22 : ∀ w ∈ wsL_law0_r22, w ∈ lw_tbl := fun w h => (goodIn_p wsL_law0_r22 [729, 480, 484, 734, 166] (by decide +kernel) (by decide +kernel) w h).1
set_option maxRecDepth 20000 in
theorem wsL_law_b23 : ∀ w ∈ wsL_law0_r23, w ∈ lw_tbl := fun w h => (goodIn_p wsL_law0_r23 [738, 170, 174, 184, 192] (by decide +kernel) (by decide +kernel) w h).1
set_option maxRecDepth 20000 in
theorem wsL_law_b24 : ∀ w ∈ wsL_law0_r24, w ∈ lw_tbl := fun w h => (goodIn_p wsL_law0_r24 [742] (by decide +kernel) (by decide +kernel) w h).1
theorem wsL_law_bx0 : ∀ w ∈ wsX00, w ∈ lw_tbl := by decide +kernel
theorem wsL_law_bx1 : ∀ w ∈ wsX10, w ∈ lw_tbl := by decide +kernel
theorem app_in {a b : List Cond} (ha : ∀ w ∈ a, w ∈ lw_tbl) (hb : ∀ w ∈ b, w ∈ lw_tbl) : ∀ w ∈ a ++ b, w ∈ lw_tbl := fun w h => (List.mem_append.mp h).elim (ha w) (hb w)
theorem wsL_law_in0 : ∀ w ∈ wsL_law0, w ∈ lw_tbl := app_in (app_in (app_in (app_in wsL_law_b1 (app_in wsL_law_b2 (app_in wsL_law_b3 (app_in wsL_law_b4 (app_in wsL_law_b5 (app_in wsL_law_b6 (app_in wsL_law_b7 (app_in wsL_law_b8 (app_in wsL_law_b9 (app_in wsL_law_b10 (app_in wsL_law_b11 (app_in wsL_law_b12 (app_in wsL_law_b13 (app_in wsL_law_b14 (app_in wsL_law_b15 (app_in wsL_law_b16 (app_in wsL_law_b17 (app_in wsL_law_b18 (app_in wsL_law_b19 (app_in wsL_law_b20 (app_in wsL_law_b21 (app_in wsL_law_b22 (app_in wsL_law_b23 wsL_law_b24))))))))))))))))))))))) wsL_law_bx0) wsL_law_bx1) (fun w h => nomatch h)
theorem wsL_law_x0 : ∀ w ∈ (vx_atS RX0 37 "java/lang/IllegalArgumentException" ["java/lang/RuntimeException", "java/lang/Exception"]).filter goodWord, w ∈ lw_tbl := by decide +kernel
theorem wsL_law_x1 : ∀ w ∈ (vx_atS RX0 52 "java/lang/IllegalStateException" ["java/lang/RuntimeException", "java/lang/Exception"]).filter goodWord, w ∈ lw_tbl := by decide +kernel
theorem wsL_law_x2 : ∀ w ∈ (vx_atS RX0 156 "java/lang/IndexOutOfBoundsException" ["java/lang/RuntimeException", "java/lang/Exception"]).filter goodWord, w ∈ lw_tbl := by decide +kernel
theorem wsL_law_in : ∀ w ∈ wsL_law, w ∈ lw_tbl := fun w h => (List.mem_append.mp h).elim (fun h => (List.mem_append.mp h).elim (fun h => (List.mem_append.mp h).elim (fun h => wsL_law_in0 w h) (fun h => wsL_law_x0 w h)) (fun h => wsL_law_x1 w h)) (fun h => wsL_law_x2 w h)
theorem inlX0 : ∀ w ∈ wsX00, w ∈ wsL_law := fun _ h => List.mem_append_left _ (List.mem_append_left _ (List.mem_append_left _ (List.mem_append_left _ (List.mem_append_left _ (List.mem_append_right _ h)))))
theorem inX0 : ∀ w ∈ wsX00, w ∈ lw_tbl := fun w h => wsL_law_in w (inlX0 w h)
theorem inlX1 : ∀ w ∈ wsX10, w ∈ wsL_law := fun _ h => List.mem_append_left _ (List.mem_append_left _ (List.mem_append_left _ (List.mem_append_left _ (List.mem_append_right _ h))))
theorem inX1 : ∀ w ∈ wsX10, w ∈ lw_tbl := fun w h => wsL_law_in w (inlX1 w h)
theorem inJ9 : ∀ w ∈ wsJ90, w ∈ lw_tbl := by decide +kernel
theorem inJ0 : ∀ w ∈ wsJ00, w ∈ lw_tbl := by decide +kernel
theorem inJ10 : ∀ w ∈ wsJ100, w ∈ lw_tbl := by decide +kernel
abbrev vwCl : List vw_C := [(RX0, TX0, 10), (RX1, TX1, 8)]
end
section
theorem dX0_init_0 : decode cX0_init 0 = .ok (.aload_n 0, 1) := by decide +kernel
theorem dX0_init_1 : decode cX0_init 1 = .ok (.invokespecial 1, 3) := by decide +kernel
theorem dX0_init_4 : decode cX0_init 4 = .ok (.aload_n 0, 1) := by decide +kernel
theorem dX0_init_5 : decode cX0_init 5 = .ok (.bipush 8, 2) := by decide +kernel
theorem dX0_init_7 : decode cX0_init 7 = .ok (.newarray .int, 2) := by decide +kernel
theorem dX0_init_9 : decode cX0_init 9 = .ok (.putfield 9, 3) := by decide +kernel
theorem dX0_init_12 : decode cX0_init 12 = .ok (.aload_n 0, 1) := by decide +kernel
theorem dX0_init_13 : decode cX0_init 13 = .ok (.bipush 8, 2) := by decide +kernel
theorem dX0_init_15 : decode cX0_init 15 = .ok (.newarray .int, 2) := by decide +kernel
theorem dX0_init_17 : decode cX0_init 17 = .ok (.putfield 13, 3) := by decide +kernel
theorem dX0_init_20 : decode cX0_init 20 = .ok (.aload_n 0, 1) := by decide +kernel
theorem dX0_init_21 : decode cX0_init 21 = .ok (.bipush 8, 2) := by decide +kernel
theorem dX0_init_23 : decode cX0_init 23 = .ok (.newarray .int, 2) := by decide +kernel
theorem dX0_init_25 : decode cX0_init 25 = .ok (.putfield 16, 3) := by decide +kernel
theorem dX0_init_28 : decode cX0_init 28 = .ok (.aload_n 0, 1) := by decide +kernel
theorem dX0_init_29 : decode cX0_init 29 = .ok (.bipush 8, 2) := by decide +kernel
theorem dX0_init_31 : decode cX0_init 31 = .ok (.newarray .int, 2) := by decide +kernel
theorem dX0_init_33 : decode cX0_init 33 = .ok (.putfield 19, 3) := by decide +kernel
theorem dX0_init_36 : decode cX0_init 36 = .ok (.aload_n 0, 1) := by decide +kernel
theorem dX0_init_37 : decode cX0_init 37 = .ok (.bipush 8, 2) := by decide +kernel
theorem dX0_init_39 : decode cX0_init 39 = .ok (.newarray .int, 2) := by decide +kernel
theorem dX0_init_41 : decode cX0_init 41 = .ok (.putfield 22, 3) := by decide +kernel
theorem dX0_init_44 : decode cX0_init 44 = .ok (.aload_n 0, 1) := by decide +kernel
theorem dX0_init_45 : decode cX0_init 45 = .ok (.bipush 6, 2) := by decide +kernel
theorem dX0_init_47 : decode cX0_init 47 = .ok (.newarray .int, 2) := by decide +kernel
theorem dX0_init_49 : decode cX0_init 49 = .ok (.putfield 25, 3) := by decide +kernel
theorem dX0_init_52 : decode cX0_init 52 = .ok (.aload_n 0, 1) := by decide +kernel
theorem dX0_init_53 : decode cX0_init 53 = .ok (.bipush 6, 2) := by decide +kernel
theorem dX0_init_55 : decode cX0_init 55 = .ok (.bipush 8, 2) := by decide +kernel
theorem dX0_init_57 : decode cX0_init 57 = .ok (.multianewarray 28 2, 4) := by decide +kernel
theorem dX0_init_61 : decode cX0_init 61 = .ok (.putfield 30, 3) := by decide +kernel
theorem dX0_init_64 : decode cX0_init 64 = .ok (.return_, 1) := by decide +kernel
theorem dX0_list_0 : decode cX0_list 0 = .ok (.iload_n 1, 1) := by decide +kernel
theorem dX0_list_1 : decode cX0_list 1 = .ok (.iconst 1, 1) := by decide +kernel
theorem dX0_list_2 : decode cX0_list 2 = .ok (.if_icmp .lt 9, 3) := by decide +kernel
theorem dX0_list_5 : decode cX0_list 5 = .ok (.iload_n 1, 1) := by decide +kernel
theorem dX0_list_6 : decode cX0_list 6 = .ok (.bipush 9, 2) := by decide +kernel
theorem dX0_list_8 : decode cX0_list 8 = .ok (.if_icmp .le 13, 3) := by decide +kernel
theorem dX0_list_11 : decode cX0_list 11 = .ok (.new 33, 3) := by decide +kernel
theorem dX0_list_14 : decode cX0_list 14 = .ok (.dup, 1) := by decide +kernel
theorem dX0_list_15 : decode cX0_list 15 = .ok (.ldc 35, 2) := by decide +kernel
theorem dX0_list_17 : decode cX0_list 17 = .ok (.invokespecial 37, 3) := by decide +kernel
theorem dX0_list_20 : decode cX0_list 20 = .ok (.athrow, 1) := by decide +kernel
theorem dX0_list_21 : decode cX0_list 21 = .ok (.iload_n 2, 1) := by decide +kernel
theorem dX0_list_22 : decode cX0_list 22 = .ok (.iconst 2, 1) := by decide +kernel
theorem dX0_list_23 : decode cX0_list 23 = .ok (.if_icmp .lt 9, 3) := by decide +kernel
theorem dX0_list_26 : decode cX0_list 26 = .ok (.iload_n 2, 1) := by decide +kernel
theorem dX0_list_27 : decode cX0_list 27 = .ok (.bipush 20, 2) := by decide +kernel
theorem dX0_list_29 : decode cX0_list 29 = .ok (.if_icmp .le 13, 3) := by decide +kernel
theorem dX0_list_32 : decode cX0_list 32 = .ok (.new 33, 3) := by decide +kernel
theorem dX0_list_35 : decode cX0_list 35 = .ok (.dup, 1) := by decide +kernel
theorem dX0_list_36 : decode cX0_list 36 = .ok (.ldc 40, 2) := by decide +kernel
theorem dX0_list_38 : decode cX0_list 38 = .ok (.invokespecial 37, 3) := by decide +kernel
theorem dX0_list_41 : decode cX0_list 41 = .ok (.athrow, 1) := by decide +kernel
theorem dX0_list_42 : decode cX0_list 42 = .ok (.iload_n 3, 1) := by decide +kernel
theorem dX0_list_43 : decode cX0_list 43 = .ok (.ifCond .lt 8, 3) := by decide +kernel
theorem dX0_list_46 : decode cX0_list 46 = .ok (.iload_n 3, 1) := by decide +kernel
theorem dX0_list_47 : decode cX0_list 47 = .ok (.iload_n 2, 1) := by decide +kernel
theorem dX0_list_48 : decode cX0_list 48 = .ok (.if_icmp .lt 13, 3) := by decide +kernel
theorem dX0_list_51 : decode cX0_list 51 = .ok (.new 33, 3) := by decide +kernel
theorem dX0_list_54 : decode cX0_list 54 = .ok (.dup, 1) := by decide +kernel
theorem dX0_list_55 : decode cX0_list 55 = .ok (.ldc 42, 2) := by decide +kernel
theorem dX0_list_57 : decode cX0_list 57 = .ok (.invokespecial 37, 3) := by decide +kernel
theorem dX0_list_60 : decode cX0_list 60 = .ok (.athrow, 1) := by decide +kernel
theorem dX0_list_61 : decode cX0_list 61 = .ok (.aload_n 0, 1) := by decide +kernel
theorem dX0_list_62 : decode cX0_list 62 = .ok (.getfield 44, 3) := by decide +kernel
theorem dX0_list_65 : decode cX0_list 65 = .ok (.bipush 8, 2) := by decide +kernel
theorem dX0_list_67 : decode cX0_list 67 = .ok (.if_icmp .lt 13, 3) := by decide +kernel
theorem dX0_list_70 : decode cX0_list 70 = .ok (.new 48, 3) := by decide +kernel
theorem dX0_list_73 : decode cX0_list 73 = .ok (.dup, 1) := by decide +kernel
theorem dX0_list_74 : decode cX0_list 74 = .ok (.ldc 50, 2) := by decide +kernel
theorem dX0_list_76 : decode cX0_list 76 = .ok (.invokespecial 52, 3) := by decide +kernel
theorem dX0_list_79 : decode cX0_list 79 = .ok (.athrow, 1) := by decide +kernel
theorem dX0_list_80 : decode cX0_list 80 = .ok (.aload_n 0, 1) := by decide +kernel
theorem dX0_list_81 : decode cX0_list 81 = .ok (.getfield 44, 3) := by decide +kernel
theorem dX0_list_84 : decode cX0_list 84 = .ok (.istore 4, 2) := by decide +kernel
theorem dX0_list_86 : decode cX0_list 86 = .ok (.iload_n 3, 1) := by decide +kernel
theorem dX0_list_87 : decode cX0_list 87 = .ok (.aload_n 0, 1) := by decide +kernel
theorem dX0_list_88 : decode cX0_list 88 = .ok (.getfield 53, 3) := by decide +kernel
theorem dX0_list_91 : decode cX0_list 91 = .ok (.isub, 1) := by decide +kernel
theorem dX0_list_92 : decode cX0_list 92 = .ok (.iload_n 2, 1) := by decide +kernel
theorem dX0_list_93 : decode cX0_list 93 = .ok (.invokestatic 56, 3) := by decide +kernel
theorem dX0_list_96 : decode cX0_list 96 = .ok (.istore 5, 2) := by decide +kernel
theorem dX0_list_98 : decode cX0_list 98 = .ok (.aload_n 0, 1) := by decide +kernel
theorem dX0_list_99 : decode cX0_list 99 = .ok (.getfield 9, 3) := by decide +kernel
theorem dX0_list_102 : decode cX0_list 102 = .ok (.iload 4, 2) := by decide +kernel
theorem dX0_list_104 : decode cX0_list 104 = .ok (.iload_n 1, 1) := by decide +kernel
theorem dX0_list_105 : decode cX0_list 105 = .ok (.iastore, 1) := by decide +kernel
theorem dX0_list_106 : decode cX0_list 106 = .ok (.aload_n 0, 1) := by decide +kernel
theorem dX0_list_107 : decode cX0_list 107 = .ok (.getfield 13, 3) := by decide +kernel
theorem dX0_list_110 : decode cX0_list 110 = .ok (.iload 4, 2) := by decide +kernel
theorem dX0_list_112 : decode cX0_list 112 = .ok (.iload_n 2, 1) := by decide +kernel
theorem dX0_list_113 : decode cX0_list 113 = .ok (.iastore, 1) := by decide +kernel
theorem dX0_list_114 : decode cX0_list 114 = .ok (.aload_n 0, 1) := by decide +kernel
theorem dX0_list_115 : decode cX0_list 115 = .ok (.getfield 19, 3) := by decide +kernel
theorem dX0_list_118 : decode cX0_list 118 = .ok (.iload 4, 2) := by decide +kernel
theorem dX0_list_120 : decode cX0_list 120 = .ok (.iload 5, 2) := by decide +kernel
theorem dX0_list_122 : decode cX0_list 122 = .ok (.ifCond .ne 7, 3) := by decide +kernel
theorem dX0_list_125 : decode cX0_list 125 = .ok (.iload_n 2, 1) := by decide +kernel
theorem dX0_list_126 : decode cX0_list 126 = .ok (.goto 5, 3) := by decide +kernel
theorem dX0_list_129 : decode cX0_list 129 = .ok (.iload 5, 2) := by decide +kernel
theorem dX0_list_131 : decode cX0_list 131 = .ok (.iastore, 1) := by decide +kernel
theorem dX0_list_132 : decode cX0_list 132 = .ok (.aload_n 0, 1) := by decide +kernel
theorem dX0_list_133 : decode cX0_list 133 = .ok (.iload 4, 2) := by decide +kernel
theorem dX0_list_135 : decode cX0_list 135 = .ok (.iconst 1, 1) := by decide +kernel
theorem dX0_list_136 : decode cX0_list 136 = .ok (.iadd, 1) := by decide +kernel
theorem dX0_list_137 : decode cX0_list 137 = .ok (.putfield 44, 3) := by decide +kernel
theorem dX0_list_140 : decode cX0_list 140 = .ok (.iload 4, 2) := by decide +kernel
theorem dX0_list_142 : decode cX0_list 142 = .ok (.ireturn, 1) := by decide +kernel
theorem dX0_addTrader_0 : decode cX0_addTrader 0 = .ok (.aload_n 0, 1) := by decide +kernel
theorem dX0_addTrader_1 : decode cX0_addTrader 1 = .ok (.getfield 62, 3) := by decide +kernel
theorem dX0_addTrader_4 : decode cX0_addTrader 4 = .ok (.bipush 6, 2) := by decide +kernel
theorem dX0_addTrader_6 : decode cX0_addTrader 6 = .ok (.if_icmp .lt 13, 3) := by decide +kernel
theorem dX0_addTrader_9 : decode cX0_addTrader 9 = .ok (.new 48, 3) := by decide +kernel
theorem dX0_addTrader_12 : decode cX0_addTrader 12 = .ok (.dup, 1) := by decide +kernel
theorem dX0_addTrader_13 : decode cX0_addTrader 13 = .ok (.ldc 65, 2) := by decide +kernel
theorem dX0_addTrader_15 : decode cX0_addTrader 15 = .ok (.invokespecial 52, 3) := by decide +kernel
theorem dX0_addTrader_18 : decode cX0_addTrader 18 = .ok (.athrow, 1) := by decide +kernel
theorem dX0_addTrader_19 : decode cX0_addTrader 19 = .ok (.aload_n 0, 1) := by decide +kernel
theorem dX0_addTrader_20 : decode cX0_addTrader 20 = .ok (.getfield 62, 3) := by decide +kernel
theorem dX0_addTrader_23 : decode cX0_addTrader 23 = .ok (.istore_n 1, 1) := by decide +kernel
theorem dX0_addTrader_24 : decode cX0_addTrader 24 = .ok (.aload_n 0, 1) := by decide +kernel
theorem dX0_addTrader_25 : decode cX0_addTrader 25 = .ok (.getfield 25, 3) := by decide +kernel
theorem dX0_addTrader_28 : decode cX0_addTrader 28 = .ok (.iload_n 1, 1) := by decide +kernel
theorem dX0_addTrader_29 : decode cX0_addTrader 29 = .ok (.bipush 100, 2) := by decide +kernel
theorem dX0_addTrader_31 : decode cX0_addTrader 31 = .ok (.iastore, 1) := by decide +kernel
theorem dX0_addTrader_32 : decode cX0_addTrader 32 = .ok (.aload_n 0, 1) := by decide +kernel
theorem dX0_addTrader_33 : decode cX0_addTrader 33 = .ok (.iload_n 1, 1) := by decide +kernel
theorem dX0_addTrader_34 : decode cX0_addTrader 34 = .ok (.iconst 1, 1) := by decide +kernel
theorem dX0_addTrader_35 : decode cX0_addTrader 35 = .ok (.iadd, 1) := by decide +kernel
theorem dX0_addTrader_36 : decode cX0_addTrader 36 = .ok (.putfield 62, 3) := by decide +kernel
theorem dX0_addTrader_39 : decode cX0_addTrader 39 = .ok (.iload_n 1, 1) := by decide +kernel
theorem dX0_addTrader_40 : decode cX0_addTrader 40 = .ok (.ireturn, 1) := by decide +kernel
theorem dX0_buy_0 : decode cX0_buy 0 = .ok (.aload_n 0, 1) := by decide +kernel
theorem dX0_buy_1 : decode cX0_buy 1 = .ok (.iload_n 1, 1) := by decide +kernel
theorem dX0_buy_2 : decode cX0_buy 2 = .ok (.invokevirtual 67, 3) := by decide +kernel
theorem dX0_buy_5 : decode cX0_buy 5 = .ok (.aload_n 0, 1) := by decide +kernel
theorem dX0_buy_6 : decode cX0_buy 6 = .ok (.iload_n 2, 1) := by decide +kernel
theorem dX0_buy_7 : decode cX0_buy 7 = .ok (.invokevirtual 71, 3) := by decide +kernel
theorem dX0_buy_10 : decode cX0_buy 10 = .ok (.iload_n 3, 1) := by decide +kernel
theorem dX0_buy_11 : decode cX0_buy 11 = .ok (.invokestatic 74, 3) := by decide +kernel
theorem dX0_buy_14 : decode cX0_buy 14 = .ok (.aload_n 0, 1) := by decide +kernel
theorem dX0_buy_15 : decode cX0_buy 15 = .ok (.iload_n 2, 1) := by decide +kernel
theorem dX0_buy_16 : decode cX0_buy 16 = .ok (.invokevirtual 77, 3) := by decide +kernel
theorem dX0_buy_19 : decode cX0_buy 19 = .ok (.iload_n 3, 1) := by decide +kernel
theorem dX0_buy_20 : decode cX0_buy 20 = .ok (.imul, 1) := by decide +kernel
theorem dX0_buy_21 : decode cX0_buy 21 = .ok (.istore 4, 2) := by decide +kernel
theorem dX0_buy_23 : decode cX0_buy 23 = .ok (.aload_n 0, 1) := by decide +kernel
theorem dX0_buy_24 : decode cX0_buy 24 = .ok (.getfield 30, 3) := by decide +kernel
theorem dX0_buy_27 : decode cX0_buy 27 = .ok (.iload_n 1, 1) := by decide +kernel
theorem dX0_buy_28 : decode cX0_buy 28 = .ok (.aaload, 1) := by decide +kernel
theorem dX0_buy_29 : decode cX0_buy 29 = .ok (.iload_n 2, 1) := by decide +kernel
theorem dX0_buy_30 : decode cX0_buy 30 = .ok (.iaload, 1) := by decide +kernel
theorem dX0_buy_31 : decode cX0_buy 31 = .ok (.iload_n 3, 1) := by decide +kernel
theorem dX0_buy_32 : decode cX0_buy 32 = .ok (.iadd, 1) := by decide +kernel
theorem dX0_buy_33 : decode cX0_buy 33 = .ok (.bipush 9, 2) := by decide +kernel
theorem dX0_buy_35 : decode cX0_buy 35 = .ok (.if_icmp .le 13, 3) := by decide +kernel
theorem dX0_buy_38 : decode cX0_buy 38 = .ok (.new 48, 3) := by decide +kernel
theorem dX0_buy_41 : decode cX0_buy 41 = .ok (.dup, 1) := by decide +kernel
theorem dX0_buy_42 : decode cX0_buy 42 = .ok (.ldc 81, 2) := by decide +kernel
theorem dX0_buy_44 : decode cX0_buy 44 = .ok (.invokespecial 52, 3) := by decide +kernel
theorem dX0_buy_47 : decode cX0_buy 47 = .ok (.athrow, 1) := by decide +kernel
theorem dX0_buy_48 : decode cX0_buy 48 = .ok (.aload_n 0, 1) := by decide +kernel
theorem dX0_buy_49 : decode cX0_buy 49 = .ok (.getfield 25, 3) := by decide +kernel
theorem dX0_buy_52 : decode cX0_buy 52 = .ok (.iload_n 1, 1) := by decide +kernel
theorem dX0_buy_53 : decode cX0_buy 53 = .ok (.iaload, 1) := by decide +kernel
theorem dX0_buy_54 : decode cX0_buy 54 = .ok (.iload 4, 2) := by decide +kernel
theorem dX0_buy_56 : decode cX0_buy 56 = .ok (.if_icmp .ge 13, 3) := by decide +kernel
theorem dX0_buy_59 : decode cX0_buy 59 = .ok (.new 48, 3) := by decide +kernel
theorem dX0_buy_62 : decode cX0_buy 62 = .ok (.dup, 1) := by decide +kernel
theorem dX0_buy_63 : decode cX0_buy 63 = .ok (.ldc 83, 2) := by decide +kernel
theorem dX0_buy_65 : decode cX0_buy 65 = .ok (.invokespecial 52, 3) := by decide +kernel
theorem dX0_buy_68 : decode cX0_buy 68 = .ok (.athrow, 1) := by decide +kernel
theorem dX0_buy_69 : decode cX0_buy 69 = .ok (.aload_n 0, 1) := by decide +kernel
theorem dX0_buy_70 : decode cX0_buy 70 = .ok (.getfield 25, 3) := by decide +kernel
theorem dX0_buy_73 : decode cX0_buy 73 = .ok (.iload_n 1, 1) := by decide +kernel
theorem dX0_buy_74 : decode cX0_buy 74 = .ok (.dup2, 1) := by decide +kernel
theorem dX0_buy_75 : decode cX0_buy 75 = .ok (.iaload, 1) := by decide +kernel
theorem dX0_buy_76 : decode cX0_buy 76 = .ok (.iload 4, 2) := by decide +kernel
theorem dX0_buy_78 : decode cX0_buy 78 = .ok (.isub, 1) := by decide +kernel
theorem dX0_buy_79 : decode cX0_buy 79 = .ok (.iastore, 1) := by decide +kernel
theorem dX0_buy_80 : decode cX0_buy 80 = .ok (.aload_n 0, 1) := by decide +kernel
theorem dX0_buy_81 : decode cX0_buy 81 = .ok (.getfield 30, 3) := by decide +kernel
theorem dX0_buy_84 : decode cX0_buy 84 = .ok (.iload_n 1, 1) := by decide +kernel
theorem dX0_buy_85 : decode cX0_buy 85 = .ok (.aaload, 1) := by decide +kernel
theorem dX0_buy_86 : decode cX0_buy 86 = .ok (.iload_n 2, 1) := by decide +kernel
theorem dX0_buy_87 : decode cX0_buy 87 = .ok (.dup2, 1) := by decide +kernel
theorem dX0_buy_88 : decode cX0_buy 88 = .ok (.iaload, 1) := by decide +kernel
theorem dX0_buy_89 : decode cX0_buy 89 = .ok (.iload_n 3, 1) := by decide +kernel
theorem dX0_buy_90 : decode cX0_buy 90 = .ok (.iadd, 1) := by decide +kernel
theorem dX0_buy_91 : decode cX0_buy 91 = .ok (.iastore, 1) := by decide +kernel
theorem dX0_buy_92 : decode cX0_buy 92 = .ok (.iload 4, 2) := by decide +kernel
theorem dX0_buy_94 : decode cX0_buy 94 = .ok (.ireturn, 1) := by decide +kernel
theorem dX0_sell_0 : decode cX0_sell 0 = .ok (.aload_n 0, 1) := by decide +kernel
theorem dX0_sell_1 : decode cX0_sell 1 = .ok (.iload_n 1, 1) := by decide +kernel
theorem dX0_sell_2 : decode cX0_sell 2 = .ok (.invokevirtual 67, 3) := by decide +kernel
theorem dX0_sell_5 : decode cX0_sell 5 = .ok (.aload_n 0, 1) := by decide +kernel
theorem dX0_sell_6 : decode cX0_sell 6 = .ok (.iload_n 2, 1) := by decide +kernel
theorem dX0_sell_7 : decode cX0_sell 7 = .ok (.invokevirtual 71, 3) := by decide +kernel
theorem dX0_sell_10 : decode cX0_sell 10 = .ok (.iload_n 3, 1) := by decide +kernel
theorem dX0_sell_11 : decode cX0_sell 11 = .ok (.invokestatic 74, 3) := by decide +kernel
theorem dX0_sell_14 : decode cX0_sell 14 = .ok (.aload_n 0, 1) := by decide +kernel
theorem dX0_sell_15 : decode cX0_sell 15 = .ok (.getfield 30, 3) := by decide +kernel
theorem dX0_sell_18 : decode cX0_sell 18 = .ok (.iload_n 1, 1) := by decide +kernel
theorem dX0_sell_19 : decode cX0_sell 19 = .ok (.aaload, 1) := by decide +kernel
theorem dX0_sell_20 : decode cX0_sell 20 = .ok (.iload_n 2, 1) := by decide +kernel
theorem dX0_sell_21 : decode cX0_sell 21 = .ok (.iaload, 1) := by decide +kernel
theorem dX0_sell_22 : decode cX0_sell 22 = .ok (.iload_n 3, 1) := by decide +kernel
theorem dX0_sell_23 : decode cX0_sell 23 = .ok (.isub, 1) := by decide +kernel
theorem dX0_sell_24 : decode cX0_sell 24 = .ok (.bipush (-9), 2) := by decide +kernel
theorem dX0_sell_26 : decode cX0_sell 26 = .ok (.if_icmp .ge 13, 3) := by decide +kernel
theorem dX0_sell_29 : decode cX0_sell 29 = .ok (.new 48, 3) := by decide +kernel
theorem dX0_sell_32 : decode cX0_sell 32 = .ok (.dup, 1) := by decide +kernel
theorem dX0_sell_33 : decode cX0_sell 33 = .ok (.ldc 85, 2) := by decide +kernel
theorem dX0_sell_35 : decode cX0_sell 35 = .ok (.invokespecial 52, 3) := by decide +kernel
theorem dX0_sell_38 : decode cX0_sell 38 = .ok (.athrow, 1) := by decide +kernel
theorem dX0_sell_39 : decode cX0_sell 39 = .ok (.aload_n 0, 1) := by decide +kernel
theorem dX0_sell_40 : decode cX0_sell 40 = .ok (.iload_n 2, 1) := by decide +kernel
theorem dX0_sell_41 : decode cX0_sell 41 = .ok (.invokevirtual 77, 3) := by decide +kernel
theorem dX0_sell_44 : decode cX0_sell 44 = .ok (.iload_n 3, 1) := by decide +kernel
theorem dX0_sell_45 : decode cX0_sell 45 = .ok (.imul, 1) := by decide +kernel
theorem dX0_sell_46 : decode cX0_sell 46 = .ok (.istore 4, 2) := by decide +kernel
theorem dX0_sell_48 : decode cX0_sell 48 = .ok (.aload_n 0, 1) := by decide +kernel
theorem dX0_sell_49 : decode cX0_sell 49 = .ok (.getfield 25, 3) := by decide +kernel
theorem dX0_sell_52 : decode cX0_sell 52 = .ok (.iload_n 1, 1) := by decide +kernel
theorem dX0_sell_53 : decode cX0_sell 53 = .ok (.dup2, 1) := by decide +kernel
theorem dX0_sell_54 : decode cX0_sell 54 = .ok (.iaload, 1) := by decide +kernel
theorem dX0_sell_55 : decode cX0_sell 55 = .ok (.iload 4, 2) := by decide +kernel
theorem dX0_sell_57 : decode cX0_sell 57 = .ok (.iadd, 1) := by decide +kernel
theorem dX0_sell_58 : decode cX0_sell 58 = .ok (.iastore, 1) := by decide +kernel
theorem dX0_sell_59 : decode cX0_sell 59 = .ok (.aload_n 0, 1) := by decide +kernel
theorem dX0_sell_60 : decode cX0_sell 60 = .ok (.getfield 30, 3) := by decide +kernel
theorem dX0_sell_63 : decode cX0_sell 63 = .ok (.iload_n 1, 1) := by decide +kernel
theorem dX0_sell_64 : decode cX0_sell 64 = .ok (.aaload, 1) := by decide +kernel
theorem dX0_sell_65 : decode cX0_sell 65 = .ok (.iload_n 2, 1) := by decide +kernel
theorem dX0_sell_66 : decode cX0_sell 66 = .ok (.dup2, 1) := by decide +kernel
theorem dX0_sell_67 : decode cX0_sell 67 = .ok (.iaload, 1) := by decide +kernel
theorem dX0_sell_68 : decode cX0_sell 68 = .ok (.iload_n 3, 1) := by decide +kernel
theorem dX0_sell_69 : decode cX0_sell 69 = .ok (.isub, 1) := by decide +kernel
theorem dX0_sell_70 : decode cX0_sell 70 = .ok (.iastore, 1) := by decide +kernel
theorem dX0_sell_71 : decode cX0_sell 71 = .ok (.iload 4, 2) := by decide +kernel
theorem dX0_sell_73 : decode cX0_sell 73 = .ok (.ireturn, 1) := by decide +kernel
theorem dX0_pass_0 : decode cX0_pass 0 = .ok (.iload_n 1, 1) := by decide +kernel
theorem dX0_pass_1 : decode cX0_pass 1 = .ok (.invokestatic 87, 3) := by decide +kernel
theorem dX0_pass_4 : decode cX0_pass 4 = .ok (.iconst 0, 1) := by decide +kernel
theorem dX0_pass_5 : decode cX0_pass 5 = .ok (.istore_n 2, 1) := by decide +kernel
theorem dX0_pass_6 : decode cX0_pass 6 = .ok (.iconst 0, 1) := by decide +kernel
theorem dX0_pass_7 : decode cX0_pass 7 = .ok (.istore_n 3, 1) := by decide +kernel
theorem dX0_pass_8 : decode cX0_pass 8 = .ok (.iload_n 3, 1) := by decide +kernel
theorem dX0_pass_9 : decode cX0_pass 9 = .ok (.iload_n 1, 1) := by decide +kernel
theorem dX0_pass_10 : decode cX0_pass 10 = .ok (.if_icmp .ge 16, 3) := by decide +kernel
theorem dX0_pass_13 : decode cX0_pass 13 = .ok (.iload_n 2, 1) := by decide +kernel
theorem dX0_pass_14 : decode cX0_pass 14 = .ok (.aload_n 0, 1) := by decide +kernel
theorem dX0_pass_15 : decode cX0_pass 15 = .ok (.invokevirtual 90, 3) := by decide +kernel
theorem dX0_pass_18 : decode cX0_pass 18 = .ok (.iadd, 1) := by decide +kernel
theorem dX0_pass_19 : decode cX0_pass 19 = .ok (.istore_n 2, 1) := by decide +kernel
theorem dX0_pass_20 : decode cX0_pass 20 = .ok (.iinc 3 1, 3) := by decide +kernel
theorem dX0_pass_23 : decode cX0_pass 23 = .ok (.goto (-15), 3) := by decide +kernel
theorem dX0_pass_26 : decode cX0_pass 26 = .ok (.iload_n 2, 1) := by decide +kernel
theorem dX0_pass_27 : decode cX0_pass 27 = .ok (.ireturn, 1) := by decide +kernel
theorem dX0_second_0 : decode cX0_second 0 = .ok (.aload_n 0, 1) := by decide +kernel
theorem dX0_second_1 : decode cX0_second 1 = .ok (.getfield 53, 3) := by decide +kernel
theorem dX0_second_4 : decode cX0_second 4 = .ok (.ireturn, 1) := by decide +kernel
theorem dX0_towers_0 : decode cX0_towers 0 = .ok (.aload_n 0, 1) := by decide +kernel
theorem dX0_towers_1 : decode cX0_towers 1 = .ok (.getfield 44, 3) := by decide +kernel
theorem dX0_towers_4 : decode cX0_towers 4 = .ok (.ireturn, 1) := by decide +kernel
theorem dX0_silenceOf_0 : decode cX0_silenceOf 0 = .ok (.aload_n 0, 1) := by decide +kernel
theorem dX0_silenceOf_1 : decode cX0_silenceOf 1 = .ok (.iload_n 1, 1) := by decide +kernel
theorem dX0_silenceOf_2 : decode cX0_silenceOf 2 = .ok (.invokevirtual 71, 3) := by decide +kernel
theorem dX0_silenceOf_5 : decode cX0_silenceOf 5 = .ok (.aload_n 0, 1) := by decide +kernel
theorem dX0_silenceOf_6 : decode cX0_silenceOf 6 = .ok (.getfield 16, 3) := by decide +kernel
theorem dX0_silenceOf_9 : decode cX0_silenceOf 9 = .ok (.iload_n 1, 1) := by decide +kernel
theorem dX0_silenceOf_10 : decode cX0_silenceOf 10 = .ok (.iaload, 1) := by decide +kernel
theorem dX0_silenceOf_11 : decode cX0_silenceOf 11 = .ok (.ireturn, 1) := by decide +kernel
theorem dX0_dovesOn_0 : decode cX0_dovesOn 0 = .ok (.aload_n 0, 1) := by decide +kernel
theorem dX0_dovesOn_1 : decode cX0_dovesOn 1 = .ok (.iload_n 1, 1) := by decide +kernel
theorem dX0_dovesOn_2 : decode cX0_dovesOn 2 = .ok (.invokevirtual 71, 3) := by decide +kernel
theorem dX0_dovesOn_5 : decode cX0_dovesOn 5 = .ok (.aload_n 0, 1) := by decide +kernel
theorem dX0_dovesOn_6 : decode cX0_dovesOn 6 = .ok (.iload_n 1, 1) := by decide +kernel
theorem dX0_dovesOn_7 : decode cX0_dovesOn 7 = .ok (.invokevirtual 94, 3) := by decide +kernel
theorem dX0_dovesOn_10 : decode cX0_dovesOn 10 = .ok (.ireturn, 1) := by decide +kernel
theorem dX0_priceOf_0 : decode cX0_priceOf 0 = .ok (.aload_n 0, 1) := by decide +kernel
theorem dX0_priceOf_1 : decode cX0_priceOf 1 = .ok (.iload_n 1, 1) := by decide +kernel
theorem dX0_priceOf_2 : decode cX0_priceOf 2 = .ok (.invokevirtual 71, 3) := by decide +kernel
theorem dX0_priceOf_5 : decode cX0_priceOf 5 = .ok (.aload_n 0, 1) := by decide +kernel
theorem dX0_priceOf_6 : decode cX0_priceOf 6 = .ok (.iload_n 1, 1) := by decide +kernel
theorem dX0_priceOf_7 : decode cX0_priceOf 7 = .ok (.invokevirtual 77, 3) := by decide +kernel
theorem dX0_priceOf_10 : decode cX0_priceOf 10 = .ok (.ireturn, 1) := by decide +kernel
theorem dX0_secondsUntilStroke_0 : decode cX0_secondsUntilStroke 0 = .ok (.aload_n 0, 1) := by decide +kernel
theorem dX0_secondsUntilStroke_1 : decode cX0_secondsUntilStroke 1 = .ok (.iload_n 1, 1) := by decide +kernel
theorem dX0_secondsUntilStroke_2 : decode cX0_secondsUntilStroke 2 = .ok (.invokevirtual 71, 3) := by decide +kernel
theorem dX0_secondsUntilStroke_5 : decode cX0_secondsUntilStroke 5 = .ok (.aload_n 0, 1) := by decide +kernel
theorem dX0_secondsUntilStroke_6 : decode cX0_secondsUntilStroke 6 = .ok (.getfield 19, 3) := by decide +kernel
theorem dX0_secondsUntilStroke_9 : decode cX0_secondsUntilStroke 9 = .ok (.iload_n 1, 1) := by decide +kernel
theorem dX0_secondsUntilStroke_10 : decode cX0_secondsUntilStroke 10 = .ok (.iaload, 1) := by decide +kernel
theorem dX0_secondsUntilStroke_11 : decode cX0_secondsUntilStroke 11 = .ok (.ireturn, 1) := by decide +kernel
theorem dX0_strokesOf_0 : decode cX0_strokesOf 0 = .ok (.aload_n 0, 1) := by decide +kernel
theorem dX0_strokesOf_1 : decode cX0_strokesOf 1 = .ok (.iload_n 1, 1) := by decide +kernel
theorem dX0_strokesOf_2 : decode cX0_strokesOf 2 = .ok (.invokevirtual 71, 3) := by decide +kernel
theorem dX0_strokesOf_5 : decode cX0_strokesOf 5 = .ok (.aload_n 0, 1) := by decide +kernel
theorem dX0_strokesOf_6 : decode cX0_strokesOf 6 = .ok (.getfield 22, 3) := by decide +kernel
theorem dX0_strokesOf_9 : decode cX0_strokesOf 9 = .ok (.iload_n 1, 1) := by decide +kernel
theorem dX0_strokesOf_10 : decode cX0_strokesOf 10 = .ok (.iaload, 1) := by decide +kernel
theorem dX0_strokesOf_11 : decode cX0_strokesOf 11 = .ok (.ireturn, 1) := by decide +kernel
theorem dX0_openSeconds_0 : decode cX0_openSeconds 0 = .ok (.aload_n 0, 1) := by decide +kernel
theorem dX0_openSeconds_1 : decode cX0_openSeconds 1 = .ok (.iload_n 1, 1) := by decide +kernel
theorem dX0_openSeconds_2 : decode cX0_openSeconds 2 = .ok (.invokevirtual 71, 3) := by decide +kernel
theorem dX0_openSeconds_5 : decode cX0_openSeconds 5 = .ok (.aload_n 0, 1) := by decide +kernel
theorem dX0_openSeconds_6 : decode cX0_openSeconds 6 = .ok (.iload_n 1, 1) := by decide +kernel
theorem dX0_openSeconds_7 : decode cX0_openSeconds 7 = .ok (.invokevirtual 97, 3) := by decide +kernel
theorem dX0_openSeconds_10 : decode cX0_openSeconds 10 = .ok (.ireturn, 1) := by decide +kernel
theorem dX0_dearest_0 : decode cX0_dearest 0 = .ok (.iconst (-1), 1) := by decide +kernel
theorem dX0_dearest_1 : decode cX0_dearest 1 = .ok (.istore_n 1, 1) := by decide +kernel
theorem dX0_dearest_2 : decode cX0_dearest 2 = .ok (.iconst 0, 1) := by decide +kernel
theorem dX0_dearest_3 : decode cX0_dearest 3 = .ok (.istore_n 2, 1) := by decide +kernel
theorem dX0_dearest_4 : decode cX0_dearest 4 = .ok (.iload_n 2, 1) := by decide +kernel
theorem dX0_dearest_5 : decode cX0_dearest 5 = .ok (.aload_n 0, 1) := by decide +kernel
theorem dX0_dearest_6 : decode cX0_dearest 6 = .ok (.getfield 44, 3) := by decide +kernel
theorem dX0_dearest_9 : decode cX0_dearest 9 = .ok (.if_icmp .ge 28, 3) := by decide +kernel
theorem dX0_dearest_12 : decode cX0_dearest 12 = .ok (.iload_n 1, 1) := by decide +kernel
theorem dX0_dearest_13 : decode cX0_dearest 13 = .ok (.ifCond .lt 16, 3) := by decide +kernel
theorem dX0_dearest_16 : decode cX0_dearest 16 = .ok (.aload_n 0, 1) := by decide +kernel
theorem dX0_dearest_17 : decode cX0_dearest 17 = .ok (.iload_n 2, 1) := by decide +kernel
theorem dX0_dearest_18 : decode cX0_dearest 18 = .ok (.invokevirtual 77, 3) := by decide +kernel
theorem dX0_dearest_21 : decode cX0_dearest 21 = .ok (.aload_n 0, 1) := by decide +kernel
theorem dX0_dearest_22 : decode cX0_dearest 22 = .ok (.iload_n 1, 1) := by decide +kernel
theorem dX0_dearest_23 : decode cX0_dearest 23 = .ok (.invokevirtual 77, 3) := by decide +kernel
theorem dX0_dearest_26 : decode cX0_dearest 26 = .ok (.if_icmp .le 5, 3) := by decide +kernel
theorem dX0_dearest_29 : decode cX0_dearest 29 = .ok (.iload_n 2, 1) := by decide +kernel
theorem dX0_dearest_30 : decode cX0_dearest 30 = .ok (.istore_n 1, 1) := by decide +kernel
theorem dX0_dearest_31 : decode cX0_dearest 31 = .ok (.iinc 2 1, 3) := by decide +kernel
theorem dX0_dearest_34 : decode cX0_dearest 34 = .ok (.goto (-30), 3) := by decide +kernel
theorem dX0_dearest_37 : decode cX0_dearest 37 = .ok (.iload_n 1, 1) := by decide +kernel
theorem dX0_dearest_38 : decode cX0_dearest 38 = .ok (.ireturn, 1) := by decide +kernel
theorem dX0_nextToStrike_0 : decode cX0_nextToStrike 0 = .ok (.iconst (-1), 1) := by decide +kernel
theorem dX0_nextToStrike_1 : decode cX0_nextToStrike 1 = .ok (.istore_n 1, 1) := by decide +kernel
theorem dX0_nextToStrike_2 : decode cX0_nextToStrike 2 = .ok (.iconst 0, 1) := by decide +kernel
theorem dX0_nextToStrike_3 : decode cX0_nextToStrike 3 = .ok (.istore_n 2, 1) := by decide +kernel
theorem dX0_nextToStrike_4 : decode cX0_nextToStrike 4 = .ok (.iload_n 2, 1) := by decide +kernel
theorem dX0_nextToStrike_5 : decode cX0_nextToStrike 5 = .ok (.aload_n 0, 1) := by decide +kernel
theorem dX0_nextToStrike_6 : decode cX0_nextToStrike 6 = .ok (.getfield 44, 3) := by decide +kernel
theorem dX0_nextToStrike_9 : decode cX0_nextToStrike 9 = .ok (.if_icmp .ge 30, 3) := by decide +kernel
theorem dX0_nextToStrike_12 : decode cX0_nextToStrike 12 = .ok (.iload_n 1, 1) := by decide +kernel
theorem dX0_nextToStrike_13 : decode cX0_nextToStrike 13 = .ok (.ifCond .lt 18, 3) := by decide +kernel
theorem dX0_nextToStrike_16 : decode cX0_nextToStrike 16 = .ok (.aload_n 0, 1) := by decide +kernel
theorem dX0_nextToStrike_17 : decode cX0_nextToStrike 17 = .ok (.getfield 19, 3) := by decide +kernel
theorem dX0_nextToStrike_20 : decode cX0_nextToStrike 20 = .ok (.iload_n 2, 1) := by decide +kernel
theorem dX0_nextToStrike_21 : decode cX0_nextToStrike 21 = .ok (.iaload, 1) := by decide +kernel
theorem dX0_nextToStrike_22 : decode cX0_nextToStrike 22 = .ok (.aload_n 0, 1) := by decide +kernel
theorem dX0_nextToStrike_23 : decode cX0_nextToStrike 23 = .ok (.getfield 19, 3) := by decide +kernel
theorem dX0_nextToStrike_26 : decode cX0_nextToStrike 26 = .ok (.iload_n 1, 1) := by decide +kernel
theorem dX0_nextToStrike_27 : decode cX0_nextToStrike 27 = .ok (.iaload, 1) := by decide +kernel
theorem dX0_nextToStrike_28 : decode cX0_nextToStrike 28 = .ok (.if_icmp .ge 5, 3) := by decide +kernel
theorem dX0_nextToStrike_31 : decode cX0_nextToStrike 31 = .ok (.iload_n 2, 1) := by decide +kernel
theorem dX0_nextToStrike_32 : decode cX0_nextToStrike 32 = .ok (.istore_n 1, 1) := by decide +kernel
theorem dX0_nextToStrike_33 : decode cX0_nextToStrike 33 = .ok (.iinc 2 1, 3) := by decide +kernel
theorem dX0_nextToStrike_36 : decode cX0_nextToStrike 36 = .ok (.goto (-32), 3) := by decide +kernel
theorem dX0_nextToStrike_39 : decode cX0_nextToStrike 39 = .ok (.iload_n 1, 1) := by decide +kernel
theorem dX0_nextToStrike_40 : decode cX0_nextToStrike 40 = .ok (.ireturn, 1) := by decide +kernel
theorem dX0_traders_0 : decode cX0_traders 0 = .ok (.aload_n 0, 1) := by decide +kernel
theorem dX0_traders_1 : decode cX0_traders 1 = .ok (.getfield 62, 3) := by decide +kernel
theorem dX0_traders_4 : decode cX0_traders 4 = .ok (.ireturn, 1) := by decide +kernel
theorem dX0_purseOf_0 : decode cX0_purseOf 0 = .ok (.aload_n 0, 1) := by decide +kernel
theorem dX0_purseOf_1 : decode cX0_purseOf 1 = .ok (.iload_n 1, 1) := by decide +kernel
theorem dX0_purseOf_2 : decode cX0_purseOf 2 = .ok (.invokevirtual 67, 3) := by decide +kernel
theorem dX0_purseOf_5 : decode cX0_purseOf 5 = .ok (.aload_n 0, 1) := by decide +kernel
theorem dX0_purseOf_6 : decode cX0_purseOf 6 = .ok (.getfield 25, 3) := by decide +kernel
theorem dX0_purseOf_9 : decode cX0_purseOf 9 = .ok (.iload_n 1, 1) := by decide +kernel
theorem dX0_purseOf_10 : decode cX0_purseOf 10 = .ok (.iaload, 1) := by decide +kernel
theorem dX0_purseOf_11 : decode cX0_purseOf 11 = .ok (.ireturn, 1) := by decide +kernel
theorem dX0_holds_0 : decode cX0_holds 0 = .ok (.aload_n 0, 1) := by decide +kernel
theorem dX0_holds_1 : decode cX0_holds 1 = .ok (.iload_n 1, 1) := by decide +kernel
theorem dX0_holds_2 : decode cX0_holds 2 = .ok (.invokevirtual 67, 3) := by decide +kernel
theorem dX0_holds_5 : decode cX0_holds 5 = .ok (.aload_n 0, 1) := by decide +kernel
theorem dX0_holds_6 : decode cX0_holds 6 = .ok (.iload_n 2, 1) := by decide +kernel
theorem dX0_holds_7 : decode cX0_holds 7 = .ok (.invokevirtual 71, 3) := by decide +kernel
theorem dX0_holds_10 : decode cX0_holds 10 = .ok (.aload_n 0, 1) := by decide +kernel
theorem dX0_holds_11 : decode cX0_holds 11 = .ok (.getfield 30, 3) := by decide +kernel
theorem dX0_holds_14 : decode cX0_holds 14 = .ok (.iload_n 1, 1) := by decide +kernel
theorem dX0_holds_15 : decode cX0_holds 15 = .ok (.aaload, 1) := by decide +kernel
theorem dX0_holds_16 : decode cX0_holds 16 = .ok (.iload_n 2, 1) := by decide +kernel
theorem dX0_holds_17 : decode cX0_holds 17 = .ok (.iaload, 1) := by decide +kernel
theorem dX0_holds_18 : decode cX0_holds 18 = .ok (.ireturn, 1) := by decide +kernel
theorem dX0_worthOf_0 : decode cX0_worthOf 0 = .ok (.aload_n 0, 1) := by decide +kernel
theorem dX0_worthOf_1 : decode cX0_worthOf 1 = .ok (.iload_n 1, 1) := by decide +kernel
theorem dX0_worthOf_2 : decode cX0_worthOf 2 = .ok (.invokevirtual 67, 3) := by decide +kernel
theorem dX0_worthOf_5 : decode cX0_worthOf 5 = .ok (.aload_n 0, 1) := by decide +kernel
theorem dX0_worthOf_6 : decode cX0_worthOf 6 = .ok (.iload_n 1, 1) := by decide +kernel
theorem dX0_worthOf_7 : decode cX0_worthOf 7 = .ok (.iconst 0, 1) := by decide +kernel
theorem dX0_worthOf_8 : decode cX0_worthOf 8 = .ok (.invokevirtual 100, 3) := by decide +kernel
theorem dX0_worthOf_11 : decode cX0_worthOf 11 = .ok (.ireturn, 1) := by decide +kernel
theorem dX0_richest_0 : decode cX0_richest 0 = .ok (.iconst (-1), 1) := by decide +kernel
theorem dX0_richest_1 : decode cX0_richest 1 = .ok (.istore_n 1, 1) := by decide +kernel
theorem dX0_richest_2 : decode cX0_richest 2 = .ok (.iconst 0, 1) := by decide +kernel
theorem dX0_richest_3 : decode cX0_richest 3 = .ok (.istore_n 2, 1) := by decide +kernel
theorem dX0_richest_4 : decode cX0_richest 4 = .ok (.iload_n 2, 1) := by decide +kernel
theorem dX0_richest_5 : decode cX0_richest 5 = .ok (.aload_n 0, 1) := by decide +kernel
theorem dX0_richest_6 : decode cX0_richest 6 = .ok (.getfield 62, 3) := by decide +kernel
theorem dX0_richest_9 : decode cX0_richest 9 = .ok (.if_icmp .ge 30, 3) := by decide +kernel
theorem dX0_richest_12 : decode cX0_richest 12 = .ok (.iload_n 1, 1) := by decide +kernel
theorem dX0_richest_13 : decode cX0_richest 13 = .ok (.ifCond .lt 18, 3) := by decide +kernel
theorem dX0_richest_16 : decode cX0_richest 16 = .ok (.aload_n 0, 1) := by decide +kernel
theorem dX0_richest_17 : decode cX0_richest 17 = .ok (.iload_n 2, 1) := by decide +kernel
theorem dX0_richest_18 : decode cX0_richest 18 = .ok (.iconst 0, 1) := by decide +kernel
theorem dX0_richest_19 : decode cX0_richest 19 = .ok (.invokevirtual 100, 3) := by decide +kernel
theorem dX0_richest_22 : decode cX0_richest 22 = .ok (.aload_n 0, 1) := by decide +kernel
theorem dX0_richest_23 : decode cX0_richest 23 = .ok (.iload_n 1, 1) := by decide +kernel
theorem dX0_richest_24 : decode cX0_richest 24 = .ok (.iconst 0, 1) := by decide +kernel
theorem dX0_richest_25 : decode cX0_richest 25 = .ok (.invokevirtual 100, 3) := by decide +kernel
theorem dX0_richest_28 : decode cX0_richest 28 = .ok (.if_icmp .le 5, 3) := by decide +kernel
theorem dX0_richest_31 : decode cX0_richest 31 = .ok (.iload_n 2, 1) := by decide +kernel
theorem dX0_richest_32 : decode cX0_richest 32 = .ok (.istore_n 1, 1) := by decide +kernel
theorem dX0_richest_33 : decode cX0_richest 33 = .ok (.iinc 2 1, 3) := by decide +kernel
theorem dX0_richest_36 : decode cX0_richest 36 = .ok (.goto (-32), 3) := by decide +kernel
theorem dX0_richest_39 : decode cX0_richest 39 = .ok (.iload_n 1, 1) := by decide +kernel
theorem dX0_richest_40 : decode cX0_richest 40 = .ok (.ireturn, 1) := by decide +kernel
theorem dX0_shortsOf_0 : decode cX0_shortsOf 0 = .ok (.aload_n 0, 1) := by decide +kernel
theorem dX0_shortsOf_1 : decode cX0_shortsOf 1 = .ok (.iload_n 1, 1) := by decide +kernel
theorem dX0_shortsOf_2 : decode cX0_shortsOf 2 = .ok (.invokevirtual 67, 3) := by decide +kernel
theorem dX0_shortsOf_5 : decode cX0_shortsOf 5 = .ok (.aload_n 0, 1) := by decide +kernel
theorem dX0_shortsOf_6 : decode cX0_shortsOf 6 = .ok (.iload_n 1, 1) := by decide +kernel
theorem dX0_shortsOf_7 : decode cX0_shortsOf 7 = .ok (.invokevirtual 103, 3) := by decide +kernel
theorem dX0_shortsOf_10 : decode cX0_shortsOf 10 = .ok (.ireturn, 1) := by decide +kernel
theorem dX0_inDebt_0 : decode cX0_inDebt 0 = .ok (.iconst 0, 1) := by decide +kernel
theorem dX0_inDebt_1 : decode cX0_inDebt 1 = .ok (.istore_n 1, 1) := by decide +kernel
theorem dX0_inDebt_2 : decode cX0_inDebt 2 = .ok (.iconst 0, 1) := by decide +kernel
theorem dX0_inDebt_3 : decode cX0_inDebt 3 = .ok (.istore_n 2, 1) := by decide +kernel
theorem dX0_inDebt_4 : decode cX0_inDebt 4 = .ok (.iload_n 2, 1) := by decide +kernel
theorem dX0_inDebt_5 : decode cX0_inDebt 5 = .ok (.aload_n 0, 1) := by decide +kernel
theorem dX0_inDebt_6 : decode cX0_inDebt 6 = .ok (.getfield 62, 3) := by decide +kernel
theorem dX0_inDebt_9 : decode cX0_inDebt 9 = .ok (.if_icmp .ge 21, 3) := by decide +kernel
theorem dX0_inDebt_12 : decode cX0_inDebt 12 = .ok (.aload_n 0, 1) := by decide +kernel
theorem dX0_inDebt_13 : decode cX0_inDebt 13 = .ok (.getfield 25, 3) := by decide +kernel
theorem dX0_inDebt_16 : decode cX0_inDebt 16 = .ok (.iload_n 2, 1) := by decide +kernel
theorem dX0_inDebt_17 : decode cX0_inDebt 17 = .ok (.iaload, 1) := by decide +kernel
theorem dX0_inDebt_18 : decode cX0_inDebt 18 = .ok (.ifCond .ge 6, 3) := by decide +kernel
theorem dX0_inDebt_21 : decode cX0_inDebt 21 = .ok (.iinc 1 1, 3) := by decide +kernel
theorem dX0_inDebt_24 : decode cX0_inDebt 24 = .ok (.iinc 2 1, 3) := by decide +kernel
theorem dX0_inDebt_27 : decode cX0_inDebt 27 = .ok (.goto (-23), 3) := by decide +kernel
theorem dX0_inDebt_30 : decode cX0_inDebt 30 = .ok (.iload_n 1, 1) := by decide +kernel
theorem dX0_inDebt_31 : decode cX0_inDebt 31 = .ok (.ireturn, 1) := by decide +kernel
theorem dX0_closingPrice_0 : decode cX0_closingPrice 0 = .ok (.aload_n 0, 1) := by decide +kernel
theorem dX0_closingPrice_1 : decode cX0_closingPrice 1 = .ok (.iload_n 1, 1) := by decide +kernel
theorem dX0_closingPrice_2 : decode cX0_closingPrice 2 = .ok (.invokevirtual 71, 3) := by decide +kernel
theorem dX0_closingPrice_5 : decode cX0_closingPrice 5 = .ok (.aload_n 0, 1) := by decide +kernel
theorem dX0_closingPrice_6 : decode cX0_closingPrice 6 = .ok (.iload_n 1, 1) := by decide +kernel
theorem dX0_closingPrice_7 : decode cX0_closingPrice 7 = .ok (.invokevirtual 106, 3) := by decide +kernel
theorem dX0_closingPrice_10 : decode cX0_closingPrice 10 = .ok (.ireturn, 1) := by decide +kernel
theorem dX0_priceIn_0 : decode cX0_priceIn 0 = .ok (.aload_n 0, 1) := by decide +kernel
theorem dX0_priceIn_1 : decode cX0_priceIn 1 = .ok (.iload_n 1, 1) := by decide +kernel
theorem dX0_priceIn_2 : decode cX0_priceIn 2 = .ok (.invokevirtual 71, 3) := by decide +kernel
theorem dX0_priceIn_5 : decode cX0_priceIn 5 = .ok (.iload_n 2, 1) := by decide +kernel
theorem dX0_priceIn_6 : decode cX0_priceIn 6 = .ok (.invokestatic 87, 3) := by decide +kernel
theorem dX0_priceIn_9 : decode cX0_priceIn 9 = .ok (.aload_n 0, 1) := by decide +kernel
theorem dX0_priceIn_10 : decode cX0_priceIn 10 = .ok (.iload_n 1, 1) := by decide +kernel
theorem dX0_priceIn_11 : decode cX0_priceIn 11 = .ok (.iload_n 2, 1) := by decide +kernel
theorem dX0_priceIn_12 : decode cX0_priceIn 12 = .ok (.invokevirtual 109, 3) := by decide +kernel
theorem dX0_priceIn_15 : decode cX0_priceIn 15 = .ok (.ireturn, 1) := by decide +kernel
theorem dX0_worthIn_0 : decode cX0_worthIn 0 = .ok (.aload_n 0, 1) := by decide +kernel
theorem dX0_worthIn_1 : decode cX0_worthIn 1 = .ok (.iload_n 1, 1) := by decide +kernel
theorem dX0_worthIn_2 : decode cX0_worthIn 2 = .ok (.invokevirtual 67, 3) := by decide +kernel
theorem dX0_worthIn_5 : decode cX0_worthIn 5 = .ok (.iload_n 2, 1) := by decide +kernel
theorem dX0_worthIn_6 : decode cX0_worthIn 6 = .ok (.invokestatic 87, 3) := by decide +kernel
theorem dX0_worthIn_9 : decode cX0_worthIn 9 = .ok (.aload_n 0, 1) := by decide +kernel
theorem dX0_worthIn_10 : decode cX0_worthIn 10 = .ok (.iload_n 1, 1) := by decide +kernel
theorem dX0_worthIn_11 : decode cX0_worthIn 11 = .ok (.iload_n 2, 1) := by decide +kernel
theorem dX0_worthIn_12 : decode cX0_worthIn 12 = .ok (.invokevirtual 100, 3) := by decide +kernel
theorem dX0_worthIn_15 : decode cX0_worthIn 15 = .ok (.ireturn, 1) := by decide +kernel
theorem dX0_bestToBuy_0 : decode cX0_bestToBuy 0 = .ok (.iconst (-1), 1) := by decide +kernel
theorem dX0_bestToBuy_1 : decode cX0_bestToBuy 1 = .ok (.istore_n 1, 1) := by decide +kernel
theorem dX0_bestToBuy_2 : decode cX0_bestToBuy 2 = .ok (.iconst 0, 1) := by decide +kernel
theorem dX0_bestToBuy_3 : decode cX0_bestToBuy 3 = .ok (.istore_n 2, 1) := by decide +kernel
theorem dX0_bestToBuy_4 : decode cX0_bestToBuy 4 = .ok (.iload_n 2, 1) := by decide +kernel
theorem dX0_bestToBuy_5 : decode cX0_bestToBuy 5 = .ok (.aload_n 0, 1) := by decide +kernel
theorem dX0_bestToBuy_6 : decode cX0_bestToBuy 6 = .ok (.getfield 44, 3) := by decide +kernel
theorem dX0_bestToBuy_9 : decode cX0_bestToBuy 9 = .ok (.if_icmp .ge 34, 3) := by decide +kernel
theorem dX0_bestToBuy_12 : decode cX0_bestToBuy 12 = .ok (.aload_n 0, 1) := by decide +kernel
theorem dX0_bestToBuy_13 : decode cX0_bestToBuy 13 = .ok (.iload_n 2, 1) := by decide +kernel
theorem dX0_bestToBuy_14 : decode cX0_bestToBuy 14 = .ok (.invokevirtual 112, 3) := by decide +kernel
theorem dX0_bestToBuy_17 : decode cX0_bestToBuy 17 = .ok (.istore_n 3, 1) := by decide +kernel
theorem dX0_bestToBuy_18 : decode cX0_bestToBuy 18 = .ok (.iload_n 3, 1) := by decide +kernel
theorem dX0_bestToBuy_19 : decode cX0_bestToBuy 19 = .ok (.ifCond .le 18, 3) := by decide +kernel
theorem dX0_bestToBuy_22 : decode cX0_bestToBuy 22 = .ok (.iload_n 1, 1) := by decide +kernel
theorem dX0_bestToBuy_23 : decode cX0_bestToBuy 23 = .ok (.ifCond .lt 12, 3) := by decide +kernel
theorem dX0_bestToBuy_26 : decode cX0_bestToBuy 26 = .ok (.iload_n 3, 1) := by decide +kernel
theorem dX0_bestToBuy_27 : decode cX0_bestToBuy 27 = .ok (.aload_n 0, 1) := by decide +kernel
theorem dX0_bestToBuy_28 : decode cX0_bestToBuy 28 = .ok (.iload_n 1, 1) := by decide +kernel
theorem dX0_bestToBuy_29 : decode cX0_bestToBuy 29 = .ok (.invokevirtual 112, 3) := by decide +kernel
theorem dX0_bestToBuy_32 : decode cX0_bestToBuy 32 = .ok (.if_icmp .le 5, 3) := by decide +kernel
theorem dX0_bestToBuy_35 : decode cX0_bestToBuy 35 = .ok (.iload_n 2, 1) := by decide +kernel
theorem dX0_bestToBuy_36 : decode cX0_bestToBuy 36 = .ok (.istore_n 1, 1) := by decide +kernel
theorem dX0_bestToBuy_37 : decode cX0_bestToBuy 37 = .ok (.iinc 2 1, 3) := by decide +kernel
theorem dX0_bestToBuy_40 : decode cX0_bestToBuy 40 = .ok (.goto (-36), 3) := by decide +kernel
theorem dX0_bestToBuy_43 : decode cX0_bestToBuy 43 = .ok (.iload_n 1, 1) := by decide +kernel
theorem dX0_bestToBuy_44 : decode cX0_bestToBuy 44 = .ok (.ireturn, 1) := by decide +kernel
theorem dX0_bestToSell_0 : decode cX0_bestToSell 0 = .ok (.aload_n 0, 1) := by decide +kernel
theorem dX0_bestToSell_1 : decode cX0_bestToSell 1 = .ok (.iload_n 1, 1) := by decide +kernel
theorem dX0_bestToSell_2 : decode cX0_bestToSell 2 = .ok (.invokevirtual 67, 3) := by decide +kernel
theorem dX0_bestToSell_5 : decode cX0_bestToSell 5 = .ok (.aload_n 0, 1) := by decide +kernel
theorem dX0_bestToSell_6 : decode cX0_bestToSell 6 = .ok (.iload_n 2, 1) := by decide +kernel
theorem dX0_bestToSell_7 : decode cX0_bestToSell 7 = .ok (.invokevirtual 71, 3) := by decide +kernel
theorem dX0_bestToSell_10 : decode cX0_bestToSell 10 = .ok (.bipush 9, 2) := by decide +kernel
theorem dX0_bestToSell_12 : decode cX0_bestToSell 12 = .ok (.aload_n 0, 1) := by decide +kernel
theorem dX0_bestToSell_13 : decode cX0_bestToSell 13 = .ok (.getfield 30, 3) := by decide +kernel
theorem dX0_bestToSell_16 : decode cX0_bestToSell 16 = .ok (.iload_n 1, 1) := by decide +kernel
theorem dX0_bestToSell_17 : decode cX0_bestToSell 17 = .ok (.aaload, 1) := by decide +kernel
theorem dX0_bestToSell_18 : decode cX0_bestToSell 18 = .ok (.iload_n 2, 1) := by decide +kernel
theorem dX0_bestToSell_19 : decode cX0_bestToSell 19 = .ok (.iaload, 1) := by decide +kernel
theorem dX0_bestToSell_20 : decode cX0_bestToSell 20 = .ok (.bipush 9, 2) := by decide +kernel
theorem dX0_bestToSell_22 : decode cX0_bestToSell 22 = .ok (.iadd, 1) := by decide +kernel
theorem dX0_bestToSell_23 : decode cX0_bestToSell 23 = .ok (.invokestatic 115, 3) := by decide +kernel
theorem dX0_bestToSell_26 : decode cX0_bestToSell 26 = .ok (.istore_n 3, 1) := by decide +kernel
theorem dX0_bestToSell_27 : decode cX0_bestToSell 27 = .ok (.iconst 0, 1) := by decide +kernel
theorem dX0_bestToSell_28 : decode cX0_bestToSell 28 = .ok (.istore 4, 2) := by decide +kernel
theorem dX0_bestToSell_30 : decode cX0_bestToSell 30 = .ok (.iconst 1, 1) := by decide +kernel
theorem dX0_bestToSell_31 : decode cX0_bestToSell 31 = .ok (.istore 5, 2) := by decide +kernel
theorem dX0_bestToSell_33 : decode cX0_bestToSell 33 = .ok (.iload 5, 2) := by decide +kernel
theorem dX0_bestToSell_35 : decode cX0_bestToSell 35 = .ok (.iload_n 3, 1) := by decide +kernel
theorem dX0_bestToSell_36 : decode cX0_bestToSell 36 = .ok (.if_icmp .gt 32, 3) := by decide +kernel
theorem dX0_bestToSell_39 : decode cX0_bestToSell 39 = .ok (.aload_n 0, 1) := by decide +kernel
theorem dX0_bestToSell_40 : decode cX0_bestToSell 40 = .ok (.iload_n 1, 1) := by decide +kernel
theorem dX0_bestToSell_41 : decode cX0_bestToSell 41 = .ok (.iload_n 2, 1) := by decide +kernel
theorem dX0_bestToSell_42 : decode cX0_bestToSell 42 = .ok (.iload 5, 2) := by decide +kernel
theorem dX0_bestToSell_44 : decode cX0_bestToSell 44 = .ok (.invokevirtual 118, 3) := by decide +kernel
theorem dX0_bestToSell_47 : decode cX0_bestToSell 47 = .ok (.aload_n 0, 1) := by decide +kernel
theorem dX0_bestToSell_48 : decode cX0_bestToSell 48 = .ok (.iload_n 1, 1) := by decide +kernel
theorem dX0_bestToSell_49 : decode cX0_bestToSell 49 = .ok (.iload_n 2, 1) := by decide +kernel
theorem dX0_bestToSell_50 : decode cX0_bestToSell 50 = .ok (.iload 4, 2) := by decide +kernel
theorem dX0_bestToSell_52 : decode cX0_bestToSell 52 = .ok (.invokevirtual 118, 3) := by decide +kernel
theorem dX0_bestToSell_55 : decode cX0_bestToSell 55 = .ok (.if_icmp .le 7, 3) := by decide +kernel
theorem dX0_bestToSell_58 : decode cX0_bestToSell 58 = .ok (.iload 5, 2) := by decide +kernel
theorem dX0_bestToSell_60 : decode cX0_bestToSell 60 = .ok (.istore 4, 2) := by decide +kernel
theorem dX0_bestToSell_62 : decode cX0_bestToSell 62 = .ok (.iinc 5 1, 3) := by decide +kernel
theorem dX0_bestToSell_65 : decode cX0_bestToSell 65 = .ok (.goto (-32), 3) := by decide +kernel
theorem dX0_bestToSell_68 : decode cX0_bestToSell 68 = .ok (.iload 4, 2) := by decide +kernel
theorem dX0_bestToSell_70 : decode cX0_bestToSell 70 = .ok (.ireturn, 1) := by decide +kernel
theorem dX0_secondsUntilDebt_0 : decode cX0_secondsUntilDebt 0 = .ok (.aload_n 0, 1) := by decide +kernel
theorem dX0_secondsUntilDebt_1 : decode cX0_secondsUntilDebt 1 = .ok (.iload_n 1, 1) := by decide +kernel
theorem dX0_secondsUntilDebt_2 : decode cX0_secondsUntilDebt 2 = .ok (.invokevirtual 67, 3) := by decide +kernel
theorem dX0_secondsUntilDebt_5 : decode cX0_secondsUntilDebt 5 = .ok (.aload_n 0, 1) := by decide +kernel
theorem dX0_secondsUntilDebt_6 : decode cX0_secondsUntilDebt 6 = .ok (.getfield 25, 3) := by decide +kernel
theorem dX0_secondsUntilDebt_9 : decode cX0_secondsUntilDebt 9 = .ok (.iload_n 1, 1) := by decide +kernel
theorem dX0_secondsUntilDebt_10 : decode cX0_secondsUntilDebt 10 = .ok (.iaload, 1) := by decide +kernel
theorem dX0_secondsUntilDebt_11 : decode cX0_secondsUntilDebt 11 = .ok (.istore_n 2, 1) := by decide +kernel
theorem dX0_secondsUntilDebt_12 : decode cX0_secondsUntilDebt 12 = .ok (.iconst 0, 1) := by decide +kernel
theorem dX0_secondsUntilDebt_13 : decode cX0_secondsUntilDebt 13 = .ok (.istore_n 3, 1) := by decide +kernel
theorem dX0_secondsUntilDebt_14 : decode cX0_secondsUntilDebt 14 = .ok (.iload_n 3, 1) := by decide +kernel
theorem dX0_secondsUntilDebt_15 : decode cX0_secondsUntilDebt 15 = .ok (.bipush 100, 2) := by decide +kernel
theorem dX0_secondsUntilDebt_17 : decode cX0_secondsUntilDebt 17 = .ok (.if_icmp .gt 24, 3) := by decide +kernel
theorem dX0_secondsUntilDebt_20 : decode cX0_secondsUntilDebt 20 = .ok (.iload_n 2, 1) := by decide +kernel
theorem dX0_secondsUntilDebt_21 : decode cX0_secondsUntilDebt 21 = .ok (.aload_n 0, 1) := by decide +kernel
theorem dX0_secondsUntilDebt_22 : decode cX0_secondsUntilDebt 22 = .ok (.iload_n 1, 1) := by decide +kernel
theorem dX0_secondsUntilDebt_23 : decode cX0_secondsUntilDebt 23 = .ok (.iload_n 3, 1) := by decide +kernel
theorem dX0_secondsUntilDebt_24 : decode cX0_secondsUntilDebt 24 = .ok (.invokevirtual 122, 3) := by decide +kernel
theorem dX0_secondsUntilDebt_27 : decode cX0_secondsUntilDebt 27 = .ok (.iadd, 1) := by decide +kernel
theorem dX0_secondsUntilDebt_28 : decode cX0_secondsUntilDebt 28 = .ok (.istore_n 2, 1) := by decide +kernel
theorem dX0_secondsUntilDebt_29 : decode cX0_secondsUntilDebt 29 = .ok (.iload_n 2, 1) := by decide +kernel
theorem dX0_secondsUntilDebt_30 : decode cX0_secondsUntilDebt 30 = .ok (.ifCond .ge 5, 3) := by decide +kernel
theorem dX0_secondsUntilDebt_33 : decode cX0_secondsUntilDebt 33 = .ok (.iload_n 3, 1) := by decide +kernel
theorem dX0_secondsUntilDebt_34 : decode cX0_secondsUntilDebt 34 = .ok (.ireturn, 1) := by decide +kernel
theorem dX0_secondsUntilDebt_35 : decode cX0_secondsUntilDebt 35 = .ok (.iinc 3 1, 3) := by decide +kernel
theorem dX0_secondsUntilDebt_38 : decode cX0_secondsUntilDebt 38 = .ok (.goto (-24), 3) := by decide +kernel
theorem dX0_secondsUntilDebt_41 : decode cX0_secondsUntilDebt 41 = .ok (.iconst (-1), 1) := by decide +kernel
theorem dX0_secondsUntilDebt_42 : decode cX0_secondsUntilDebt 42 = .ok (.ireturn, 1) := by decide +kernel
theorem dX0_meanPrice_0 : decode cX0_meanPrice 0 = .ok (.aload_n 0, 1) := by decide +kernel
theorem dX0_meanPrice_1 : decode cX0_meanPrice 1 = .ok (.getfield 44, 3) := by decide +kernel
theorem dX0_meanPrice_4 : decode cX0_meanPrice 4 = .ok (.iconst 1, 1) := by decide +kernel
theorem dX0_meanPrice_5 : decode cX0_meanPrice 5 = .ok (.if_icmp .ge 5, 3) := by decide +kernel
theorem dX0_meanPrice_8 : decode cX0_meanPrice 8 = .ok (.dconst 0, 1) := by decide +kernel
theorem dX0_meanPrice_9 : decode cX0_meanPrice 9 = .ok (.dreturn, 1) := by decide +kernel
theorem dX0_meanPrice_10 : decode cX0_meanPrice 10 = .ok (.iconst 0, 1) := by decide +kernel
theorem dX0_meanPrice_11 : decode cX0_meanPrice 11 = .ok (.istore_n 1, 1) := by decide +kernel
theorem dX0_meanPrice_12 : decode cX0_meanPrice 12 = .ok (.iconst 0, 1) := by decide +kernel
theorem dX0_meanPrice_13 : decode cX0_meanPrice 13 = .ok (.istore_n 2, 1) := by decide +kernel
theorem dX0_meanPrice_14 : decode cX0_meanPrice 14 = .ok (.iload_n 2, 1) := by decide +kernel
theorem dX0_meanPrice_15 : decode cX0_meanPrice 15 = .ok (.aload_n 0, 1) := by decide +kernel
theorem dX0_meanPrice_16 : decode cX0_meanPrice 16 = .ok (.getfield 44, 3) := by decide +kernel
theorem dX0_meanPrice_19 : decode cX0_meanPrice 19 = .ok (.if_icmp .ge 17, 3) := by decide +kernel
theorem dX0_meanPrice_22 : decode cX0_meanPrice 22 = .ok (.iload_n 1, 1) := by decide +kernel
theorem dX0_meanPrice_23 : decode cX0_meanPrice 23 = .ok (.aload_n 0, 1) := by decide +kernel
theorem dX0_meanPrice_24 : decode cX0_meanPrice 24 = .ok (.iload_n 2, 1) := by decide +kernel
theorem dX0_meanPrice_25 : decode cX0_meanPrice 25 = .ok (.invokevirtual 77, 3) := by decide +kernel
theorem dX0_meanPrice_28 : decode cX0_meanPrice 28 = .ok (.iadd, 1) := by decide +kernel
theorem dX0_meanPrice_29 : decode cX0_meanPrice 29 = .ok (.istore_n 1, 1) := by decide +kernel
theorem dX0_meanPrice_30 : decode cX0_meanPrice 30 = .ok (.iinc 2 1, 3) := by decide +kernel
theorem dX0_meanPrice_33 : decode cX0_meanPrice 33 = .ok (.goto (-19), 3) := by decide +kernel
theorem dX0_meanPrice_36 : decode cX0_meanPrice 36 = .ok (.iload_n 1, 1) := by decide +kernel
theorem dX0_meanPrice_37 : decode cX0_meanPrice 37 = .ok (.i2d, 1) := by decide +kernel
theorem dX0_meanPrice_38 : decode cX0_meanPrice 38 = .ok (.aload_n 0, 1) := by decide +kernel
theorem dX0_meanPrice_39 : decode cX0_meanPrice 39 = .ok (.getfield 44, 3) := by decide +kernel
theorem dX0_meanPrice_42 : decode cX0_meanPrice 42 = .ok (.i2d, 1) := by decide +kernel
theorem dX0_meanPrice_43 : decode cX0_meanPrice 43 = .ok (.ddiv, 1) := by decide +kernel
theorem dX0_meanPrice_44 : decode cX0_meanPrice 44 = .ok (.dreturn, 1) := by decide +kernel
theorem dX0_digest_0 : decode cX0_digest 0 = .ok (.ldc2_w 125, 3) := by decide +kernel
theorem dX0_digest_3 : decode cX0_digest 3 = .ok (.aload_n 0, 1) := by decide +kernel
theorem dX0_digest_4 : decode cX0_digest 4 = .ok (.getfield 53, 3) := by decide +kernel
theorem dX0_digest_7 : decode cX0_digest 7 = .ok (.invokestatic 127, 3) := by decide +kernel
theorem dX0_digest_10 : decode cX0_digest 10 = .ok (.lstore_n 1, 1) := by decide +kernel
theorem dX0_digest_11 : decode cX0_digest 11 = .ok (.lload_n 1, 1) := by decide +kernel
theorem dX0_digest_12 : decode cX0_digest 12 = .ok (.aload_n 0, 1) := by decide +kernel
theorem dX0_digest_13 : decode cX0_digest 13 = .ok (.getfield 44, 3) := by decide +kernel
theorem dX0_digest_16 : decode cX0_digest 16 = .ok (.invokestatic 127, 3) := by decide +kernel
theorem dX0_digest_19 : decode cX0_digest 19 = .ok (.lstore_n 1, 1) := by decide +kernel
theorem dX0_digest_20 : decode cX0_digest 20 = .ok (.lload_n 1, 1) := by decide +kernel
theorem dX0_digest_21 : decode cX0_digest 21 = .ok (.aload_n 0, 1) := by decide +kernel
theorem dX0_digest_22 : decode cX0_digest 22 = .ok (.getfield 62, 3) := by decide +kernel
theorem dX0_digest_25 : decode cX0_digest 25 = .ok (.invokestatic 127, 3) := by decide +kernel
theorem dX0_digest_28 : decode cX0_digest 28 = .ok (.lstore_n 1, 1) := by decide +kernel
theorem dX0_digest_29 : decode cX0_digest 29 = .ok (.lload_n 1, 1) := by decide +kernel
theorem dX0_digest_30 : decode cX0_digest 30 = .ok (.aload_n 0, 1) := by decide +kernel
theorem dX0_digest_31 : decode cX0_digest 31 = .ok (.invokevirtual 131, 3) := by decide +kernel
theorem dX0_digest_34 : decode cX0_digest 34 = .ok (.invokestatic 127, 3) := by decide +kernel
theorem dX0_digest_37 : decode cX0_digest 37 = .ok (.lstore_n 1, 1) := by decide +kernel
theorem dX0_digest_38 : decode cX0_digest 38 = .ok (.lload_n 1, 1) := by decide +kernel
theorem dX0_digest_39 : decode cX0_digest 39 = .ok (.aload_n 0, 1) := by decide +kernel
theorem dX0_digest_40 : decode cX0_digest 40 = .ok (.invokevirtual 134, 3) := by decide +kernel
theorem dX0_digest_43 : decode cX0_digest 43 = .ok (.invokestatic 127, 3) := by decide +kernel
theorem dX0_digest_46 : decode cX0_digest 46 = .ok (.lstore_n 1, 1) := by decide +kernel
theorem dX0_digest_47 : decode cX0_digest 47 = .ok (.lload_n 1, 1) := by decide +kernel
theorem dX0_digest_48 : decode cX0_digest 48 = .ok (.aload_n 0, 1) := by decide +kernel
theorem dX0_digest_49 : decode cX0_digest 49 = .ok (.invokevirtual 137, 3) := by decide +kernel
theorem dX0_digest_52 : decode cX0_digest 52 = .ok (.invokestatic 127, 3) := by decide +kernel
theorem dX0_digest_55 : decode cX0_digest 55 = .ok (.lstore_n 1, 1) := by decide +kernel
theorem dX0_digest_56 : decode cX0_digest 56 = .ok (.lload_n 1, 1) := by decide +kernel
theorem dX0_digest_57 : decode cX0_digest 57 = .ok (.aload_n 0, 1) := by decide +kernel
theorem dX0_digest_58 : decode cX0_digest 58 = .ok (.invokevirtual 140, 3) := by decide +kernel
theorem dX0_digest_61 : decode cX0_digest 61 = .ok (.invokestatic 127, 3) := by decide +kernel
theorem dX0_digest_64 : decode cX0_digest 64 = .ok (.lstore_n 1, 1) := by decide +kernel
theorem dX0_digest_65 : decode cX0_digest 65 = .ok (.lload_n 1, 1) := by decide +kernel
theorem dX0_digest_66 : decode cX0_digest 66 = .ok (.aload_n 0, 1) := by decide +kernel
theorem dX0_digest_67 : decode cX0_digest 67 = .ok (.invokevirtual 143, 3) := by decide +kernel
theorem dX0_digest_70 : decode cX0_digest 70 = .ok (.invokestatic 127, 3) := by decide +kernel
theorem dX0_digest_73 : decode cX0_digest 73 = .ok (.lstore_n 1, 1) := by decide +kernel
theorem dX0_digest_74 : decode cX0_digest 74 = .ok (.iconst 0, 1) := by decide +kernel
theorem dX0_digest_75 : decode cX0_digest 75 = .ok (.istore_n 3, 1) := by decide +kernel
theorem dX0_digest_76 : decode cX0_digest 76 = .ok (.iload_n 3, 1) := by decide +kernel
theorem dX0_digest_77 : decode cX0_digest 77 = .ok (.aload_n 0, 1) := by decide +kernel
theorem dX0_digest_78 : decode cX0_digest 78 = .ok (.getfield 44, 3) := by decide +kernel
theorem dX0_digest_81 : decode cX0_digest 81 = .ok (.if_icmp .ge 16, 3) := by decide +kernel
theorem dX0_digest_84 : decode cX0_digest 84 = .ok (.aload_n 0, 1) := by decide +kernel
theorem dX0_digest_85 : decode cX0_digest 85 = .ok (.lload_n 1, 1) := by decide +kernel
theorem dX0_digest_86 : decode cX0_digest 86 = .ok (.iload_n 3, 1) := by decide +kernel
theorem dX0_digest_87 : decode cX0_digest 87 = .ok (.invokevirtual 146, 3) := by decide +kernel
theorem dX0_digest_90 : decode cX0_digest 90 = .ok (.lstore_n 1, 1) := by decide +kernel
theorem dX0_digest_91 : decode cX0_digest 91 = .ok (.iinc 3 1, 3) := by decide +kernel
theorem dX0_digest_94 : decode cX0_digest 94 = .ok (.goto (-18), 3) := by decide +kernel
theorem dX0_digest_97 : decode cX0_digest 97 = .ok (.iconst 0, 1) := by decide +kernel
theorem dX0_digest_98 : decode cX0_digest 98 = .ok (.istore_n 3, 1) := by decide +kernel
theorem dX0_digest_99 : decode cX0_digest 99 = .ok (.iload_n 3, 1) := by decide +kernel
theorem dX0_digest_100 : decode cX0_digest 100 = .ok (.aload_n 0, 1) := by decide +kernel
theorem dX0_digest_101 : decode cX0_digest 101 = .ok (.getfield 62, 3) := by decide +kernel
theorem dX0_digest_104 : decode cX0_digest 104 = .ok (.if_icmp .ge 16, 3) := by decide +kernel
theorem dX0_digest_107 : decode cX0_digest 107 = .ok (.aload_n 0, 1) := by decide +kernel
theorem dX0_digest_108 : decode cX0_digest 108 = .ok (.lload_n 1, 1) := by decide +kernel
theorem dX0_digest_109 : decode cX0_digest 109 = .ok (.iload_n 3, 1) := by decide +kernel
theorem dX0_digest_110 : decode cX0_digest 110 = .ok (.invokevirtual 149, 3) := by decide +kernel
theorem dX0_digest_113 : decode cX0_digest 113 = .ok (.lstore_n 1, 1) := by decide +kernel
theorem dX0_digest_114 : decode cX0_digest 114 = .ok (.iinc 3 1, 3) := by decide +kernel
theorem dX0_digest_117 : decode cX0_digest 117 = .ok (.goto (-18), 3) := by decide +kernel
theorem dX0_digest_120 : decode cX0_digest 120 = .ok (.lload_n 1, 1) := by decide +kernel
theorem dX0_digest_121 : decode cX0_digest 121 = .ok (.lreturn, 1) := by decide +kernel
theorem dX0_requireTower_0 : decode cX0_requireTower 0 = .ok (.iload_n 1, 1) := by decide +kernel
theorem dX0_requireTower_1 : decode cX0_requireTower 1 = .ok (.ifCond .lt 11, 3) := by decide +kernel
theorem dX0_requireTower_4 : decode cX0_requireTower 4 = .ok (.iload_n 1, 1) := by decide +kernel
theorem dX0_requireTower_5 : decode cX0_requireTower 5 = .ok (.aload_n 0, 1) := by decide +kernel
theorem dX0_requireTower_6 : decode cX0_requireTower 6 = .ok (.getfield 44, 3) := by decide +kernel
theorem dX0_requireTower_9 : decode cX0_requireTower 9 = .ok (.if_icmp .lt 13, 3) := by decide +kernel
theorem dX0_requireTower_12 : decode cX0_requireTower 12 = .ok (.new 152, 3) := by decide +kernel
theorem dX0_requireTower_15 : decode cX0_requireTower 15 = .ok (.dup, 1) := by decide +kernel
theorem dX0_requireTower_16 : decode cX0_requireTower 16 = .ok (.ldc 154, 2) := by decide +kernel
theorem dX0_requireTower_18 : decode cX0_requireTower 18 = .ok (.invokespecial 156, 3) := by decide +kernel
theorem dX0_requireTower_21 : decode cX0_requireTower 21 = .ok (.athrow, 1) := by decide +kernel
theorem dX0_requireTower_22 : decode cX0_requireTower 22 = .ok (.return_, 1) := by decide +kernel
theorem dX0_requireTrader_0 : decode cX0_requireTrader 0 = .ok (.iload_n 1, 1) := by decide +kernel
theorem dX0_requireTrader_1 : decode cX0_requireTrader 1 = .ok (.ifCond .lt 11, 3) := by decide +kernel
theorem dX0_requireTrader_4 : decode cX0_requireTrader 4 = .ok (.iload_n 1, 1) := by decide +kernel
theorem dX0_requireTrader_5 : decode cX0_requireTrader 5 = .ok (.aload_n 0, 1) := by decide +kernel
theorem dX0_requireTrader_6 : decode cX0_requireTrader 6 = .ok (.getfield 62, 3) := by decide +kernel
theorem dX0_requireTrader_9 : decode cX0_requireTrader 9 = .ok (.if_icmp .lt 13, 3) := by decide +kernel
theorem dX0_requireTrader_12 : decode cX0_requireTrader 12 = .ok (.new 152, 3) := by decide +kernel
theorem dX0_requireTrader_15 : decode cX0_requireTrader 15 = .ok (.dup, 1) := by decide +kernel
theorem dX0_requireTrader_16 : decode cX0_requireTrader 16 = .ok (.ldc 157, 2) := by decide +kernel
theorem dX0_requireTrader_18 : decode cX0_requireTrader 18 = .ok (.invokespecial 156, 3) := by decide +kernel
theorem dX0_requireTrader_21 : decode cX0_requireTrader 21 = .ok (.athrow, 1) := by decide +kernel
theorem dX0_requireTrader_22 : decode cX0_requireTrader 22 = .ok (.return_, 1) := by decide +kernel
theorem dX0_requireTradable_0 : decode cX0_requireTradable 0 = .ok (.iload_n 0, 1) := by decide +kernel
theorem dX0_requireTradable_1 : decode cX0_requireTradable 1 = .ok (.iconst 1, 1) := by decide +kernel
theorem dX0_requireTradable_2 : decode cX0_requireTradable 2 = .ok (.if_icmp .lt 9, 3) := by decide +kernel
theorem dX0_requireTradable_5 : decode cX0_requireTradable 5 = .ok (.iload_n 0, 1) := by decide +kernel
theorem dX0_requireTradable_6 : decode cX0_requireTradable 6 = .ok (.bipush 9, 2) := by decide +kernel
theorem dX0_requireTradable_8 : decode cX0_requireTradable 8 = .ok (.if_icmp .le 13, 3) := by decide +kernel
theorem dX0_requireTradable_11 : decode cX0_requireTradable 11 = .ok (.new 33, 3) := by decide +kernel
theorem dX0_requireTradable_14 : decode cX0_requireTradable 14 = .ok (.dup, 1) := by decide +kernel
theorem dX0_requireTradable_15 : decode cX0_requireTradable 15 = .ok (.ldc 159, 2) := by decide +kernel
theorem dX0_requireTradable_17 : decode cX0_requireTradable 17 = .ok (.invokespecial 37, 3) := by decide +kernel
theorem dX0_requireTradable_20 : decode cX0_requireTradable 20 = .ok (.athrow, 1) := by decide +kernel
theorem dX0_requireTradable_21 : decode cX0_requireTradable 21 = .ok (.return_, 1) := by decide +kernel
theorem dX0_requirePassable_0 : decode cX0_requirePassable 0 = .ok (.iload_n 0, 1) := by decide +kernel
theorem dX0_requirePassable_1 : decode cX0_requirePassable 1 = .ok (.iconst 1, 1) := by decide +kernel
theorem dX0_requirePassable_2 : decode cX0_requirePassable 2 = .ok (.if_icmp .lt 9, 3) := by decide +kernel
theorem dX0_requirePassable_5 : decode cX0_requirePassable 5 = .ok (.iload_n 0, 1) := by decide +kernel
theorem dX0_requirePassable_6 : decode cX0_requirePassable 6 = .ok (.bipush 60, 2) := by decide +kernel
theorem dX0_requirePassable_8 : decode cX0_requirePassable 8 = .ok (.if_icmp .le 13, 3) := by decide +kernel
theorem dX0_requirePassable_11 : decode cX0_requirePassable 11 = .ok (.new 33, 3) := by decide +kernel
theorem dX0_requirePassable_14 : decode cX0_requirePassable 14 = .ok (.dup, 1) := by decide +kernel
theorem dX0_requirePassable_15 : decode cX0_requirePassable 15 = .ok (.ldc 161, 2) := by decide +kernel
theorem dX0_requirePassable_17 : decode cX0_requirePassable 17 = .ok (.invokespecial 37, 3) := by decide +kernel
theorem dX0_requirePassable_20 : decode cX0_requirePassable 20 = .ok (.athrow, 1) := by decide +kernel
theorem dX0_requirePassable_21 : decode cX0_requirePassable 21 = .ok (.return_, 1) := by decide +kernel
theorem dX0_goOneSecond_0 : decode cX0_goOneSecond 0 = .ok (.aload_n 0, 1) := by decide +kernel
theorem dX0_goOneSecond_1 : decode cX0_goOneSecond 1 = .ok (.dup, 1) := by decide +kernel
theorem dX0_goOneSecond_2 : decode cX0_goOneSecond 2 = .ok (.getfield 53, 3) := by decide +kernel
theorem dX0_goOneSecond_5 : decode cX0_goOneSecond 5 = .ok (.iconst 1, 1) := by decide +kernel
theorem dX0_goOneSecond_6 : decode cX0_goOneSecond 6 = .ok (.iadd, 1) := by decide +kernel
theorem dX0_goOneSecond_7 : decode cX0_goOneSecond 7 = .ok (.putfield 53, 3) := by decide +kernel
theorem dX0_goOneSecond_10 : decode cX0_goOneSecond 10 = .ok (.iconst 0, 1) := by decide +kernel
theorem dX0_goOneSecond_11 : decode cX0_goOneSecond 11 = .ok (.istore_n 1, 1) := by decide +kernel
theorem dX0_goOneSecond_12 : decode cX0_goOneSecond 12 = .ok (.iconst 0, 1) := by decide +kernel
theorem dX0_goOneSecond_13 : decode cX0_goOneSecond 13 = .ok (.istore_n 2, 1) := by decide +kernel
theorem dX0_goOneSecond_14 : decode cX0_goOneSecond 14 = .ok (.iload_n 2, 1) := by decide +kernel
theorem dX0_goOneSecond_15 : decode cX0_goOneSecond 15 = .ok (.aload_n 0, 1) := by decide +kernel
theorem dX0_goOneSecond_16 : decode cX0_goOneSecond 16 = .ok (.getfield 44, 3) := by decide +kernel
theorem dX0_goOneSecond_19 : decode cX0_goOneSecond 19 = .ok (.if_icmp .ge 50, 3) := by decide +kernel
theorem dX0_goOneSecond_22 : decode cX0_goOneSecond 22 = .ok (.aload_n 0, 1) := by decide +kernel
theorem dX0_goOneSecond_23 : decode cX0_goOneSecond 23 = .ok (.getfield 19, 3) := by decide +kernel
theorem dX0_goOneSecond_26 : decode cX0_goOneSecond 26 = .ok (.iload_n 2, 1) := by decide +kernel
theorem dX0_goOneSecond_27 : decode cX0_goOneSecond 27 = .ok (.iaload, 1) := by decide +kernel
theorem dX0_goOneSecond_28 : decode cX0_goOneSecond 28 = .ok (.iconst 1, 1) := by decide +kernel
theorem dX0_goOneSecond_29 : decode cX0_goOneSecond 29 = .ok (.if_icmp .gt 14, 3) := by decide +kernel
theorem dX0_goOneSecond_32 : decode cX0_goOneSecond 32 = .ok (.aload_n 0, 1) := by decide +kernel
theorem dX0_goOneSecond_33 : decode cX0_goOneSecond 33 = .ok (.iload_n 2, 1) := by decide +kernel
theorem dX0_goOneSecond_34 : decode cX0_goOneSecond 34 = .ok (.invokevirtual 163, 3) := by decide +kernel
theorem dX0_goOneSecond_37 : decode cX0_goOneSecond 37 = .ok (.iinc 1 1, 3) := by decide +kernel
theorem dX0_goOneSecond_40 : decode cX0_goOneSecond 40 = .ok (.goto 23, 3) := by decide +kernel
theorem dX0_goOneSecond_43 : decode cX0_goOneSecond 43 = .ok (.aload_n 0, 1) := by decide +kernel
theorem dX0_goOneSecond_44 : decode cX0_goOneSecond 44 = .ok (.getfield 19, 3) := by decide +kernel
theorem dX0_goOneSecond_47 : decode cX0_goOneSecond 47 = .ok (.iload_n 2, 1) := by decide +kernel
theorem dX0_goOneSecond_48 : decode cX0_goOneSecond 48 = .ok (.dup2, 1) := by decide +kernel
theorem dX0_goOneSecond_49 : decode cX0_goOneSecond 49 = .ok (.iaload, 1) := by decide +kernel
theorem dX0_goOneSecond_50 : decode cX0_goOneSecond 50 = .ok (.iconst 1, 1) := by decide +kernel
theorem dX0_goOneSecond_51 : decode cX0_goOneSecond 51 = .ok (.isub, 1) := by decide +kernel
theorem dX0_goOneSecond_52 : decode cX0_goOneSecond 52 = .ok (.iastore, 1) := by decide +kernel
theorem dX0_goOneSecond_53 : decode cX0_goOneSecond 53 = .ok (.aload_n 0, 1) := by decide +kernel
theorem dX0_goOneSecond_54 : decode cX0_goOneSecond 54 = .ok (.getfield 16, 3) := by decide +kernel
theorem dX0_goOneSecond_57 : decode cX0_goOneSecond 57 = .ok (.iload_n 2, 1) := by decide +kernel
theorem dX0_goOneSecond_58 : decode cX0_goOneSecond 58 = .ok (.dup2, 1) := by decide +kernel
theorem dX0_goOneSecond_59 : decode cX0_goOneSecond 59 = .ok (.iaload, 1) := by decide +kernel
theorem dX0_goOneSecond_60 : decode cX0_goOneSecond 60 = .ok (.iconst 1, 1) := by decide +kernel
theorem dX0_goOneSecond_61 : decode cX0_goOneSecond 61 = .ok (.iadd, 1) := by decide +kernel
theorem dX0_goOneSecond_62 : decode cX0_goOneSecond 62 = .ok (.iastore, 1) := by decide +kernel
theorem dX0_goOneSecond_63 : decode cX0_goOneSecond 63 = .ok (.iinc 2 1, 3) := by decide +kernel
theorem dX0_goOneSecond_66 : decode cX0_goOneSecond 66 = .ok (.goto (-52), 3) := by decide +kernel
theorem dX0_goOneSecond_69 : decode cX0_goOneSecond 69 = .ok (.iload_n 1, 1) := by decide +kernel
theorem dX0_goOneSecond_70 : decode cX0_goOneSecond 70 = .ok (.ireturn, 1) := by decide +kernel
theorem dX0_strike_0 : decode cX0_strike 0 = .ok (.aload_n 0, 1) := by decide +kernel
theorem dX0_strike_1 : decode cX0_strike 1 = .ok (.iload_n 1, 1) := by decide +kernel
theorem dX0_strike_2 : decode cX0_strike 2 = .ok (.invokevirtual 77, 3) := by decide +kernel
theorem dX0_strike_5 : decode cX0_strike 5 = .ok (.istore_n 2, 1) := by decide +kernel
theorem dX0_strike_6 : decode cX0_strike 6 = .ok (.iconst 0, 1) := by decide +kernel
theorem dX0_strike_7 : decode cX0_strike 7 = .ok (.istore_n 3, 1) := by decide +kernel
theorem dX0_strike_8 : decode cX0_strike 8 = .ok (.iload_n 3, 1) := by decide +kernel
theorem dX0_strike_9 : decode cX0_strike 9 = .ok (.aload_n 0, 1) := by decide +kernel
theorem dX0_strike_10 : decode cX0_strike 10 = .ok (.getfield 62, 3) := by decide +kernel
theorem dX0_strike_13 : decode cX0_strike 13 = .ok (.if_icmp .ge 37, 3) := by decide +kernel
theorem dX0_strike_16 : decode cX0_strike 16 = .ok (.aload_n 0, 1) := by decide +kernel
theorem dX0_strike_17 : decode cX0_strike 17 = .ok (.getfield 25, 3) := by decide +kernel
theorem dX0_strike_20 : decode cX0_strike 20 = .ok (.iload_n 3, 1) := by decide +kernel
theorem dX0_strike_21 : decode cX0_strike 21 = .ok (.dup2, 1) := by decide +kernel
theorem dX0_strike_22 : decode cX0_strike 22 = .ok (.iaload, 1) := by decide +kernel
theorem dX0_strike_23 : decode cX0_strike 23 = .ok (.iload_n 2, 1) := by decide +kernel
theorem dX0_strike_24 : decode cX0_strike 24 = .ok (.aload_n 0, 1) := by decide +kernel
theorem dX0_strike_25 : decode cX0_strike 25 = .ok (.getfield 30, 3) := by decide +kernel
theorem dX0_strike_28 : decode cX0_strike 28 = .ok (.iload_n 3, 1) := by decide +kernel
theorem dX0_strike_29 : decode cX0_strike 29 = .ok (.aaload, 1) := by decide +kernel
theorem dX0_strike_30 : decode cX0_strike 30 = .ok (.iload_n 1, 1) := by decide +kernel
theorem dX0_strike_31 : decode cX0_strike 31 = .ok (.iaload, 1) := by decide +kernel
theorem dX0_strike_32 : decode cX0_strike 32 = .ok (.imul, 1) := by decide +kernel
theorem dX0_strike_33 : decode cX0_strike 33 = .ok (.iadd, 1) := by decide +kernel
theorem dX0_strike_34 : decode cX0_strike 34 = .ok (.iastore, 1) := by decide +kernel
theorem dX0_strike_35 : decode cX0_strike 35 = .ok (.aload_n 0, 1) := by decide +kernel
theorem dX0_strike_36 : decode cX0_strike 36 = .ok (.getfield 30, 3) := by decide +kernel
theorem dX0_strike_39 : decode cX0_strike 39 = .ok (.iload_n 3, 1) := by decide +kernel
theorem dX0_strike_40 : decode cX0_strike 40 = .ok (.aaload, 1) := by decide +kernel
theorem dX0_strike_41 : decode cX0_strike 41 = .ok (.iload_n 1, 1) := by decide +kernel
theorem dX0_strike_42 : decode cX0_strike 42 = .ok (.iconst 0, 1) := by decide +kernel
theorem dX0_strike_43 : decode cX0_strike 43 = .ok (.iastore, 1) := by decide +kernel
theorem dX0_strike_44 : decode cX0_strike 44 = .ok (.iinc 3 1, 3) := by decide +kernel
theorem dX0_strike_47 : decode cX0_strike 47 = .ok (.goto (-39), 3) := by decide +kernel
theorem dX0_strike_50 : decode cX0_strike 50 = .ok (.aload_n 0, 1) := by decide +kernel
theorem dX0_strike_51 : decode cX0_strike 51 = .ok (.getfield 16, 3) := by decide +kernel
theorem dX0_strike_54 : decode cX0_strike 54 = .ok (.iload_n 1, 1) := by decide +kernel
theorem dX0_strike_55 : decode cX0_strike 55 = .ok (.iconst 0, 1) := by decide +kernel
theorem dX0_strike_56 : decode cX0_strike 56 = .ok (.iastore, 1) := by decide +kernel
theorem dX0_strike_57 : decode cX0_strike 57 = .ok (.aload_n 0, 1) := by decide +kernel
theorem dX0_strike_58 : decode cX0_strike 58 = .ok (.getfield 22, 3) := by decide +kernel
theorem dX0_strike_61 : decode cX0_strike 61 = .ok (.iload_n 1, 1) := by decide +kernel
theorem dX0_strike_62 : decode cX0_strike 62 = .ok (.dup2, 1) := by decide +kernel
theorem dX0_strike_63 : decode cX0_strike 63 = .ok (.iaload, 1) := by decide +kernel
theorem dX0_strike_64 : decode cX0_strike 64 = .ok (.iconst 1, 1) := by decide +kernel
theorem dX0_strike_65 : decode cX0_strike 65 = .ok (.iadd, 1) := by decide +kernel
theorem dX0_strike_66 : decode cX0_strike 66 = .ok (.iastore, 1) := by decide +kernel
theorem dX0_strike_67 : decode cX0_strike 67 = .ok (.aload_n 0, 1) := by decide +kernel
theorem dX0_strike_68 : decode cX0_strike 68 = .ok (.getfield 19, 3) := by decide +kernel
theorem dX0_strike_71 : decode cX0_strike 71 = .ok (.iload_n 1, 1) := by decide +kernel
theorem dX0_strike_72 : decode cX0_strike 72 = .ok (.aload_n 0, 1) := by decide +kernel
theorem dX0_strike_73 : decode cX0_strike 73 = .ok (.getfield 13, 3) := by decide +kernel
theorem dX0_strike_76 : decode cX0_strike 76 = .ok (.iload_n 1, 1) := by decide +kernel
theorem dX0_strike_77 : decode cX0_strike 77 = .ok (.iaload, 1) := by decide +kernel
theorem dX0_strike_78 : decode cX0_strike 78 = .ok (.iastore, 1) := by decide +kernel
theorem dX0_strike_79 : decode cX0_strike 79 = .ok (.return_, 1) := by decide +kernel
theorem dX0_price_0 : decode cX0_price 0 = .ok (.iconst 0, 1) := by decide +kernel
theorem dX0_price_1 : decode cX0_price 1 = .ok (.iload_n 0, 1) := by decide +kernel
theorem dX0_price_2 : decode cX0_price 2 = .ok (.iload_n 1, 1) := by decide +kernel
theorem dX0_price_3 : decode cX0_price 3 = .ok (.imul, 1) := by decide +kernel
theorem dX0_price_4 : decode cX0_price 4 = .ok (.iconst 2, 1) := by decide +kernel
theorem dX0_price_5 : decode cX0_price 5 = .ok (.iload_n 2, 1) := by decide +kernel
theorem dX0_price_6 : decode cX0_price 6 = .ok (.imul, 1) := by decide +kernel
theorem dX0_price_7 : decode cX0_price 7 = .ok (.isub, 1) := by decide +kernel
theorem dX0_price_8 : decode cX0_price 8 = .ok (.invokestatic 166, 3) := by decide +kernel
theorem dX0_price_11 : decode cX0_price 11 = .ok (.ireturn, 1) := by decide +kernel
theorem dX0_dovesNow_0 : decode cX0_dovesNow 0 = .ok (.iconst 0, 1) := by decide +kernel
theorem dX0_dovesNow_1 : decode cX0_dovesNow 1 = .ok (.istore_n 2, 1) := by decide +kernel
theorem dX0_dovesNow_2 : decode cX0_dovesNow 2 = .ok (.iconst 0, 1) := by decide +kernel
theorem dX0_dovesNow_3 : decode cX0_dovesNow 3 = .ok (.istore_n 3, 1) := by decide +kernel
theorem dX0_dovesNow_4 : decode cX0_dovesNow 4 = .ok (.iload_n 3, 1) := by decide +kernel
theorem dX0_dovesNow_5 : decode cX0_dovesNow 5 = .ok (.aload_n 0, 1) := by decide +kernel
theorem dX0_dovesNow_6 : decode cX0_dovesNow 6 = .ok (.getfield 62, 3) := by decide +kernel
theorem dX0_dovesNow_9 : decode cX0_dovesNow 9 = .ok (.if_icmp .ge 23, 3) := by decide +kernel
theorem dX0_dovesNow_12 : decode cX0_dovesNow 12 = .ok (.iload_n 2, 1) := by decide +kernel
theorem dX0_dovesNow_13 : decode cX0_dovesNow 13 = .ok (.aload_n 0, 1) := by decide +kernel
theorem dX0_dovesNow_14 : decode cX0_dovesNow 14 = .ok (.getfield 30, 3) := by decide +kernel
theorem dX0_dovesNow_17 : decode cX0_dovesNow 17 = .ok (.iload_n 3, 1) := by decide +kernel
theorem dX0_dovesNow_18 : decode cX0_dovesNow 18 = .ok (.aaload, 1) := by decide +kernel
theorem dX0_dovesNow_19 : decode cX0_dovesNow 19 = .ok (.iload_n 1, 1) := by decide +kernel
theorem dX0_dovesNow_20 : decode cX0_dovesNow 20 = .ok (.iaload, 1) := by decide +kernel
theorem dX0_dovesNow_21 : decode cX0_dovesNow 21 = .ok (.invokestatic 169, 3) := by decide +kernel
theorem dX0_dovesNow_24 : decode cX0_dovesNow 24 = .ok (.iadd, 1) := by decide +kernel
theorem dX0_dovesNow_25 : decode cX0_dovesNow 25 = .ok (.istore_n 2, 1) := by decide +kernel
theorem dX0_dovesNow_26 : decode cX0_dovesNow 26 = .ok (.iinc 3 1, 3) := by decide +kernel
theorem dX0_dovesNow_29 : decode cX0_dovesNow 29 = .ok (.goto (-25), 3) := by decide +kernel
theorem dX0_dovesNow_32 : decode cX0_dovesNow 32 = .ok (.iload_n 2, 1) := by decide +kernel
theorem dX0_dovesNow_33 : decode cX0_dovesNow 33 = .ok (.ireturn, 1) := by decide +kernel
theorem dX0_dovesFor_0 : decode cX0_dovesFor 0 = .ok (.iconst 0, 1) := by decide +kernel
theorem dX0_dovesFor_1 : decode cX0_dovesFor 1 = .ok (.iload_n 0, 1) := by decide +kernel
theorem dX0_dovesFor_2 : decode cX0_dovesFor 2 = .ok (.ineg, 1) := by decide +kernel
theorem dX0_dovesFor_3 : decode cX0_dovesFor 3 = .ok (.invokestatic 166, 3) := by decide +kernel
theorem dX0_dovesFor_6 : decode cX0_dovesFor 6 = .ok (.ireturn, 1) := by decide +kernel
theorem dX0_priceNow_0 : decode cX0_priceNow 0 = .ok (.aload_n 0, 1) := by decide +kernel
theorem dX0_priceNow_1 : decode cX0_priceNow 1 = .ok (.getfield 16, 3) := by decide +kernel
theorem dX0_priceNow_4 : decode cX0_priceNow 4 = .ok (.iload_n 1, 1) := by decide +kernel
theorem dX0_priceNow_5 : decode cX0_priceNow 5 = .ok (.iaload, 1) := by decide +kernel
theorem dX0_priceNow_6 : decode cX0_priceNow 6 = .ok (.aload_n 0, 1) := by decide +kernel
theorem dX0_priceNow_7 : decode cX0_priceNow 7 = .ok (.getfield 9, 3) := by decide +kernel
theorem dX0_priceNow_10 : decode cX0_priceNow 10 = .ok (.iload_n 1, 1) := by decide +kernel
theorem dX0_priceNow_11 : decode cX0_priceNow 11 = .ok (.iaload, 1) := by decide +kernel
theorem dX0_priceNow_12 : decode cX0_priceNow 12 = .ok (.aload_n 0, 1) := by decide +kernel
theorem dX0_priceNow_13 : decode cX0_priceNow 13 = .ok (.iload_n 1, 1) := by decide +kernel
theorem dX0_priceNow_14 : decode cX0_priceNow 14 = .ok (.invokevirtual 94, 3) := by decide +kernel
theorem dX0_priceNow_17 : decode cX0_priceNow 17 = .ok (.invokestatic 172, 3) := by decide +kernel
theorem dX0_priceNow_20 : decode cX0_priceNow 20 = .ok (.ireturn, 1) := by decide +kernel
theorem dX0_closing_0 : decode cX0_closing 0 = .ok (.aload_n 0, 1) := by decide +kernel
theorem dX0_closing_1 : decode cX0_closing 1 = .ok (.iload_n 1, 1) := by decide +kernel
theorem dX0_closing_2 : decode cX0_closing 2 = .ok (.aload_n 0, 1) := by decide +kernel
theorem dX0_closing_3 : decode cX0_closing 3 = .ok (.iload_n 1, 1) := by decide +kernel
theorem dX0_closing_4 : decode cX0_closing 4 = .ok (.invokevirtual 94, 3) := by decide +kernel
theorem dX0_closing_7 : decode cX0_closing 7 = .ok (.invokevirtual 175, 3) := by decide +kernel
theorem dX0_closing_10 : decode cX0_closing 10 = .ok (.ireturn, 1) := by decide +kernel
theorem dX0_closingWith_0 : decode cX0_closingWith 0 = .ok (.aload_n 0, 1) := by decide +kernel
theorem dX0_closingWith_1 : decode cX0_closingWith 1 = .ok (.getfield 16, 3) := by decide +kernel
theorem dX0_closingWith_4 : decode cX0_closingWith 4 = .ok (.iload_n 1, 1) := by decide +kernel
theorem dX0_closingWith_5 : decode cX0_closingWith 5 = .ok (.iaload, 1) := by decide +kernel
theorem dX0_closingWith_6 : decode cX0_closingWith 6 = .ok (.aload_n 0, 1) := by decide +kernel
theorem dX0_closingWith_7 : decode cX0_closingWith 7 = .ok (.getfield 19, 3) := by decide +kernel
theorem dX0_closingWith_10 : decode cX0_closingWith 10 = .ok (.iload_n 1, 1) := by decide +kernel
theorem dX0_closingWith_11 : decode cX0_closingWith 11 = .ok (.iaload, 1) := by decide +kernel
theorem dX0_closingWith_12 : decode cX0_closingWith 12 = .ok (.iadd, 1) := by decide +kernel
theorem dX0_closingWith_13 : decode cX0_closingWith 13 = .ok (.iconst 1, 1) := by decide +kernel
theorem dX0_closingWith_14 : decode cX0_closingWith 14 = .ok (.isub, 1) := by decide +kernel
theorem dX0_closingWith_15 : decode cX0_closingWith 15 = .ok (.aload_n 0, 1) := by decide +kernel
theorem dX0_closingWith_16 : decode cX0_closingWith 16 = .ok (.getfield 9, 3) := by decide +kernel
theorem dX0_closingWith_19 : decode cX0_closingWith 19 = .ok (.iload_n 1, 1) := by decide +kernel
theorem dX0_closingWith_20 : decode cX0_closingWith 20 = .ok (.iaload, 1) := by decide +kernel
theorem dX0_closingWith_21 : decode cX0_closingWith 21 = .ok (.iload_n 2, 1) := by decide +kernel
theorem dX0_closingWith_22 : decode cX0_closingWith 22 = .ok (.invokestatic 172, 3) := by decide +kernel
theorem dX0_closingWith_25 : decode cX0_closingWith 25 = .ok (.ireturn, 1) := by decide +kernel
theorem dX0_riseUntilStroke_0 : decode cX0_riseUntilStroke 0 = .ok (.aload_n 0, 1) := by decide +kernel
theorem dX0_riseUntilStroke_1 : decode cX0_riseUntilStroke 1 = .ok (.iload_n 1, 1) := by decide +kernel
theorem dX0_riseUntilStroke_2 : decode cX0_riseUntilStroke 2 = .ok (.invokevirtual 106, 3) := by decide +kernel
theorem dX0_riseUntilStroke_5 : decode cX0_riseUntilStroke 5 = .ok (.aload_n 0, 1) := by decide +kernel
theorem dX0_riseUntilStroke_6 : decode cX0_riseUntilStroke 6 = .ok (.iload_n 1, 1) := by decide +kernel
theorem dX0_riseUntilStroke_7 : decode cX0_riseUntilStroke 7 = .ok (.invokevirtual 77, 3) := by decide +kernel
theorem dX0_riseUntilStroke_10 : decode cX0_riseUntilStroke 10 = .ok (.isub, 1) := by decide +kernel
theorem dX0_riseUntilStroke_11 : decode cX0_riseUntilStroke 11 = .ok (.ireturn, 1) := by decide +kernel
theorem dX0_priceBehind_0 : decode cX0_priceBehind 0 = .ok (.iload_n 2, 1) := by decide +kernel
theorem dX0_priceBehind_1 : decode cX0_priceBehind 1 = .ok (.aload_n 0, 1) := by decide +kernel
theorem dX0_priceBehind_2 : decode cX0_priceBehind 2 = .ok (.getfield 19, 3) := by decide +kernel
theorem dX0_priceBehind_5 : decode cX0_priceBehind 5 = .ok (.iload_n 1, 1) := by decide +kernel
theorem dX0_priceBehind_6 : decode cX0_priceBehind 6 = .ok (.iaload, 1) := by decide +kernel
theorem dX0_priceBehind_7 : decode cX0_priceBehind 7 = .ok (.isub, 1) := by decide +kernel
theorem dX0_priceBehind_8 : decode cX0_priceBehind 8 = .ok (.istore_n 3, 1) := by decide +kernel
theorem dX0_priceBehind_9 : decode cX0_priceBehind 9 = .ok (.iload_n 3, 1) := by decide +kernel
theorem dX0_priceBehind_10 : decode cX0_priceBehind 10 = .ok (.ifCond .ge 26, 3) := by decide +kernel
theorem dX0_priceBehind_13 : decode cX0_priceBehind 13 = .ok (.aload_n 0, 1) := by decide +kernel
theorem dX0_priceBehind_14 : decode cX0_priceBehind 14 = .ok (.getfield 16, 3) := by decide +kernel
theorem dX0_priceBehind_17 : decode cX0_priceBehind 17 = .ok (.iload_n 1, 1) := by decide +kernel
theorem dX0_priceBehind_18 : decode cX0_priceBehind 18 = .ok (.iaload, 1) := by decide +kernel
theorem dX0_priceBehind_19 : decode cX0_priceBehind 19 = .ok (.iload_n 2, 1) := by decide +kernel
theorem dX0_priceBehind_20 : decode cX0_priceBehind 20 = .ok (.iadd, 1) := by decide +kernel
theorem dX0_priceBehind_21 : decode cX0_priceBehind 21 = .ok (.aload_n 0, 1) := by decide +kernel
theorem dX0_priceBehind_22 : decode cX0_priceBehind 22 = .ok (.getfield 9, 3) := by decide +kernel
theorem dX0_priceBehind_25 : decode cX0_priceBehind 25 = .ok (.iload_n 1, 1) := by decide +kernel
theorem dX0_priceBehind_26 : decode cX0_priceBehind 26 = .ok (.iaload, 1) := by decide +kernel
theorem dX0_priceBehind_27 : decode cX0_priceBehind 27 = .ok (.aload_n 0, 1) := by decide +kernel
theorem dX0_priceBehind_28 : decode cX0_priceBehind 28 = .ok (.iload_n 1, 1) := by decide +kernel
theorem dX0_priceBehind_29 : decode cX0_priceBehind 29 = .ok (.invokevirtual 94, 3) := by decide +kernel
theorem dX0_priceBehind_32 : decode cX0_priceBehind 32 = .ok (.invokestatic 172, 3) := by decide +kernel
theorem dX0_priceBehind_35 : decode cX0_priceBehind 35 = .ok (.ireturn, 1) := by decide +kernel
theorem dX0_priceBehind_36 : decode cX0_priceBehind 36 = .ok (.aload_n 0, 1) := by decide +kernel
theorem dX0_priceBehind_37 : decode cX0_priceBehind 37 = .ok (.getfield 13, 3) := by decide +kernel
theorem dX0_priceBehind_40 : decode cX0_priceBehind 40 = .ok (.iload_n 1, 1) := by decide +kernel
theorem dX0_priceBehind_41 : decode cX0_priceBehind 41 = .ok (.iaload, 1) := by decide +kernel
theorem dX0_priceBehind_42 : decode cX0_priceBehind 42 = .ok (.istore 4, 2) := by decide +kernel
theorem dX0_priceBehind_44 : decode cX0_priceBehind 44 = .ok (.iload 4, 2) := by decide +kernel
theorem dX0_priceBehind_46 : decode cX0_priceBehind 46 = .ok (.iconst 2, 1) := by decide +kernel
theorem dX0_priceBehind_47 : decode cX0_priceBehind 47 = .ok (.if_icmp .ge 7, 3) := by decide +kernel
theorem dX0_priceBehind_50 : decode cX0_priceBehind 50 = .ok (.iconst 0, 1) := by decide +kernel
theorem dX0_priceBehind_51 : decode cX0_priceBehind 51 = .ok (.goto 7, 3) := by decide +kernel
theorem dX0_priceBehind_54 : decode cX0_priceBehind 54 = .ok (.iload_n 3, 1) := by decide +kernel
theorem dX0_priceBehind_55 : decode cX0_priceBehind 55 = .ok (.iload 4, 2) := by decide +kernel
theorem dX0_priceBehind_57 : decode cX0_priceBehind 57 = .ok (.irem, 1) := by decide +kernel
theorem dX0_priceBehind_58 : decode cX0_priceBehind 58 = .ok (.istore 5, 2) := by decide +kernel
theorem dX0_priceBehind_60 : decode cX0_priceBehind 60 = .ok (.iload 5, 2) := by decide +kernel
theorem dX0_priceBehind_62 : decode cX0_priceBehind 62 = .ok (.aload_n 0, 1) := by decide +kernel
theorem dX0_priceBehind_63 : decode cX0_priceBehind 63 = .ok (.getfield 9, 3) := by decide +kernel
theorem dX0_priceBehind_66 : decode cX0_priceBehind 66 = .ok (.iload_n 1, 1) := by decide +kernel
theorem dX0_priceBehind_67 : decode cX0_priceBehind 67 = .ok (.iaload, 1) := by decide +kernel
theorem dX0_priceBehind_68 : decode cX0_priceBehind 68 = .ok (.iconst 0, 1) := by decide +kernel
theorem dX0_priceBehind_69 : decode cX0_priceBehind 69 = .ok (.invokestatic 172, 3) := by decide +kernel
theorem dX0_priceBehind_72 : decode cX0_priceBehind 72 = .ok (.ireturn, 1) := by decide +kernel
theorem dX0_heldByAll_0 : decode cX0_heldByAll 0 = .ok (.iconst 0, 1) := by decide +kernel
theorem dX0_heldByAll_1 : decode cX0_heldByAll 1 = .ok (.istore_n 2, 1) := by decide +kernel
theorem dX0_heldByAll_2 : decode cX0_heldByAll 2 = .ok (.iconst 0, 1) := by decide +kernel
theorem dX0_heldByAll_3 : decode cX0_heldByAll 3 = .ok (.istore_n 3, 1) := by decide +kernel
theorem dX0_heldByAll_4 : decode cX0_heldByAll 4 = .ok (.iload_n 3, 1) := by decide +kernel
theorem dX0_heldByAll_5 : decode cX0_heldByAll 5 = .ok (.aload_n 0, 1) := by decide +kernel
theorem dX0_heldByAll_6 : decode cX0_heldByAll 6 = .ok (.getfield 62, 3) := by decide +kernel
theorem dX0_heldByAll_9 : decode cX0_heldByAll 9 = .ok (.if_icmp .ge 20, 3) := by decide +kernel
theorem dX0_heldByAll_12 : decode cX0_heldByAll 12 = .ok (.iload_n 2, 1) := by decide +kernel
theorem dX0_heldByAll_13 : decode cX0_heldByAll 13 = .ok (.aload_n 0, 1) := by decide +kernel
theorem dX0_heldByAll_14 : decode cX0_heldByAll 14 = .ok (.getfield 30, 3) := by decide +kernel
theorem dX0_heldByAll_17 : decode cX0_heldByAll 17 = .ok (.iload_n 3, 1) := by decide +kernel
theorem dX0_heldByAll_18 : decode cX0_heldByAll 18 = .ok (.aaload, 1) := by decide +kernel
theorem dX0_heldByAll_19 : decode cX0_heldByAll 19 = .ok (.iload_n 1, 1) := by decide +kernel
theorem dX0_heldByAll_20 : decode cX0_heldByAll 20 = .ok (.iaload, 1) := by decide +kernel
theorem dX0_heldByAll_21 : decode cX0_heldByAll 21 = .ok (.iadd, 1) := by decide +kernel
theorem dX0_heldByAll_22 : decode cX0_heldByAll 22 = .ok (.istore_n 2, 1) := by decide +kernel
theorem dX0_heldByAll_23 : decode cX0_heldByAll 23 = .ok (.iinc 3 1, 3) := by decide +kernel
theorem dX0_heldByAll_26 : decode cX0_heldByAll 26 = .ok (.goto (-22), 3) := by decide +kernel
theorem dX0_heldByAll_29 : decode cX0_heldByAll 29 = .ok (.iload_n 2, 1) := by decide +kernel
theorem dX0_heldByAll_30 : decode cX0_heldByAll 30 = .ok (.ireturn, 1) := by decide +kernel
theorem dX0_shortTowers_0 : decode cX0_shortTowers 0 = .ok (.iconst 0, 1) := by decide +kernel
theorem dX0_shortTowers_1 : decode cX0_shortTowers 1 = .ok (.istore_n 2, 1) := by decide +kernel
theorem dX0_shortTowers_2 : decode cX0_shortTowers 2 = .ok (.iconst 0, 1) := by decide +kernel
theorem dX0_shortTowers_3 : decode cX0_shortTowers 3 = .ok (.istore_n 3, 1) := by decide +kernel
theorem dX0_shortTowers_4 : decode cX0_shortTowers 4 = .ok (.iload_n 3, 1) := by decide +kernel
theorem dX0_shortTowers_5 : decode cX0_shortTowers 5 = .ok (.aload_n 0, 1) := by decide +kernel
theorem dX0_shortTowers_6 : decode cX0_shortTowers 6 = .ok (.getfield 44, 3) := by decide +kernel
theorem dX0_shortTowers_9 : decode cX0_shortTowers 9 = .ok (.if_icmp .ge 23, 3) := by decide +kernel
theorem dX0_shortTowers_12 : decode cX0_shortTowers 12 = .ok (.aload_n 0, 1) := by decide +kernel
theorem dX0_shortTowers_13 : decode cX0_shortTowers 13 = .ok (.getfield 30, 3) := by decide +kernel
theorem dX0_shortTowers_16 : decode cX0_shortTowers 16 = .ok (.iload_n 1, 1) := by decide +kernel
theorem dX0_shortTowers_17 : decode cX0_shortTowers 17 = .ok (.aaload, 1) := by decide +kernel
theorem dX0_shortTowers_18 : decode cX0_shortTowers 18 = .ok (.iload_n 3, 1) := by decide +kernel
theorem dX0_shortTowers_19 : decode cX0_shortTowers 19 = .ok (.iaload, 1) := by decide +kernel
theorem dX0_shortTowers_20 : decode cX0_shortTowers 20 = .ok (.ifCond .ge 6, 3) := by decide +kernel
theorem dX0_shortTowers_23 : decode cX0_shortTowers 23 = .ok (.iinc 2 1, 3) := by decide +kernel
theorem dX0_shortTowers_26 : decode cX0_shortTowers 26 = .ok (.iinc 3 1, 3) := by decide +kernel
theorem dX0_shortTowers_29 : decode cX0_shortTowers 29 = .ok (.goto (-25), 3) := by decide +kernel
theorem dX0_shortTowers_32 : decode cX0_shortTowers 32 = .ok (.iload_n 2, 1) := by decide +kernel
theorem dX0_shortTowers_33 : decode cX0_shortTowers 33 = .ok (.ireturn, 1) := by decide +kernel
theorem dX0_worthBehind_0 : decode cX0_worthBehind 0 = .ok (.aload_n 0, 1) := by decide +kernel
theorem dX0_worthBehind_1 : decode cX0_worthBehind 1 = .ok (.getfield 25, 3) := by decide +kernel
theorem dX0_worthBehind_4 : decode cX0_worthBehind 4 = .ok (.iload_n 1, 1) := by decide +kernel
theorem dX0_worthBehind_5 : decode cX0_worthBehind 5 = .ok (.iaload, 1) := by decide +kernel
theorem dX0_worthBehind_6 : decode cX0_worthBehind 6 = .ok (.istore_n 3, 1) := by decide +kernel
theorem dX0_worthBehind_7 : decode cX0_worthBehind 7 = .ok (.iconst 0, 1) := by decide +kernel
theorem dX0_worthBehind_8 : decode cX0_worthBehind 8 = .ok (.istore 4, 2) := by decide +kernel
theorem dX0_worthBehind_10 : decode cX0_worthBehind 10 = .ok (.iload 4, 2) := by decide +kernel
theorem dX0_worthBehind_12 : decode cX0_worthBehind 12 = .ok (.aload_n 0, 1) := by decide +kernel
theorem dX0_worthBehind_13 : decode cX0_worthBehind 13 = .ok (.getfield 44, 3) := by decide +kernel
theorem dX0_worthBehind_16 : decode cX0_worthBehind 16 = .ok (.if_icmp .ge 65, 3) := by decide +kernel
theorem dX0_worthBehind_19 : decode cX0_worthBehind 19 = .ok (.aload_n 0, 1) := by decide +kernel
theorem dX0_worthBehind_20 : decode cX0_worthBehind 20 = .ok (.getfield 19, 3) := by decide +kernel
theorem dX0_worthBehind_23 : decode cX0_worthBehind 23 = .ok (.iload 4, 2) := by decide +kernel
theorem dX0_worthBehind_25 : decode cX0_worthBehind 25 = .ok (.iaload, 1) := by decide +kernel
theorem dX0_worthBehind_26 : decode cX0_worthBehind 26 = .ok (.iload_n 2, 1) := by decide +kernel
theorem dX0_worthBehind_27 : decode cX0_worthBehind 27 = .ok (.if_icmp .gt 7, 3) := by decide +kernel
theorem dX0_worthBehind_30 : decode cX0_worthBehind 30 = .ok (.iconst 1, 1) := by decide +kernel
theorem dX0_worthBehind_31 : decode cX0_worthBehind 31 = .ok (.goto 4, 3) := by decide +kernel
theorem dX0_worthBehind_34 : decode cX0_worthBehind 34 = .ok (.iconst 0, 1) := by decide +kernel
theorem dX0_worthBehind_35 : decode cX0_worthBehind 35 = .ok (.istore 5, 2) := by decide +kernel
theorem dX0_worthBehind_37 : decode cX0_worthBehind 37 = .ok (.iload 5, 2) := by decide +kernel
theorem dX0_worthBehind_39 : decode cX0_worthBehind 39 = .ok (.ifCond .eq 12, 3) := by decide +kernel
theorem dX0_worthBehind_42 : decode cX0_worthBehind 42 = .ok (.aload_n 0, 1) := by decide +kernel
theorem dX0_worthBehind_43 : decode cX0_worthBehind 43 = .ok (.iload 4, 2) := by decide +kernel
theorem dX0_worthBehind_45 : decode cX0_worthBehind 45 = .ok (.invokevirtual 106, 3) := by decide +kernel
theorem dX0_worthBehind_48 : decode cX0_worthBehind 48 = .ok (.goto 10, 3) := by decide +kernel
theorem dX0_worthBehind_51 : decode cX0_worthBehind 51 = .ok (.aload_n 0, 1) := by decide +kernel
theorem dX0_worthBehind_52 : decode cX0_worthBehind 52 = .ok (.iload 4, 2) := by decide +kernel
theorem dX0_worthBehind_54 : decode cX0_worthBehind 54 = .ok (.iload_n 2, 1) := by decide +kernel
theorem dX0_worthBehind_55 : decode cX0_worthBehind 55 = .ok (.invokevirtual 109, 3) := by decide +kernel
theorem dX0_worthBehind_58 : decode cX0_worthBehind 58 = .ok (.istore 6, 2) := by decide +kernel
theorem dX0_worthBehind_60 : decode cX0_worthBehind 60 = .ok (.iload_n 3, 1) := by decide +kernel
theorem dX0_worthBehind_61 : decode cX0_worthBehind 61 = .ok (.iload 6, 2) := by decide +kernel
theorem dX0_worthBehind_63 : decode cX0_worthBehind 63 = .ok (.aload_n 0, 1) := by decide +kernel
theorem dX0_worthBehind_64 : decode cX0_worthBehind 64 = .ok (.getfield 30, 3) := by decide +kernel
theorem dX0_worthBehind_67 : decode cX0_worthBehind 67 = .ok (.iload_n 1, 1) := by decide +kernel
theorem dX0_worthBehind_68 : decode cX0_worthBehind 68 = .ok (.aaload, 1) := by decide +kernel
theorem dX0_worthBehind_69 : decode cX0_worthBehind 69 = .ok (.iload 4, 2) := by decide +kernel
theorem dX0_worthBehind_71 : decode cX0_worthBehind 71 = .ok (.iaload, 1) := by decide +kernel
theorem dX0_worthBehind_72 : decode cX0_worthBehind 72 = .ok (.imul, 1) := by decide +kernel
theorem dX0_worthBehind_73 : decode cX0_worthBehind 73 = .ok (.iadd, 1) := by decide +kernel
theorem dX0_worthBehind_74 : decode cX0_worthBehind 74 = .ok (.istore_n 3, 1) := by decide +kernel
theorem dX0_worthBehind_75 : decode cX0_worthBehind 75 = .ok (.iinc 4 1, 3) := by decide +kernel
theorem dX0_worthBehind_78 : decode cX0_worthBehind 78 = .ok (.goto (-68), 3) := by decide +kernel
theorem dX0_worthBehind_81 : decode cX0_worthBehind 81 = .ok (.iload_n 3, 1) := by decide +kernel
theorem dX0_worthBehind_82 : decode cX0_worthBehind 82 = .ok (.ireturn, 1) := by decide +kernel
theorem dX0_closedIn_0 : decode cX0_closedIn 0 = .ok (.iconst 0, 1) := by decide +kernel
theorem dX0_closedIn_1 : decode cX0_closedIn 1 = .ok (.istore_n 3, 1) := by decide +kernel
theorem dX0_closedIn_2 : decode cX0_closedIn 2 = .ok (.iconst 0, 1) := by decide +kernel
theorem dX0_closedIn_3 : decode cX0_closedIn 3 = .ok (.istore 4, 2) := by decide +kernel
theorem dX0_closedIn_5 : decode cX0_closedIn 5 = .ok (.iload 4, 2) := by decide +kernel
theorem dX0_closedIn_7 : decode cX0_closedIn 7 = .ok (.aload_n 0, 1) := by decide +kernel
theorem dX0_closedIn_8 : decode cX0_closedIn 8 = .ok (.getfield 44, 3) := by decide +kernel
theorem dX0_closedIn_11 : decode cX0_closedIn 11 = .ok (.if_icmp .ge 39, 3) := by decide +kernel
theorem dX0_closedIn_14 : decode cX0_closedIn 14 = .ok (.aload_n 0, 1) := by decide +kernel
theorem dX0_closedIn_15 : decode cX0_closedIn 15 = .ok (.getfield 19, 3) := by decide +kernel
theorem dX0_closedIn_18 : decode cX0_closedIn 18 = .ok (.iload 4, 2) := by decide +kernel
theorem dX0_closedIn_20 : decode cX0_closedIn 20 = .ok (.iaload, 1) := by decide +kernel
theorem dX0_closedIn_21 : decode cX0_closedIn 21 = .ok (.iload_n 2, 1) := by decide +kernel
theorem dX0_closedIn_22 : decode cX0_closedIn 22 = .ok (.if_icmp .ne 22, 3) := by decide +kernel
theorem dX0_closedIn_25 : decode cX0_closedIn 25 = .ok (.iload_n 3, 1) := by decide +kernel
theorem dX0_closedIn_26 : decode cX0_closedIn 26 = .ok (.aload_n 0, 1) := by decide +kernel
theorem dX0_closedIn_27 : decode cX0_closedIn 27 = .ok (.iload 4, 2) := by decide +kernel
theorem dX0_closedIn_29 : decode cX0_closedIn 29 = .ok (.invokevirtual 106, 3) := by decide +kernel
theorem dX0_closedIn_32 : decode cX0_closedIn 32 = .ok (.aload_n 0, 1) := by decide +kernel
theorem dX0_closedIn_33 : decode cX0_closedIn 33 = .ok (.getfield 30, 3) := by decide +kernel
theorem dX0_closedIn_36 : decode cX0_closedIn 36 = .ok (.iload_n 1, 1) := by decide +kernel
theorem dX0_closedIn_37 : decode cX0_closedIn 37 = .ok (.aaload, 1) := by decide +kernel
theorem dX0_closedIn_38 : decode cX0_closedIn 38 = .ok (.iload 4, 2) := by decide +kernel
theorem dX0_closedIn_40 : decode cX0_closedIn 40 = .ok (.iaload, 1) := by decide +kernel
theorem dX0_closedIn_41 : decode cX0_closedIn 41 = .ok (.imul, 1) := by decide +kernel
theorem dX0_closedIn_42 : decode cX0_closedIn 42 = .ok (.iadd, 1) := by decide +kernel
theorem dX0_closedIn_43 : decode cX0_closedIn 43 = .ok (.istore_n 3, 1) := by decide +kernel
theorem dX0_closedIn_44 : decode cX0_closedIn 44 = .ok (.iinc 4 1, 3) := by decide +kernel
theorem dX0_closedIn_47 : decode cX0_closedIn 47 = .ok (.goto (-42), 3) := by decide +kernel
theorem dX0_closedIn_50 : decode cX0_closedIn 50 = .ok (.iload_n 3, 1) := by decide +kernel
theorem dX0_closedIn_51 : decode cX0_closedIn 51 = .ok (.ireturn, 1) := by decide +kernel
theorem dX0_yieldOfSelling_0 : decode cX0_yieldOfSelling 0 = .ok (.aload_n 0, 1) := by decide +kernel
theorem dX0_yieldOfSelling_1 : decode cX0_yieldOfSelling 1 = .ok (.getfield 30, 3) := by decide +kernel
theorem dX0_yieldOfSelling_4 : decode cX0_yieldOfSelling 4 = .ok (.iload_n 1, 1) := by decide +kernel
theorem dX0_yieldOfSelling_5 : decode cX0_yieldOfSelling 5 = .ok (.aaload, 1) := by decide +kernel
theorem dX0_yieldOfSelling_6 : decode cX0_yieldOfSelling 6 = .ok (.iload_n 2, 1) := by decide +kernel
theorem dX0_yieldOfSelling_7 : decode cX0_yieldOfSelling 7 = .ok (.iaload, 1) := by decide +kernel
theorem dX0_yieldOfSelling_8 : decode cX0_yieldOfSelling 8 = .ok (.istore 4, 2) := by decide +kernel
theorem dX0_yieldOfSelling_10 : decode cX0_yieldOfSelling 10 = .ok (.iload 4, 2) := by decide +kernel
theorem dX0_yieldOfSelling_12 : decode cX0_yieldOfSelling 12 = .ok (.iload_n 3, 1) := by decide +kernel
theorem dX0_yieldOfSelling_13 : decode cX0_yieldOfSelling 13 = .ok (.isub, 1) := by decide +kernel
theorem dX0_yieldOfSelling_14 : decode cX0_yieldOfSelling 14 = .ok (.istore 5, 2) := by decide +kernel
theorem dX0_yieldOfSelling_16 : decode cX0_yieldOfSelling 16 = .ok (.aload_n 0, 1) := by decide +kernel
theorem dX0_yieldOfSelling_17 : decode cX0_yieldOfSelling 17 = .ok (.iload_n 2, 1) := by decide +kernel
theorem dX0_yieldOfSelling_18 : decode cX0_yieldOfSelling 18 = .ok (.invokevirtual 94, 3) := by decide +kernel
theorem dX0_yieldOfSelling_21 : decode cX0_yieldOfSelling 21 = .ok (.iload 4, 2) := by decide +kernel
theorem dX0_yieldOfSelling_23 : decode cX0_yieldOfSelling 23 = .ok (.invokestatic 169, 3) := by decide +kernel
theorem dX0_yieldOfSelling_26 : decode cX0_yieldOfSelling 26 = .ok (.isub, 1) := by decide +kernel
theorem dX0_yieldOfSelling_27 : decode cX0_yieldOfSelling 27 = .ok (.iload 5, 2) := by decide +kernel
theorem dX0_yieldOfSelling_29 : decode cX0_yieldOfSelling 29 = .ok (.invokestatic 169, 3) := by decide +kernel
theorem dX0_yieldOfSelling_32 : decode cX0_yieldOfSelling 32 = .ok (.iadd, 1) := by decide +kernel
theorem dX0_yieldOfSelling_33 : decode cX0_yieldOfSelling 33 = .ok (.istore 6, 2) := by decide +kernel
theorem dX0_yieldOfSelling_35 : decode cX0_yieldOfSelling 35 = .ok (.iload_n 3, 1) := by decide +kernel
theorem dX0_yieldOfSelling_36 : decode cX0_yieldOfSelling 36 = .ok (.aload_n 0, 1) := by decide +kernel
theorem dX0_yieldOfSelling_37 : decode cX0_yieldOfSelling 37 = .ok (.iload_n 2, 1) := by decide +kernel
theorem dX0_yieldOfSelling_38 : decode cX0_yieldOfSelling 38 = .ok (.invokevirtual 77, 3) := by decide +kernel
theorem dX0_yieldOfSelling_41 : decode cX0_yieldOfSelling 41 = .ok (.imul, 1) := by decide +kernel
theorem dX0_yieldOfSelling_42 : decode cX0_yieldOfSelling 42 = .ok (.iload 5, 2) := by decide +kernel
theorem dX0_yieldOfSelling_44 : decode cX0_yieldOfSelling 44 = .ok (.aload_n 0, 1) := by decide +kernel
theorem dX0_yieldOfSelling_45 : decode cX0_yieldOfSelling 45 = .ok (.iload_n 2, 1) := by decide +kernel
theorem dX0_yieldOfSelling_46 : decode cX0_yieldOfSelling 46 = .ok (.iload 6, 2) := by decide +kernel
theorem dX0_yieldOfSelling_48 : decode cX0_yieldOfSelling 48 = .ok (.invokevirtual 175, 3) := by decide +kernel
theorem dX0_yieldOfSelling_51 : decode cX0_yieldOfSelling 51 = .ok (.imul, 1) := by decide +kernel
theorem dX0_yieldOfSelling_52 : decode cX0_yieldOfSelling 52 = .ok (.iadd, 1) := by decide +kernel
theorem dX0_yieldOfSelling_53 : decode cX0_yieldOfSelling 53 = .ok (.ireturn, 1) := by decide +kernel
theorem dX0_mixed_0 : decode cX0_mixed 0 = .ok (.lload_n 0, 1) := by decide +kernel
theorem dX0_mixed_1 : decode cX0_mixed 1 = .ok (.ldc2_w 178, 3) := by decide +kernel
theorem dX0_mixed_4 : decode cX0_mixed 4 = .ok (.lmul, 1) := by decide +kernel
theorem dX0_mixed_5 : decode cX0_mixed 5 = .ok (.iload_n 2, 1) := by decide +kernel
theorem dX0_mixed_6 : decode cX0_mixed 6 = .ok (.i2l, 1) := by decide +kernel
theorem dX0_mixed_7 : decode cX0_mixed 7 = .ok (.ladd, 1) := by decide +kernel
theorem dX0_mixed_8 : decode cX0_mixed 8 = .ok (.lreturn, 1) := by decide +kernel
theorem dX0_mixedTower_0 : decode cX0_mixedTower 0 = .ok (.lload_n 1, 1) := by decide +kernel
theorem dX0_mixedTower_1 : decode cX0_mixedTower 1 = .ok (.aload_n 0, 1) := by decide +kernel
theorem dX0_mixedTower_2 : decode cX0_mixedTower 2 = .ok (.getfield 16, 3) := by decide +kernel
theorem dX0_mixedTower_5 : decode cX0_mixedTower 5 = .ok (.iload_n 3, 1) := by decide +kernel
theorem dX0_mixedTower_6 : decode cX0_mixedTower 6 = .ok (.iaload, 1) := by decide +kernel
theorem dX0_mixedTower_7 : decode cX0_mixedTower 7 = .ok (.invokestatic 127, 3) := by decide +kernel
theorem dX0_mixedTower_10 : decode cX0_mixedTower 10 = .ok (.lstore 4, 2) := by decide +kernel
theorem dX0_mixedTower_12 : decode cX0_mixedTower 12 = .ok (.lload 4, 2) := by decide +kernel
theorem dX0_mixedTower_14 : decode cX0_mixedTower 14 = .ok (.aload_n 0, 1) := by decide +kernel
theorem dX0_mixedTower_15 : decode cX0_mixedTower 15 = .ok (.iload_n 3, 1) := by decide +kernel
theorem dX0_mixedTower_16 : decode cX0_mixedTower 16 = .ok (.invokevirtual 94, 3) := by decide +kernel
theorem dX0_mixedTower_19 : decode cX0_mixedTower 19 = .ok (.invokestatic 127, 3) := by decide +kernel
theorem dX0_mixedTower_22 : decode cX0_mixedTower 22 = .ok (.lstore 4, 2) := by decide +kernel
theorem dX0_mixedTower_24 : decode cX0_mixedTower 24 = .ok (.lload 4, 2) := by decide +kernel
theorem dX0_mixedTower_26 : decode cX0_mixedTower 26 = .ok (.aload_n 0, 1) := by decide +kernel
theorem dX0_mixedTower_27 : decode cX0_mixedTower 27 = .ok (.iload_n 3, 1) := by decide +kernel
theorem dX0_mixedTower_28 : decode cX0_mixedTower 28 = .ok (.invokevirtual 77, 3) := by decide +kernel
theorem dX0_mixedTower_31 : decode cX0_mixedTower 31 = .ok (.invokestatic 127, 3) := by decide +kernel
theorem dX0_mixedTower_34 : decode cX0_mixedTower 34 = .ok (.lstore 4, 2) := by decide +kernel
theorem dX0_mixedTower_36 : decode cX0_mixedTower 36 = .ok (.lload 4, 2) := by decide +kernel
theorem dX0_mixedTower_38 : decode cX0_mixedTower 38 = .ok (.aload_n 0, 1) := by decide +kernel
theorem dX0_mixedTower_39 : decode cX0_mixedTower 39 = .ok (.getfield 19, 3) := by decide +kernel
theorem dX0_mixedTower_42 : decode cX0_mixedTower 42 = .ok (.iload_n 3, 1) := by decide +kernel
theorem dX0_mixedTower_43 : decode cX0_mixedTower 43 = .ok (.iaload, 1) := by decide +kernel
theorem dX0_mixedTower_44 : decode cX0_mixedTower 44 = .ok (.invokestatic 127, 3) := by decide +kernel
theorem dX0_mixedTower_47 : decode cX0_mixedTower 47 = .ok (.lstore 4, 2) := by decide +kernel
theorem dX0_mixedTower_49 : decode cX0_mixedTower 49 = .ok (.lload 4, 2) := by decide +kernel
theorem dX0_mixedTower_51 : decode cX0_mixedTower 51 = .ok (.aload_n 0, 1) := by decide +kernel
theorem dX0_mixedTower_52 : decode cX0_mixedTower 52 = .ok (.getfield 22, 3) := by decide +kernel
theorem dX0_mixedTower_55 : decode cX0_mixedTower 55 = .ok (.iload_n 3, 1) := by decide +kernel
theorem dX0_mixedTower_56 : decode cX0_mixedTower 56 = .ok (.iaload, 1) := by decide +kernel
theorem dX0_mixedTower_57 : decode cX0_mixedTower 57 = .ok (.invokestatic 127, 3) := by decide +kernel
theorem dX0_mixedTower_60 : decode cX0_mixedTower 60 = .ok (.lstore 4, 2) := by decide +kernel
theorem dX0_mixedTower_62 : decode cX0_mixedTower 62 = .ok (.lload 4, 2) := by decide +kernel
theorem dX0_mixedTower_64 : decode cX0_mixedTower 64 = .ok (.aload_n 0, 1) := by decide +kernel
theorem dX0_mixedTower_65 : decode cX0_mixedTower 65 = .ok (.iload_n 3, 1) := by decide +kernel
theorem dX0_mixedTower_66 : decode cX0_mixedTower 66 = .ok (.invokevirtual 97, 3) := by decide +kernel
theorem dX0_mixedTower_69 : decode cX0_mixedTower 69 = .ok (.invokestatic 127, 3) := by decide +kernel
theorem dX0_mixedTower_72 : decode cX0_mixedTower 72 = .ok (.lstore 4, 2) := by decide +kernel
theorem dX0_mixedTower_74 : decode cX0_mixedTower 74 = .ok (.lload 4, 2) := by decide +kernel
theorem dX0_mixedTower_76 : decode cX0_mixedTower 76 = .ok (.aload_n 0, 1) := by decide +kernel
theorem dX0_mixedTower_77 : decode cX0_mixedTower 77 = .ok (.iload_n 3, 1) := by decide +kernel
theorem dX0_mixedTower_78 : decode cX0_mixedTower 78 = .ok (.invokevirtual 106, 3) := by decide +kernel
theorem dX0_mixedTower_81 : decode cX0_mixedTower 81 = .ok (.invokestatic 127, 3) := by decide +kernel
theorem dX0_mixedTower_84 : decode cX0_mixedTower 84 = .ok (.lreturn, 1) := by decide +kernel
theorem dX0_mixedTrader_0 : decode cX0_mixedTrader 0 = .ok (.lload_n 1, 1) := by decide +kernel
theorem dX0_mixedTrader_1 : decode cX0_mixedTrader 1 = .ok (.aload_n 0, 1) := by decide +kernel
theorem dX0_mixedTrader_2 : decode cX0_mixedTrader 2 = .ok (.getfield 25, 3) := by decide +kernel
theorem dX0_mixedTrader_5 : decode cX0_mixedTrader 5 = .ok (.iload_n 3, 1) := by decide +kernel
theorem dX0_mixedTrader_6 : decode cX0_mixedTrader 6 = .ok (.iaload, 1) := by decide +kernel
theorem dX0_mixedTrader_7 : decode cX0_mixedTrader 7 = .ok (.invokestatic 127, 3) := by decide +kernel
theorem dX0_mixedTrader_10 : decode cX0_mixedTrader 10 = .ok (.lstore 4, 2) := by decide +kernel
theorem dX0_mixedTrader_12 : decode cX0_mixedTrader 12 = .ok (.lload 4, 2) := by decide +kernel
theorem dX0_mixedTrader_14 : decode cX0_mixedTrader 14 = .ok (.aload_n 0, 1) := by decide +kernel
theorem dX0_mixedTrader_15 : decode cX0_mixedTrader 15 = .ok (.iload_n 3, 1) := by decide +kernel
theorem dX0_mixedTrader_16 : decode cX0_mixedTrader 16 = .ok (.iconst 0, 1) := by decide +kernel
theorem dX0_mixedTrader_17 : decode cX0_mixedTrader 17 = .ok (.invokevirtual 100, 3) := by decide +kernel
theorem dX0_mixedTrader_20 : decode cX0_mixedTrader 20 = .ok (.invokestatic 127, 3) := by decide +kernel
theorem dX0_mixedTrader_23 : decode cX0_mixedTrader 23 = .ok (.lstore 4, 2) := by decide +kernel
theorem dX0_mixedTrader_25 : decode cX0_mixedTrader 25 = .ok (.lload 4, 2) := by decide +kernel
theorem dX0_mixedTrader_27 : decode cX0_mixedTrader 27 = .ok (.aload_n 0, 1) := by decide +kernel
theorem dX0_mixedTrader_28 : decode cX0_mixedTrader 28 = .ok (.iload_n 3, 1) := by decide +kernel
theorem dX0_mixedTrader_29 : decode cX0_mixedTrader 29 = .ok (.invokevirtual 103, 3) := by decide +kernel
theorem dX0_mixedTrader_32 : decode cX0_mixedTrader 32 = .ok (.invokestatic 127, 3) := by decide +kernel
theorem dX0_mixedTrader_35 : decode cX0_mixedTrader 35 = .ok (.lstore 4, 2) := by decide +kernel
theorem dX0_mixedTrader_37 : decode cX0_mixedTrader 37 = .ok (.iconst 0, 1) := by decide +kernel
theorem dX0_mixedTrader_38 : decode cX0_mixedTrader 38 = .ok (.istore 6, 2) := by decide +kernel
theorem dX0_mixedTrader_40 : decode cX0_mixedTrader 40 = .ok (.iload 6, 2) := by decide +kernel
theorem dX0_mixedTrader_42 : decode cX0_mixedTrader 42 = .ok (.aload_n 0, 1) := by decide +kernel
theorem dX0_mixedTrader_43 : decode cX0_mixedTrader 43 = .ok (.getfield 44, 3) := by decide +kernel
theorem dX0_mixedTrader_46 : decode cX0_mixedTrader 46 = .ok (.if_icmp .ge 25, 3) := by decide +kernel
theorem dX0_mixedTrader_49 : decode cX0_mixedTrader 49 = .ok (.lload 4, 2) := by decide +kernel
theorem dX0_mixedTrader_51 : decode cX0_mixedTrader 51 = .ok (.aload_n 0, 1) := by decide +kernel
theorem dX0_mixedTrader_52 : decode cX0_mixedTrader 52 = .ok (.getfield 30, 3) := by decide +kernel
theorem dX0_mixedTrader_55 : decode cX0_mixedTrader 55 = .ok (.iload_n 3, 1) := by decide +kernel
theorem dX0_mixedTrader_56 : decode cX0_mixedTrader 56 = .ok (.aaload, 1) := by decide +kernel
theorem dX0_mixedTrader_57 : decode cX0_mixedTrader 57 = .ok (.iload 6, 2) := by decide +kernel
theorem dX0_mixedTrader_59 : decode cX0_mixedTrader 59 = .ok (.iaload, 1) := by decide +kernel
theorem dX0_mixedTrader_60 : decode cX0_mixedTrader 60 = .ok (.invokestatic 127, 3) := by decide +kernel
theorem dX0_mixedTrader_63 : decode cX0_mixedTrader 63 = .ok (.lstore 4, 2) := by decide +kernel
theorem dX0_mixedTrader_65 : decode cX0_mixedTrader 65 = .ok (.iinc 6 1, 3) := by decide +kernel
theorem dX0_mixedTrader_68 : decode cX0_mixedTrader 68 = .ok (.goto (-28), 3) := by decide +kernel
theorem dX0_mixedTrader_71 : decode cX0_mixedTrader 71 = .ok (.lload 4, 2) := by decide +kernel
theorem dX0_mixedTrader_73 : decode cX0_mixedTrader 73 = .ok (.lreturn, 1) := by decide +kernel
end
section
theorem dX1_init_0 : decode cX1_init 0 = .ok (.aload_n 0, 1) := by decide +kernel
theorem dX1_init_1 : decode cX1_init 1 = .ok (.invokespecial 1, 3) := by decide +kernel
theorem dX1_init_4 : decode cX1_init 4 = .ok (.aload_n 0, 1) := by decide +kernel
theorem dX1_init_5 : decode cX1_init 5 = .ok (.bipush 8, 2) := by decide +kernel
theorem dX1_init_7 : decode cX1_init 7 = .ok (.newarray .int, 2) := by decide +kernel
theorem dX1_init_9 : decode cX1_init 9 = .ok (.putfield 9, 3) := by decide +kernel
theorem dX1_init_12 : decode cX1_init 12 = .ok (.aload_n 0, 1) := by decide +kernel
theorem dX1_init_13 : decode cX1_init 13 = .ok (.bipush 8, 2) := by decide +kernel
theorem dX1_init_15 : decode cX1_init 15 = .ok (.newarray .int, 2) := by decide +kernel
theorem dX1_init_17 : decode cX1_init 17 = .ok (.putfield 13, 3) := by decide +kernel
theorem dX1_init_20 : decode cX1_init 20 = .ok (.aload_n 0, 1) := by decide +kernel
theorem dX1_init_21 : decode cX1_init 21 = .ok (.bipush 8, 2) := by decide +kernel
theorem dX1_init_23 : decode cX1_init 23 = .ok (.newarray .int, 2) := by decide +kernel
theorem dX1_init_25 : decode cX1_init 25 = .ok (.putfield 16, 3) := by decide +kernel
theorem dX1_init_28 : decode cX1_init 28 = .ok (.aload_n 0, 1) := by decide +kernel
theorem dX1_init_29 : decode cX1_init 29 = .ok (.bipush 71, 2) := by decide +kernel
theorem dX1_init_31 : decode cX1_init 31 = .ok (.newarray .int, 2) := by decide +kernel
theorem dX1_init_33 : decode cX1_init 33 = .ok (.putfield 19, 3) := by decide +kernel
theorem dX1_init_36 : decode cX1_init 36 = .ok (.aload_n 0, 1) := by decide +kernel
theorem dX1_init_37 : decode cX1_init 37 = .ok (.bipush 71, 2) := by decide +kernel
theorem dX1_init_39 : decode cX1_init 39 = .ok (.newarray .int, 2) := by decide +kernel
theorem dX1_init_41 : decode cX1_init 41 = .ok (.putfield 22, 3) := by decide +kernel
theorem dX1_init_44 : decode cX1_init 44 = .ok (.return_, 1) := by decide +kernel
theorem dX1_thrown_0 : decode cX1_thrown 0 = .ok (.aload_n 0, 1) := by decide +kernel
theorem dX1_thrown_1 : decode cX1_thrown 1 = .ok (.getfield 25, 3) := by decide +kernel
theorem dX1_thrown_4 : decode cX1_thrown 4 = .ok (.ireturn, 1) := by decide +kernel
theorem dX1_fail_0 : decode cX1_fail 0 = .ok (.aload_n 0, 1) := by decide +kernel
theorem dX1_fail_1 : decode cX1_fail 1 = .ok (.iload_n 1, 1) := by decide +kernel
theorem dX1_fail_2 : decode cX1_fail 2 = .ok (.putfield 25, 3) := by decide +kernel
theorem dX1_fail_5 : decode cX1_fail 5 = .ok (.iconst 0, 1) := by decide +kernel
theorem dX1_fail_6 : decode cX1_fail 6 = .ok (.ireturn, 1) := by decide +kernel
theorem dX1_told_0 : decode cX1_told 0 = .ok (.aload_n 0, 1) := by decide +kernel
theorem dX1_told_1 : decode cX1_told 1 = .ok (.iconst 0, 1) := by decide +kernel
theorem dX1_told_2 : decode cX1_told 2 = .ok (.putfield 25, 3) := by decide +kernel
theorem dX1_told_5 : decode cX1_told 5 = .ok (.iload_n 1, 1) := by decide +kernel
theorem dX1_told_6 : decode cX1_told 6 = .ok (.ireturn, 1) := by decide +kernel
theorem dX1_isIn_0 : decode cX1_isIn 0 = .ok (.iload_n 0, 1) := by decide +kernel
theorem dX1_isIn_1 : decode cX1_isIn 1 = .ok (.iload_n 1, 1) := by decide +kernel
theorem dX1_isIn_2 : decode cX1_isIn 2 = .ok (.if_icmp .lt 12, 3) := by decide +kernel
theorem dX1_isIn_5 : decode cX1_isIn 5 = .ok (.iload_n 0, 1) := by decide +kernel
theorem dX1_isIn_6 : decode cX1_isIn 6 = .ok (.iload_n 2, 1) := by decide +kernel
theorem dX1_isIn_7 : decode cX1_isIn 7 = .ok (.if_icmp .gt 7, 3) := by decide +kernel
theorem dX1_isIn_10 : decode cX1_isIn 10 = .ok (.iconst 1, 1) := by decide +kernel
theorem dX1_isIn_11 : decode cX1_isIn 11 = .ok (.goto 4, 3) := by decide +kernel
theorem dX1_isIn_14 : decode cX1_isIn 14 = .ok (.iconst 0, 1) := by decide +kernel
theorem dX1_isIn_15 : decode cX1_isIn 15 = .ok (.ireturn, 1) := by decide +kernel
theorem dX1_isTower_0 : decode cX1_isTower 0 = .ok (.iload_n 1, 1) := by decide +kernel
theorem dX1_isTower_1 : decode cX1_isTower 1 = .ok (.iconst 0, 1) := by decide +kernel
theorem dX1_isTower_2 : decode cX1_isTower 2 = .ok (.aload_n 0, 1) := by decide +kernel
theorem dX1_isTower_3 : decode cX1_isTower 3 = .ok (.getfield 29, 3) := by decide +kernel
theorem dX1_isTower_6 : decode cX1_isTower 6 = .ok (.iconst 1, 1) := by decide +kernel
theorem dX1_isTower_7 : decode cX1_isTower 7 = .ok (.isub, 1) := by decide +kernel
theorem dX1_isTower_8 : decode cX1_isTower 8 = .ok (.invokestatic 32, 3) := by decide +kernel
theorem dX1_isTower_11 : decode cX1_isTower 11 = .ok (.ireturn, 1) := by decide +kernel
theorem dX1_isTrader_0 : decode cX1_isTrader 0 = .ok (.iload_n 1, 1) := by decide +kernel
theorem dX1_isTrader_1 : decode cX1_isTrader 1 = .ok (.iconst 0, 1) := by decide +kernel
theorem dX1_isTrader_2 : decode cX1_isTrader 2 = .ok (.aload_n 0, 1) := by decide +kernel
theorem dX1_isTrader_3 : decode cX1_isTrader 3 = .ok (.getfield 36, 3) := by decide +kernel
theorem dX1_isTrader_6 : decode cX1_isTrader 6 = .ok (.iconst 1, 1) := by decide +kernel
theorem dX1_isTrader_7 : decode cX1_isTrader 7 = .ok (.isub, 1) := by decide +kernel
theorem dX1_isTrader_8 : decode cX1_isTrader 8 = .ok (.invokestatic 32, 3) := by decide +kernel
theorem dX1_isTrader_11 : decode cX1_isTrader 11 = .ok (.ireturn, 1) := by decide +kernel
theorem dX1_keep_0 : decode cX1_keep 0 = .ok (.aload_n 0, 1) := by decide +kernel
theorem dX1_keep_1 : decode cX1_keep 1 = .ok (.getfield 19, 3) := by decide +kernel
theorem dX1_keep_4 : decode cX1_keep 4 = .ok (.iconst 0, 1) := by decide +kernel
theorem dX1_keep_5 : decode cX1_keep 5 = .ok (.aload_n 0, 1) := by decide +kernel
theorem dX1_keep_6 : decode cX1_keep 6 = .ok (.getfield 22, 3) := by decide +kernel
theorem dX1_keep_9 : decode cX1_keep 9 = .ok (.iconst 0, 1) := by decide +kernel
theorem dX1_keep_10 : decode cX1_keep 10 = .ok (.bipush 71, 2) := by decide +kernel
theorem dX1_keep_12 : decode cX1_keep 12 = .ok (.invokestatic 39, 3) := by decide +kernel
theorem dX1_keep_15 : decode cX1_keep 15 = .ok (.return_, 1) := by decide +kernel
theorem dX1_bringBack_0 : decode cX1_bringBack 0 = .ok (.aload_n 0, 1) := by decide +kernel
theorem dX1_bringBack_1 : decode cX1_bringBack 1 = .ok (.getfield 22, 3) := by decide +kernel
theorem dX1_bringBack_4 : decode cX1_bringBack 4 = .ok (.iconst 0, 1) := by decide +kernel
theorem dX1_bringBack_5 : decode cX1_bringBack 5 = .ok (.aload_n 0, 1) := by decide +kernel
theorem dX1_bringBack_6 : decode cX1_bringBack 6 = .ok (.getfield 19, 3) := by decide +kernel
theorem dX1_bringBack_9 : decode cX1_bringBack 9 = .ok (.iconst 0, 1) := by decide +kernel
theorem dX1_bringBack_10 : decode cX1_bringBack 10 = .ok (.bipush 71, 2) := by decide +kernel
theorem dX1_bringBack_12 : decode cX1_bringBack 12 = .ok (.invokestatic 39, 3) := by decide +kernel
theorem dX1_bringBack_15 : decode cX1_bringBack 15 = .ok (.return_, 1) := by decide +kernel
theorem dX1_at_0 : decode cX1_at 0 = .ok (.bipush 23, 2) := by decide +kernel
theorem dX1_at_2 : decode cX1_at 2 = .ok (.bipush 8, 2) := by decide +kernel
theorem dX1_at_4 : decode cX1_at 4 = .ok (.iload_n 0, 1) := by decide +kernel
theorem dX1_at_5 : decode cX1_at 5 = .ok (.imul, 1) := by decide +kernel
theorem dX1_at_6 : decode cX1_at 6 = .ok (.iadd, 1) := by decide +kernel
theorem dX1_at_7 : decode cX1_at 7 = .ok (.iload_n 1, 1) := by decide +kernel
theorem dX1_at_8 : decode cX1_at 8 = .ok (.iadd, 1) := by decide +kernel
theorem dX1_at_9 : decode cX1_at 9 = .ok (.ireturn, 1) := by decide +kernel
theorem dX1_doves_0 : decode cX1_doves 0 = .ok (.iconst 0, 1) := by decide +kernel
theorem dX1_doves_1 : decode cX1_doves 1 = .ok (.istore_n 2, 1) := by decide +kernel
theorem dX1_doves_2 : decode cX1_doves 2 = .ok (.iconst 0, 1) := by decide +kernel
theorem dX1_doves_3 : decode cX1_doves 3 = .ok (.istore_n 3, 1) := by decide +kernel
theorem dX1_doves_4 : decode cX1_doves 4 = .ok (.iload_n 3, 1) := by decide +kernel
theorem dX1_doves_5 : decode cX1_doves 5 = .ok (.aload_n 0, 1) := by decide +kernel
theorem dX1_doves_6 : decode cX1_doves 6 = .ok (.getfield 36, 3) := by decide +kernel
theorem dX1_doves_9 : decode cX1_doves 9 = .ok (.if_icmp .ge 27, 3) := by decide +kernel
theorem dX1_doves_12 : decode cX1_doves 12 = .ok (.iload_n 2, 1) := by decide +kernel
theorem dX1_doves_13 : decode cX1_doves 13 = .ok (.iconst 0, 1) := by decide +kernel
theorem dX1_doves_14 : decode cX1_doves 14 = .ok (.aload_n 0, 1) := by decide +kernel
theorem dX1_doves_15 : decode cX1_doves 15 = .ok (.getfield 19, 3) := by decide +kernel
theorem dX1_doves_18 : decode cX1_doves 18 = .ok (.iload_n 3, 1) := by decide +kernel
theorem dX1_doves_19 : decode cX1_doves 19 = .ok (.iload_n 1, 1) := by decide +kernel
theorem dX1_doves_20 : decode cX1_doves 20 = .ok (.invokestatic 45, 3) := by decide +kernel
theorem dX1_doves_23 : decode cX1_doves 23 = .ok (.iaload, 1) := by decide +kernel
theorem dX1_doves_24 : decode cX1_doves 24 = .ok (.ineg, 1) := by decide +kernel
theorem dX1_doves_25 : decode cX1_doves 25 = .ok (.invokestatic 49, 3) := by decide +kernel
theorem dX1_doves_28 : decode cX1_doves 28 = .ok (.iadd, 1) := by decide +kernel
theorem dX1_doves_29 : decode cX1_doves 29 = .ok (.istore_n 2, 1) := by decide +kernel
theorem dX1_doves_30 : decode cX1_doves 30 = .ok (.iinc 3 1, 3) := by decide +kernel
theorem dX1_doves_33 : decode cX1_doves 33 = .ok (.goto (-29), 3) := by decide +kernel
theorem dX1_doves_36 : decode cX1_doves 36 = .ok (.iload_n 2, 1) := by decide +kernel
theorem dX1_doves_37 : decode cX1_doves 37 = .ok (.ireturn, 1) := by decide +kernel
theorem dX1_priceBehind_0 : decode cX1_priceBehind 0 = .ok (.iconst 0, 1) := by decide +kernel
theorem dX1_priceBehind_1 : decode cX1_priceBehind 1 = .ok (.aload_n 0, 1) := by decide +kernel
theorem dX1_priceBehind_2 : decode cX1_priceBehind 2 = .ok (.getfield 19, 3) := by decide +kernel
theorem dX1_priceBehind_5 : decode cX1_priceBehind 5 = .ok (.iconst 1, 1) := by decide +kernel
theorem dX1_priceBehind_6 : decode cX1_priceBehind 6 = .ok (.iload_n 1, 1) := by decide +kernel
theorem dX1_priceBehind_7 : decode cX1_priceBehind 7 = .ok (.iadd, 1) := by decide +kernel
theorem dX1_priceBehind_8 : decode cX1_priceBehind 8 = .ok (.iaload, 1) := by decide +kernel
theorem dX1_priceBehind_9 : decode cX1_priceBehind 9 = .ok (.iload_n 2, 1) := by decide +kernel
theorem dX1_priceBehind_10 : decode cX1_priceBehind 10 = .ok (.iadd, 1) := by decide +kernel
theorem dX1_priceBehind_11 : decode cX1_priceBehind 11 = .ok (.aload_n 0, 1) := by decide +kernel
theorem dX1_priceBehind_12 : decode cX1_priceBehind 12 = .ok (.getfield 9, 3) := by decide +kernel
theorem dX1_priceBehind_15 : decode cX1_priceBehind 15 = .ok (.iload_n 1, 1) := by decide +kernel
theorem dX1_priceBehind_16 : decode cX1_priceBehind 16 = .ok (.iaload, 1) := by decide +kernel
theorem dX1_priceBehind_17 : decode cX1_priceBehind 17 = .ok (.imul, 1) := by decide +kernel
theorem dX1_priceBehind_18 : decode cX1_priceBehind 18 = .ok (.iconst 2, 1) := by decide +kernel
theorem dX1_priceBehind_19 : decode cX1_priceBehind 19 = .ok (.aload_n 0, 1) := by decide +kernel
theorem dX1_priceBehind_20 : decode cX1_priceBehind 20 = .ok (.iload_n 1, 1) := by decide +kernel
theorem dX1_priceBehind_21 : decode cX1_priceBehind 21 = .ok (.invokevirtual 54, 3) := by decide +kernel
theorem dX1_priceBehind_24 : decode cX1_priceBehind 24 = .ok (.imul, 1) := by decide +kernel
theorem dX1_priceBehind_25 : decode cX1_priceBehind 25 = .ok (.isub, 1) := by decide +kernel
theorem dX1_priceBehind_26 : decode cX1_priceBehind 26 = .ok (.invokestatic 49, 3) := by decide +kernel
theorem dX1_priceBehind_29 : decode cX1_priceBehind 29 = .ok (.ireturn, 1) := by decide +kernel
theorem dX1_price_0 : decode cX1_price 0 = .ok (.aload_n 0, 1) := by decide +kernel
theorem dX1_price_1 : decode cX1_price 1 = .ok (.iload_n 1, 1) := by decide +kernel
theorem dX1_price_2 : decode cX1_price 2 = .ok (.iconst 0, 1) := by decide +kernel
theorem dX1_price_3 : decode cX1_price 3 = .ok (.invokevirtual 58, 3) := by decide +kernel
theorem dX1_price_6 : decode cX1_price 6 = .ok (.ireturn, 1) := by decide +kernel
theorem dX1_until_0 : decode cX1_until 0 = .ok (.iconst 1, 1) := by decide +kernel
theorem dX1_until_1 : decode cX1_until 1 = .ok (.istore_n 2, 1) := by decide +kernel
theorem dX1_until_2 : decode cX1_until 2 = .ok (.aload_n 0, 1) := by decide +kernel
theorem dX1_until_3 : decode cX1_until 3 = .ok (.getfield 19, 3) := by decide +kernel
theorem dX1_until_6 : decode cX1_until 6 = .ok (.iconst 0, 1) := by decide +kernel
theorem dX1_until_7 : decode cX1_until 7 = .ok (.iaload, 1) := by decide +kernel
theorem dX1_until_8 : decode cX1_until 8 = .ok (.iload_n 2, 1) := by decide +kernel
theorem dX1_until_9 : decode cX1_until 9 = .ok (.iadd, 1) := by decide +kernel
theorem dX1_until_10 : decode cX1_until 10 = .ok (.aload_n 0, 1) := by decide +kernel
theorem dX1_until_11 : decode cX1_until 11 = .ok (.getfield 13, 3) := by decide +kernel
theorem dX1_until_14 : decode cX1_until 14 = .ok (.iload_n 1, 1) := by decide +kernel
theorem dX1_until_15 : decode cX1_until 15 = .ok (.iaload, 1) := by decide +kernel
theorem dX1_until_16 : decode cX1_until 16 = .ok (.irem, 1) := by decide +kernel
theorem dX1_until_17 : decode cX1_until 17 = .ok (.aload_n 0, 1) := by decide +kernel
theorem dX1_until_18 : decode cX1_until 18 = .ok (.getfield 16, 3) := by decide +kernel
theorem dX1_until_21 : decode cX1_until 21 = .ok (.iload_n 1, 1) := by decide +kernel
theorem dX1_until_22 : decode cX1_until 22 = .ok (.iaload, 1) := by decide +kernel
theorem dX1_until_23 : decode cX1_until 23 = .ok (.if_icmp .eq 9, 3) := by decide +kernel
theorem dX1_until_26 : decode cX1_until 26 = .ok (.iinc 2 1, 3) := by decide +kernel
theorem dX1_until_29 : decode cX1_until 29 = .ok (.goto (-27), 3) := by decide +kernel
theorem dX1_until_32 : decode cX1_until 32 = .ok (.iload_n 2, 1) := by decide +kernel
theorem dX1_until_33 : decode cX1_until 33 = .ok (.ireturn, 1) := by decide +kernel
theorem dX1_secondOn_0 : decode cX1_secondOn 0 = .ok (.iconst 0, 1) := by decide +kernel
theorem dX1_secondOn_1 : decode cX1_secondOn 1 = .ok (.istore_n 1, 1) := by decide +kernel
theorem dX1_secondOn_2 : decode cX1_secondOn 2 = .ok (.aload_n 0, 1) := by decide +kernel
theorem dX1_secondOn_3 : decode cX1_secondOn 3 = .ok (.getfield 19, 3) := by decide +kernel
theorem dX1_secondOn_6 : decode cX1_secondOn 6 = .ok (.iconst 0, 1) := by decide +kernel
theorem dX1_secondOn_7 : decode cX1_secondOn 7 = .ok (.dup2, 1) := by decide +kernel
theorem dX1_secondOn_8 : decode cX1_secondOn 8 = .ok (.iaload, 1) := by decide +kernel
theorem dX1_secondOn_9 : decode cX1_secondOn 9 = .ok (.iconst 1, 1) := by decide +kernel
theorem dX1_secondOn_10 : decode cX1_secondOn 10 = .ok (.iadd, 1) := by decide +kernel
theorem dX1_secondOn_11 : decode cX1_secondOn 11 = .ok (.iastore, 1) := by decide +kernel
theorem dX1_secondOn_12 : decode cX1_secondOn 12 = .ok (.iconst 0, 1) := by decide +kernel
theorem dX1_secondOn_13 : decode cX1_secondOn 13 = .ok (.istore_n 2, 1) := by decide +kernel
theorem dX1_secondOn_14 : decode cX1_secondOn 14 = .ok (.iload_n 2, 1) := by decide +kernel
theorem dX1_secondOn_15 : decode cX1_secondOn 15 = .ok (.aload_n 0, 1) := by decide +kernel
theorem dX1_secondOn_16 : decode cX1_secondOn 16 = .ok (.getfield 29, 3) := by decide +kernel
theorem dX1_secondOn_19 : decode cX1_secondOn 19 = .ok (.if_icmp .ge 133, 3) := by decide +kernel
theorem dX1_secondOn_22 : decode cX1_secondOn 22 = .ok (.aload_n 0, 1) := by decide +kernel
theorem dX1_secondOn_23 : decode cX1_secondOn 23 = .ok (.getfield 19, 3) := by decide +kernel
theorem dX1_secondOn_26 : decode cX1_secondOn 26 = .ok (.iconst 0, 1) := by decide +kernel
theorem dX1_secondOn_27 : decode cX1_secondOn 27 = .ok (.iaload, 1) := by decide +kernel
theorem dX1_secondOn_28 : decode cX1_secondOn 28 = .ok (.aload_n 0, 1) := by decide +kernel
theorem dX1_secondOn_29 : decode cX1_secondOn 29 = .ok (.getfield 13, 3) := by decide +kernel
theorem dX1_secondOn_32 : decode cX1_secondOn 32 = .ok (.iload_n 2, 1) := by decide +kernel
theorem dX1_secondOn_33 : decode cX1_secondOn 33 = .ok (.iaload, 1) := by decide +kernel
theorem dX1_secondOn_34 : decode cX1_secondOn 34 = .ok (.irem, 1) := by decide +kernel
theorem dX1_secondOn_35 : decode cX1_secondOn 35 = .ok (.aload_n 0, 1) := by decide +kernel
theorem dX1_secondOn_36 : decode cX1_secondOn 36 = .ok (.getfield 16, 3) := by decide +kernel
theorem dX1_secondOn_39 : decode cX1_secondOn 39 = .ok (.iload_n 2, 1) := by decide +kernel
theorem dX1_secondOn_40 : decode cX1_secondOn 40 = .ok (.iaload, 1) := by decide +kernel
theorem dX1_secondOn_41 : decode cX1_secondOn 41 = .ok (.if_icmp .eq 18, 3) := by decide +kernel
theorem dX1_secondOn_44 : decode cX1_secondOn 44 = .ok (.aload_n 0, 1) := by decide +kernel
theorem dX1_secondOn_45 : decode cX1_secondOn 45 = .ok (.getfield 19, 3) := by decide +kernel
theorem dX1_secondOn_48 : decode cX1_secondOn 48 = .ok (.iconst 1, 1) := by decide +kernel
theorem dX1_secondOn_49 : decode cX1_secondOn 49 = .ok (.iload_n 2, 1) := by decide +kernel
theorem dX1_secondOn_50 : decode cX1_secondOn 50 = .ok (.iadd, 1) := by decide +kernel
theorem dX1_secondOn_51 : decode cX1_secondOn 51 = .ok (.dup2, 1) := by decide +kernel
theorem dX1_secondOn_52 : decode cX1_secondOn 52 = .ok (.iaload, 1) := by decide +kernel
theorem dX1_secondOn_53 : decode cX1_secondOn 53 = .ok (.iconst 1, 1) := by decide +kernel
theorem dX1_secondOn_54 : decode cX1_secondOn 54 = .ok (.iadd, 1) := by decide +kernel
theorem dX1_secondOn_55 : decode cX1_secondOn 55 = .ok (.iastore, 1) := by decide +kernel
theorem dX1_secondOn_56 : decode cX1_secondOn 56 = .ok (.goto 90, 3) := by decide +kernel
theorem dX1_secondOn_59 : decode cX1_secondOn 59 = .ok (.aload_n 0, 1) := by decide +kernel
theorem dX1_secondOn_60 : decode cX1_secondOn 60 = .ok (.iload_n 2, 1) := by decide +kernel
theorem dX1_secondOn_61 : decode cX1_secondOn 61 = .ok (.invokevirtual 61, 3) := by decide +kernel
theorem dX1_secondOn_64 : decode cX1_secondOn 64 = .ok (.istore_n 3, 1) := by decide +kernel
theorem dX1_secondOn_65 : decode cX1_secondOn 65 = .ok (.iconst 0, 1) := by decide +kernel
theorem dX1_secondOn_66 : decode cX1_secondOn 66 = .ok (.istore 4, 2) := by decide +kernel
theorem dX1_secondOn_68 : decode cX1_secondOn 68 = .ok (.iload 4, 2) := by decide +kernel
theorem dX1_secondOn_70 : decode cX1_secondOn 70 = .ok (.aload_n 0, 1) := by decide +kernel
theorem dX1_secondOn_71 : decode cX1_secondOn 71 = .ok (.getfield 36, 3) := by decide +kernel
theorem dX1_secondOn_74 : decode cX1_secondOn 74 = .ok (.if_icmp .ge 47, 3) := by decide +kernel
theorem dX1_secondOn_77 : decode cX1_secondOn 77 = .ok (.aload_n 0, 1) := by decide +kernel
theorem dX1_secondOn_78 : decode cX1_secondOn 78 = .ok (.getfield 19, 3) := by decide +kernel
theorem dX1_secondOn_81 : decode cX1_secondOn 81 = .ok (.bipush 17, 2) := by decide +kernel
theorem dX1_secondOn_83 : decode cX1_secondOn 83 = .ok (.iload 4, 2) := by decide +kernel
theorem dX1_secondOn_85 : decode cX1_secondOn 85 = .ok (.iadd, 1) := by decide +kernel
theorem dX1_secondOn_86 : decode cX1_secondOn 86 = .ok (.dup2, 1) := by decide +kernel
theorem dX1_secondOn_87 : decode cX1_secondOn 87 = .ok (.iaload, 1) := by decide +kernel
theorem dX1_secondOn_88 : decode cX1_secondOn 88 = .ok (.iload_n 3, 1) := by decide +kernel
theorem dX1_secondOn_89 : decode cX1_secondOn 89 = .ok (.aload_n 0, 1) := by decide +kernel
theorem dX1_secondOn_90 : decode cX1_secondOn 90 = .ok (.getfield 19, 3) := by decide +kernel
theorem dX1_secondOn_93 : decode cX1_secondOn 93 = .ok (.iload 4, 2) := by decide +kernel
theorem dX1_secondOn_95 : decode cX1_secondOn 95 = .ok (.iload_n 2, 1) := by decide +kernel
theorem dX1_secondOn_96 : decode cX1_secondOn 96 = .ok (.invokestatic 45, 3) := by decide +kernel
theorem dX1_secondOn_99 : decode cX1_secondOn 99 = .ok (.iaload, 1) := by decide +kernel
theorem dX1_secondOn_100 : decode cX1_secondOn 100 = .ok (.imul, 1) := by decide +kernel
theorem dX1_secondOn_101 : decode cX1_secondOn 101 = .ok (.iadd, 1) := by decide +kernel
theorem dX1_secondOn_102 : decode cX1_secondOn 102 = .ok (.iastore, 1) := by decide +kernel
theorem dX1_secondOn_103 : decode cX1_secondOn 103 = .ok (.aload_n 0, 1) := by decide +kernel
theorem dX1_secondOn_104 : decode cX1_secondOn 104 = .ok (.getfield 19, 3) := by decide +kernel
theorem dX1_secondOn_107 : decode cX1_secondOn 107 = .ok (.iload 4, 2) := by decide +kernel
theorem dX1_secondOn_109 : decode cX1_secondOn 109 = .ok (.iload_n 2, 1) := by decide +kernel
theorem dX1_secondOn_110 : decode cX1_secondOn 110 = .ok (.invokestatic 45, 3) := by decide +kernel
theorem dX1_secondOn_113 : decode cX1_secondOn 113 = .ok (.iconst 0, 1) := by decide +kernel
theorem dX1_secondOn_114 : decode cX1_secondOn 114 = .ok (.iastore, 1) := by decide +kernel
theorem dX1_secondOn_115 : decode cX1_secondOn 115 = .ok (.iinc 4 1, 3) := by decide +kernel
theorem dX1_secondOn_118 : decode cX1_secondOn 118 = .ok (.goto (-50), 3) := by decide +kernel
theorem dX1_secondOn_121 : decode cX1_secondOn 121 = .ok (.aload_n 0, 1) := by decide +kernel
theorem dX1_secondOn_122 : decode cX1_secondOn 122 = .ok (.getfield 19, 3) := by decide +kernel
theorem dX1_secondOn_125 : decode cX1_secondOn 125 = .ok (.iconst 1, 1) := by decide +kernel
theorem dX1_secondOn_126 : decode cX1_secondOn 126 = .ok (.iload_n 2, 1) := by decide +kernel
theorem dX1_secondOn_127 : decode cX1_secondOn 127 = .ok (.iadd, 1) := by decide +kernel
theorem dX1_secondOn_128 : decode cX1_secondOn 128 = .ok (.iconst 0, 1) := by decide +kernel
theorem dX1_secondOn_129 : decode cX1_secondOn 129 = .ok (.iastore, 1) := by decide +kernel
theorem dX1_secondOn_130 : decode cX1_secondOn 130 = .ok (.aload_n 0, 1) := by decide +kernel
theorem dX1_secondOn_131 : decode cX1_secondOn 131 = .ok (.getfield 19, 3) := by decide +kernel
theorem dX1_secondOn_134 : decode cX1_secondOn 134 = .ok (.bipush 9, 2) := by decide +kernel
theorem dX1_secondOn_136 : decode cX1_secondOn 136 = .ok (.iload_n 2, 1) := by decide +kernel
theorem dX1_secondOn_137 : decode cX1_secondOn 137 = .ok (.iadd, 1) := by decide +kernel
theorem dX1_secondOn_138 : decode cX1_secondOn 138 = .ok (.dup2, 1) := by decide +kernel
theorem dX1_secondOn_139 : decode cX1_secondOn 139 = .ok (.iaload, 1) := by decide +kernel
theorem dX1_secondOn_140 : decode cX1_secondOn 140 = .ok (.iconst 1, 1) := by decide +kernel
theorem dX1_secondOn_141 : decode cX1_secondOn 141 = .ok (.iadd, 1) := by decide +kernel
theorem dX1_secondOn_142 : decode cX1_secondOn 142 = .ok (.iastore, 1) := by decide +kernel
theorem dX1_secondOn_143 : decode cX1_secondOn 143 = .ok (.iinc 1 1, 3) := by decide +kernel
theorem dX1_secondOn_146 : decode cX1_secondOn 146 = .ok (.iinc 2 1, 3) := by decide +kernel
theorem dX1_secondOn_149 : decode cX1_secondOn 149 = .ok (.goto (-135), 3) := by decide +kernel
theorem dX1_secondOn_152 : decode cX1_secondOn 152 = .ok (.iload_n 1, 1) := by decide +kernel
theorem dX1_secondOn_153 : decode cX1_secondOn 153 = .ok (.ireturn, 1) := by decide +kernel
theorem dX1_secondsOn_0 : decode cX1_secondsOn 0 = .ok (.iconst 0, 1) := by decide +kernel
theorem dX1_secondsOn_1 : decode cX1_secondsOn 1 = .ok (.istore_n 2, 1) := by decide +kernel
theorem dX1_secondsOn_2 : decode cX1_secondsOn 2 = .ok (.iconst 0, 1) := by decide +kernel
theorem dX1_secondsOn_3 : decode cX1_secondsOn 3 = .ok (.istore_n 3, 1) := by decide +kernel
theorem dX1_secondsOn_4 : decode cX1_secondsOn 4 = .ok (.iload_n 3, 1) := by decide +kernel
theorem dX1_secondsOn_5 : decode cX1_secondsOn 5 = .ok (.iload_n 1, 1) := by decide +kernel
theorem dX1_secondsOn_6 : decode cX1_secondsOn 6 = .ok (.if_icmp .ge 16, 3) := by decide +kernel
theorem dX1_secondsOn_9 : decode cX1_secondsOn 9 = .ok (.iload_n 2, 1) := by decide +kernel
theorem dX1_secondsOn_10 : decode cX1_secondsOn 10 = .ok (.aload_n 0, 1) := by decide +kernel
theorem dX1_secondsOn_11 : decode cX1_secondsOn 11 = .ok (.invokevirtual 64, 3) := by decide +kernel
theorem dX1_secondsOn_14 : decode cX1_secondsOn 14 = .ok (.iadd, 1) := by decide +kernel
theorem dX1_secondsOn_15 : decode cX1_secondsOn 15 = .ok (.istore_n 2, 1) := by decide +kernel
theorem dX1_secondsOn_16 : decode cX1_secondsOn 16 = .ok (.iinc 3 1, 3) := by decide +kernel
theorem dX1_secondsOn_19 : decode cX1_secondsOn 19 = .ok (.goto (-15), 3) := by decide +kernel
theorem dX1_secondsOn_22 : decode cX1_secondsOn 22 = .ok (.iload_n 2, 1) := by decide +kernel
theorem dX1_secondsOn_23 : decode cX1_secondsOn 23 = .ok (.ireturn, 1) := by decide +kernel
theorem dX1_list_0 : decode cX1_list 0 = .ok (.aload_n 0, 1) := by decide +kernel
theorem dX1_list_1 : decode cX1_list 1 = .ok (.iconst 0, 1) := by decide +kernel
theorem dX1_list_2 : decode cX1_list 2 = .ok (.putfield 25, 3) := by decide +kernel
theorem dX1_list_5 : decode cX1_list 5 = .ok (.iload_n 1, 1) := by decide +kernel
theorem dX1_list_6 : decode cX1_list 6 = .ok (.iconst 1, 1) := by decide +kernel
theorem dX1_list_7 : decode cX1_list 7 = .ok (.bipush 9, 2) := by decide +kernel
theorem dX1_list_9 : decode cX1_list 9 = .ok (.invokestatic 32, 3) := by decide +kernel
theorem dX1_list_12 : decode cX1_list 12 = .ok (.ifCond .eq 24, 3) := by decide +kernel
theorem dX1_list_15 : decode cX1_list 15 = .ok (.iload_n 2, 1) := by decide +kernel
theorem dX1_list_16 : decode cX1_list 16 = .ok (.iconst 2, 1) := by decide +kernel
theorem dX1_list_17 : decode cX1_list 17 = .ok (.bipush 20, 2) := by decide +kernel
theorem dX1_list_19 : decode cX1_list 19 = .ok (.invokestatic 32, 3) := by decide +kernel
theorem dX1_list_22 : decode cX1_list 22 = .ok (.ifCond .eq 14, 3) := by decide +kernel
theorem dX1_list_25 : decode cX1_list 25 = .ok (.iload_n 3, 1) := by decide +kernel
theorem dX1_list_26 : decode cX1_list 26 = .ok (.iconst 0, 1) := by decide +kernel
theorem dX1_list_27 : decode cX1_list 27 = .ok (.iload_n 2, 1) := by decide +kernel
theorem dX1_list_28 : decode cX1_list 28 = .ok (.iconst 1, 1) := by decide +kernel
theorem dX1_list_29 : decode cX1_list 29 = .ok (.isub, 1) := by decide +kernel
theorem dX1_list_30 : decode cX1_list 30 = .ok (.invokestatic 32, 3) := by decide +kernel
theorem dX1_list_33 : decode cX1_list 33 = .ok (.ifCond .ne 9, 3) := by decide +kernel
theorem dX1_list_36 : decode cX1_list 36 = .ok (.aload_n 0, 1) := by decide +kernel
theorem dX1_list_37 : decode cX1_list 37 = .ok (.iconst 1, 1) := by decide +kernel
theorem dX1_list_38 : decode cX1_list 38 = .ok (.invokevirtual 68, 3) := by decide +kernel
theorem dX1_list_41 : decode cX1_list 41 = .ok (.ireturn, 1) := by decide +kernel
theorem dX1_list_42 : decode cX1_list 42 = .ok (.aload_n 0, 1) := by decide +kernel
theorem dX1_list_43 : decode cX1_list 43 = .ok (.getfield 29, 3) := by decide +kernel
theorem dX1_list_46 : decode cX1_list 46 = .ok (.bipush 8, 2) := by decide +kernel
theorem dX1_list_48 : decode cX1_list 48 = .ok (.if_icmp .ne 9, 3) := by decide +kernel
theorem dX1_list_51 : decode cX1_list 51 = .ok (.aload_n 0, 1) := by decide +kernel
theorem dX1_list_52 : decode cX1_list 52 = .ok (.iconst 2, 1) := by decide +kernel
theorem dX1_list_53 : decode cX1_list 53 = .ok (.invokevirtual 68, 3) := by decide +kernel
theorem dX1_list_56 : decode cX1_list 56 = .ok (.ireturn, 1) := by decide +kernel
theorem dX1_list_57 : decode cX1_list 57 = .ok (.aload_n 0, 1) := by decide +kernel
theorem dX1_list_58 : decode cX1_list 58 = .ok (.getfield 9, 3) := by decide +kernel
theorem dX1_list_61 : decode cX1_list 61 = .ok (.aload_n 0, 1) := by decide +kernel
theorem dX1_list_62 : decode cX1_list 62 = .ok (.getfield 29, 3) := by decide +kernel
theorem dX1_list_65 : decode cX1_list 65 = .ok (.iload_n 1, 1) := by decide +kernel
theorem dX1_list_66 : decode cX1_list 66 = .ok (.iastore, 1) := by decide +kernel
theorem dX1_list_67 : decode cX1_list 67 = .ok (.aload_n 0, 1) := by decide +kernel
theorem dX1_list_68 : decode cX1_list 68 = .ok (.getfield 13, 3) := by decide +kernel
theorem dX1_list_71 : decode cX1_list 71 = .ok (.aload_n 0, 1) := by decide +kernel
theorem dX1_list_72 : decode cX1_list 72 = .ok (.getfield 29, 3) := by decide +kernel
theorem dX1_list_75 : decode cX1_list 75 = .ok (.iload_n 2, 1) := by decide +kernel
theorem dX1_list_76 : decode cX1_list 76 = .ok (.iastore, 1) := by decide +kernel
theorem dX1_list_77 : decode cX1_list 77 = .ok (.aload_n 0, 1) := by decide +kernel
theorem dX1_list_78 : decode cX1_list 78 = .ok (.getfield 16, 3) := by decide +kernel
theorem dX1_list_81 : decode cX1_list 81 = .ok (.aload_n 0, 1) := by decide +kernel
theorem dX1_list_82 : decode cX1_list 82 = .ok (.getfield 29, 3) := by decide +kernel
theorem dX1_list_85 : decode cX1_list 85 = .ok (.iload_n 3, 1) := by decide +kernel
theorem dX1_list_86 : decode cX1_list 86 = .ok (.iastore, 1) := by decide +kernel
theorem dX1_list_87 : decode cX1_list 87 = .ok (.aload_n 0, 1) := by decide +kernel
theorem dX1_list_88 : decode cX1_list 88 = .ok (.dup, 1) := by decide +kernel
theorem dX1_list_89 : decode cX1_list 89 = .ok (.getfield 29, 3) := by decide +kernel
theorem dX1_list_92 : decode cX1_list 92 = .ok (.iconst 1, 1) := by decide +kernel
theorem dX1_list_93 : decode cX1_list 93 = .ok (.iadd, 1) := by decide +kernel
theorem dX1_list_94 : decode cX1_list 94 = .ok (.putfield 29, 3) := by decide +kernel
theorem dX1_list_97 : decode cX1_list 97 = .ok (.aload_n 0, 1) := by decide +kernel
theorem dX1_list_98 : decode cX1_list 98 = .ok (.getfield 29, 3) := by decide +kernel
theorem dX1_list_101 : decode cX1_list 101 = .ok (.iconst 1, 1) := by decide +kernel
theorem dX1_list_102 : decode cX1_list 102 = .ok (.isub, 1) := by decide +kernel
theorem dX1_list_103 : decode cX1_list 103 = .ok (.ireturn, 1) := by decide +kernel
theorem dX1_addTrader_0 : decode cX1_addTrader 0 = .ok (.aload_n 0, 1) := by decide +kernel
theorem dX1_addTrader_1 : decode cX1_addTrader 1 = .ok (.iconst 0, 1) := by decide +kernel
theorem dX1_addTrader_2 : decode cX1_addTrader 2 = .ok (.putfield 25, 3) := by decide +kernel
theorem dX1_addTrader_5 : decode cX1_addTrader 5 = .ok (.aload_n 0, 1) := by decide +kernel
theorem dX1_addTrader_6 : decode cX1_addTrader 6 = .ok (.getfield 36, 3) := by decide +kernel
theorem dX1_addTrader_9 : decode cX1_addTrader 9 = .ok (.bipush 6, 2) := by decide +kernel
theorem dX1_addTrader_11 : decode cX1_addTrader 11 = .ok (.if_icmp .ne 9, 3) := by decide +kernel
theorem dX1_addTrader_14 : decode cX1_addTrader 14 = .ok (.aload_n 0, 1) := by decide +kernel
theorem dX1_addTrader_15 : decode cX1_addTrader 15 = .ok (.iconst 1, 1) := by decide +kernel
theorem dX1_addTrader_16 : decode cX1_addTrader 16 = .ok (.invokevirtual 68, 3) := by decide +kernel
theorem dX1_addTrader_19 : decode cX1_addTrader 19 = .ok (.ireturn, 1) := by decide +kernel
theorem dX1_addTrader_20 : decode cX1_addTrader 20 = .ok (.aload_n 0, 1) := by decide +kernel
theorem dX1_addTrader_21 : decode cX1_addTrader 21 = .ok (.getfield 19, 3) := by decide +kernel
theorem dX1_addTrader_24 : decode cX1_addTrader 24 = .ok (.bipush 17, 2) := by decide +kernel
theorem dX1_addTrader_26 : decode cX1_addTrader 26 = .ok (.aload_n 0, 1) := by decide +kernel
theorem dX1_addTrader_27 : decode cX1_addTrader 27 = .ok (.getfield 36, 3) := by decide +kernel
theorem dX1_addTrader_30 : decode cX1_addTrader 30 = .ok (.iadd, 1) := by decide +kernel
theorem dX1_addTrader_31 : decode cX1_addTrader 31 = .ok (.bipush 100, 2) := by decide +kernel
theorem dX1_addTrader_33 : decode cX1_addTrader 33 = .ok (.iastore, 1) := by decide +kernel
theorem dX1_addTrader_34 : decode cX1_addTrader 34 = .ok (.aload_n 0, 1) := by decide +kernel
theorem dX1_addTrader_35 : decode cX1_addTrader 35 = .ok (.dup, 1) := by decide +kernel
theorem dX1_addTrader_36 : decode cX1_addTrader 36 = .ok (.getfield 36, 3) := by decide +kernel
theorem dX1_addTrader_39 : decode cX1_addTrader 39 = .ok (.iconst 1, 1) := by decide +kernel
theorem dX1_addTrader_40 : decode cX1_addTrader 40 = .ok (.iadd, 1) := by decide +kernel
theorem dX1_addTrader_41 : decode cX1_addTrader 41 = .ok (.putfield 36, 3) := by decide +kernel
theorem dX1_addTrader_44 : decode cX1_addTrader 44 = .ok (.aload_n 0, 1) := by decide +kernel
theorem dX1_addTrader_45 : decode cX1_addTrader 45 = .ok (.getfield 36, 3) := by decide +kernel
theorem dX1_addTrader_48 : decode cX1_addTrader 48 = .ok (.iconst 1, 1) := by decide +kernel
theorem dX1_addTrader_49 : decode cX1_addTrader 49 = .ok (.isub, 1) := by decide +kernel
theorem dX1_addTrader_50 : decode cX1_addTrader 50 = .ok (.ireturn, 1) := by decide +kernel
theorem dX1_can_0 : decode cX1_can 0 = .ok (.aload_n 0, 1) := by decide +kernel
theorem dX1_can_1 : decode cX1_can 1 = .ok (.aload_n 0, 1) := by decide +kernel
theorem dX1_can_2 : decode cX1_can 2 = .ok (.iload_n 1, 1) := by decide +kernel
theorem dX1_can_3 : decode cX1_can 3 = .ok (.invokevirtual 71, 3) := by decide +kernel
theorem dX1_can_6 : decode cX1_can 6 = .ok (.ifCond .eq 11, 3) := by decide +kernel
theorem dX1_can_9 : decode cX1_can 9 = .ok (.aload_n 0, 1) := by decide +kernel
theorem dX1_can_10 : decode cX1_can 10 = .ok (.iload_n 2, 1) := by decide +kernel
theorem dX1_can_11 : decode cX1_can 11 = .ok (.invokevirtual 75, 3) := by decide +kernel
theorem dX1_can_14 : decode cX1_can 14 = .ok (.ifCond .ne 7, 3) := by decide +kernel
theorem dX1_can_17 : decode cX1_can 17 = .ok (.iconst 1, 1) := by decide +kernel
theorem dX1_can_18 : decode cX1_can 18 = .ok (.goto 18, 3) := by decide +kernel
theorem dX1_can_21 : decode cX1_can 21 = .ok (.iload_n 3, 1) := by decide +kernel
theorem dX1_can_22 : decode cX1_can 22 = .ok (.iconst 1, 1) := by decide +kernel
theorem dX1_can_23 : decode cX1_can 23 = .ok (.bipush 9, 2) := by decide +kernel
theorem dX1_can_25 : decode cX1_can 25 = .ok (.invokestatic 32, 3) := by decide +kernel
theorem dX1_can_28 : decode cX1_can 28 = .ok (.ifCond .eq 7, 3) := by decide +kernel
theorem dX1_can_31 : decode cX1_can 31 = .ok (.iconst 0, 1) := by decide +kernel
theorem dX1_can_32 : decode cX1_can 32 = .ok (.goto 4, 3) := by decide +kernel
theorem dX1_can_35 : decode cX1_can 35 = .ok (.iconst 2, 1) := by decide +kernel
theorem dX1_can_36 : decode cX1_can 36 = .ok (.putfield 25, 3) := by decide +kernel
theorem dX1_can_39 : decode cX1_can 39 = .ok (.aload_n 0, 1) := by decide +kernel
theorem dX1_can_40 : decode cX1_can 40 = .ok (.getfield 25, 3) := by decide +kernel
theorem dX1_can_43 : decode cX1_can 43 = .ok (.ifCond .ne 7, 3) := by decide +kernel
theorem dX1_can_46 : decode cX1_can 46 = .ok (.iconst 1, 1) := by decide +kernel
theorem dX1_can_47 : decode cX1_can 47 = .ok (.goto 4, 3) := by decide +kernel
theorem dX1_can_50 : decode cX1_can 50 = .ok (.iconst 0, 1) := by decide +kernel
theorem dX1_can_51 : decode cX1_can 51 = .ok (.ireturn, 1) := by decide +kernel
theorem dX1_buy_0 : decode cX1_buy 0 = .ok (.aload_n 0, 1) := by decide +kernel
theorem dX1_buy_1 : decode cX1_buy 1 = .ok (.iload_n 1, 1) := by decide +kernel
theorem dX1_buy_2 : decode cX1_buy 2 = .ok (.iload_n 2, 1) := by decide +kernel
theorem dX1_buy_3 : decode cX1_buy 3 = .ok (.iload_n 3, 1) := by decide +kernel
theorem dX1_buy_4 : decode cX1_buy 4 = .ok (.invokevirtual 78, 3) := by decide +kernel
theorem dX1_buy_7 : decode cX1_buy 7 = .ok (.ifCond .ne 5, 3) := by decide +kernel
theorem dX1_buy_10 : decode cX1_buy 10 = .ok (.iconst 0, 1) := by decide +kernel
theorem dX1_buy_11 : decode cX1_buy 11 = .ok (.ireturn, 1) := by decide +kernel
theorem dX1_buy_12 : decode cX1_buy 12 = .ok (.aload_n 0, 1) := by decide +kernel
theorem dX1_buy_13 : decode cX1_buy 13 = .ok (.iload_n 2, 1) := by decide +kernel
theorem dX1_buy_14 : decode cX1_buy 14 = .ok (.invokevirtual 61, 3) := by decide +kernel
theorem dX1_buy_17 : decode cX1_buy 17 = .ok (.iload_n 3, 1) := by decide +kernel
theorem dX1_buy_18 : decode cX1_buy 18 = .ok (.imul, 1) := by decide +kernel
theorem dX1_buy_19 : decode cX1_buy 19 = .ok (.istore 4, 2) := by decide +kernel
theorem dX1_buy_21 : decode cX1_buy 21 = .ok (.aload_n 0, 1) := by decide +kernel
theorem dX1_buy_22 : decode cX1_buy 22 = .ok (.getfield 19, 3) := by decide +kernel
theorem dX1_buy_25 : decode cX1_buy 25 = .ok (.iload_n 1, 1) := by decide +kernel
theorem dX1_buy_26 : decode cX1_buy 26 = .ok (.iload_n 2, 1) := by decide +kernel
theorem dX1_buy_27 : decode cX1_buy 27 = .ok (.invokestatic 45, 3) := by decide +kernel
theorem dX1_buy_30 : decode cX1_buy 30 = .ok (.iaload, 1) := by decide +kernel
theorem dX1_buy_31 : decode cX1_buy 31 = .ok (.iload_n 3, 1) := by decide +kernel
theorem dX1_buy_32 : decode cX1_buy 32 = .ok (.iadd, 1) := by decide +kernel
theorem dX1_buy_33 : decode cX1_buy 33 = .ok (.bipush 9, 2) := by decide +kernel
theorem dX1_buy_35 : decode cX1_buy 35 = .ok (.if_icmp .gt 17, 3) := by decide +kernel
theorem dX1_buy_38 : decode cX1_buy 38 = .ok (.aload_n 0, 1) := by decide +kernel
theorem dX1_buy_39 : decode cX1_buy 39 = .ok (.getfield 19, 3) := by decide +kernel
theorem dX1_buy_42 : decode cX1_buy 42 = .ok (.bipush 17, 2) := by decide +kernel
theorem dX1_buy_44 : decode cX1_buy 44 = .ok (.iload_n 1, 1) := by decide +kernel
theorem dX1_buy_45 : decode cX1_buy 45 = .ok (.iadd, 1) := by decide +kernel
theorem dX1_buy_46 : decode cX1_buy 46 = .ok (.iaload, 1) := by decide +kernel
theorem dX1_buy_47 : decode cX1_buy 47 = .ok (.iload 4, 2) := by decide +kernel
theorem dX1_buy_49 : decode cX1_buy 49 = .ok (.if_icmp .ge 9, 3) := by decide +kernel
theorem dX1_buy_52 : decode cX1_buy 52 = .ok (.aload_n 0, 1) := by decide +kernel
theorem dX1_buy_53 : decode cX1_buy 53 = .ok (.iconst 3, 1) := by decide +kernel
theorem dX1_buy_54 : decode cX1_buy 54 = .ok (.invokevirtual 68, 3) := by decide +kernel
theorem dX1_buy_57 : decode cX1_buy 57 = .ok (.ireturn, 1) := by decide +kernel
theorem dX1_buy_58 : decode cX1_buy 58 = .ok (.aload_n 0, 1) := by decide +kernel
theorem dX1_buy_59 : decode cX1_buy 59 = .ok (.getfield 19, 3) := by decide +kernel
theorem dX1_buy_62 : decode cX1_buy 62 = .ok (.iload_n 1, 1) := by decide +kernel
theorem dX1_buy_63 : decode cX1_buy 63 = .ok (.iload_n 2, 1) := by decide +kernel
theorem dX1_buy_64 : decode cX1_buy 64 = .ok (.invokestatic 45, 3) := by decide +kernel
theorem dX1_buy_67 : decode cX1_buy 67 = .ok (.dup2, 1) := by decide +kernel
theorem dX1_buy_68 : decode cX1_buy 68 = .ok (.iaload, 1) := by decide +kernel
theorem dX1_buy_69 : decode cX1_buy 69 = .ok (.iload_n 3, 1) := by decide +kernel
theorem dX1_buy_70 : decode cX1_buy 70 = .ok (.iadd, 1) := by decide +kernel
theorem dX1_buy_71 : decode cX1_buy 71 = .ok (.iastore, 1) := by decide +kernel
theorem dX1_buy_72 : decode cX1_buy 72 = .ok (.aload_n 0, 1) := by decide +kernel
theorem dX1_buy_73 : decode cX1_buy 73 = .ok (.getfield 19, 3) := by decide +kernel
theorem dX1_buy_76 : decode cX1_buy 76 = .ok (.bipush 17, 2) := by decide +kernel
theorem dX1_buy_78 : decode cX1_buy 78 = .ok (.iload_n 1, 1) := by decide +kernel
theorem dX1_buy_79 : decode cX1_buy 79 = .ok (.iadd, 1) := by decide +kernel
theorem dX1_buy_80 : decode cX1_buy 80 = .ok (.dup2, 1) := by decide +kernel
theorem dX1_buy_81 : decode cX1_buy 81 = .ok (.iaload, 1) := by decide +kernel
theorem dX1_buy_82 : decode cX1_buy 82 = .ok (.iload 4, 2) := by decide +kernel
theorem dX1_buy_84 : decode cX1_buy 84 = .ok (.isub, 1) := by decide +kernel
theorem dX1_buy_85 : decode cX1_buy 85 = .ok (.iastore, 1) := by decide +kernel
theorem dX1_buy_86 : decode cX1_buy 86 = .ok (.iload 4, 2) := by decide +kernel
theorem dX1_buy_88 : decode cX1_buy 88 = .ok (.ireturn, 1) := by decide +kernel
theorem dX1_sold_0 : decode cX1_sold 0 = .ok (.aload_n 0, 1) := by decide +kernel
theorem dX1_sold_1 : decode cX1_sold 1 = .ok (.iload_n 2, 1) := by decide +kernel
theorem dX1_sold_2 : decode cX1_sold 2 = .ok (.invokevirtual 61, 3) := by decide +kernel
theorem dX1_sold_5 : decode cX1_sold 5 = .ok (.iload_n 3, 1) := by decide +kernel
theorem dX1_sold_6 : decode cX1_sold 6 = .ok (.imul, 1) := by decide +kernel
theorem dX1_sold_7 : decode cX1_sold 7 = .ok (.istore 4, 2) := by decide +kernel
theorem dX1_sold_9 : decode cX1_sold 9 = .ok (.aload_n 0, 1) := by decide +kernel
theorem dX1_sold_10 : decode cX1_sold 10 = .ok (.getfield 19, 3) := by decide +kernel
theorem dX1_sold_13 : decode cX1_sold 13 = .ok (.iload_n 1, 1) := by decide +kernel
theorem dX1_sold_14 : decode cX1_sold 14 = .ok (.iload_n 2, 1) := by decide +kernel
theorem dX1_sold_15 : decode cX1_sold 15 = .ok (.invokestatic 45, 3) := by decide +kernel
theorem dX1_sold_18 : decode cX1_sold 18 = .ok (.dup2, 1) := by decide +kernel
theorem dX1_sold_19 : decode cX1_sold 19 = .ok (.iaload, 1) := by decide +kernel
theorem dX1_sold_20 : decode cX1_sold 20 = .ok (.iload_n 3, 1) := by decide +kernel
theorem dX1_sold_21 : decode cX1_sold 21 = .ok (.isub, 1) := by decide +kernel
theorem dX1_sold_22 : decode cX1_sold 22 = .ok (.iastore, 1) := by decide +kernel
theorem dX1_sold_23 : decode cX1_sold 23 = .ok (.aload_n 0, 1) := by decide +kernel
theorem dX1_sold_24 : decode cX1_sold 24 = .ok (.getfield 19, 3) := by decide +kernel
theorem dX1_sold_27 : decode cX1_sold 27 = .ok (.bipush 17, 2) := by decide +kernel
theorem dX1_sold_29 : decode cX1_sold 29 = .ok (.iload_n 1, 1) := by decide +kernel
theorem dX1_sold_30 : decode cX1_sold 30 = .ok (.iadd, 1) := by decide +kernel
theorem dX1_sold_31 : decode cX1_sold 31 = .ok (.dup2, 1) := by decide +kernel
theorem dX1_sold_32 : decode cX1_sold 32 = .ok (.iaload, 1) := by decide +kernel
theorem dX1_sold_33 : decode cX1_sold 33 = .ok (.iload 4, 2) := by decide +kernel
theorem dX1_sold_35 : decode cX1_sold 35 = .ok (.iadd, 1) := by decide +kernel
theorem dX1_sold_36 : decode cX1_sold 36 = .ok (.iastore, 1) := by decide +kernel
theorem dX1_sold_37 : decode cX1_sold 37 = .ok (.iload 4, 2) := by decide +kernel
theorem dX1_sold_39 : decode cX1_sold 39 = .ok (.ireturn, 1) := by decide +kernel
theorem dX1_sell_0 : decode cX1_sell 0 = .ok (.aload_n 0, 1) := by decide +kernel
theorem dX1_sell_1 : decode cX1_sell 1 = .ok (.iload_n 1, 1) := by decide +kernel
theorem dX1_sell_2 : decode cX1_sell 2 = .ok (.iload_n 2, 1) := by decide +kernel
theorem dX1_sell_3 : decode cX1_sell 3 = .ok (.iload_n 3, 1) := by decide +kernel
theorem dX1_sell_4 : decode cX1_sell 4 = .ok (.invokevirtual 78, 3) := by decide +kernel
theorem dX1_sell_7 : decode cX1_sell 7 = .ok (.ifCond .ne 5, 3) := by decide +kernel
theorem dX1_sell_10 : decode cX1_sell 10 = .ok (.iconst 0, 1) := by decide +kernel
theorem dX1_sell_11 : decode cX1_sell 11 = .ok (.ireturn, 1) := by decide +kernel
theorem dX1_sell_12 : decode cX1_sell 12 = .ok (.aload_n 0, 1) := by decide +kernel
theorem dX1_sell_13 : decode cX1_sell 13 = .ok (.getfield 19, 3) := by decide +kernel
theorem dX1_sell_16 : decode cX1_sell 16 = .ok (.iload_n 1, 1) := by decide +kernel
theorem dX1_sell_17 : decode cX1_sell 17 = .ok (.iload_n 2, 1) := by decide +kernel
theorem dX1_sell_18 : decode cX1_sell 18 = .ok (.invokestatic 45, 3) := by decide +kernel
theorem dX1_sell_21 : decode cX1_sell 21 = .ok (.iaload, 1) := by decide +kernel
theorem dX1_sell_22 : decode cX1_sell 22 = .ok (.iload_n 3, 1) := by decide +kernel
theorem dX1_sell_23 : decode cX1_sell 23 = .ok (.isub, 1) := by decide +kernel
theorem dX1_sell_24 : decode cX1_sell 24 = .ok (.bipush (-9), 2) := by decide +kernel
theorem dX1_sell_26 : decode cX1_sell 26 = .ok (.if_icmp .ge 11, 3) := by decide +kernel
theorem dX1_sell_29 : decode cX1_sell 29 = .ok (.aload_n 0, 1) := by decide +kernel
theorem dX1_sell_30 : decode cX1_sell 30 = .ok (.iconst 3, 1) := by decide +kernel
theorem dX1_sell_31 : decode cX1_sell 31 = .ok (.invokevirtual 68, 3) := by decide +kernel
theorem dX1_sell_34 : decode cX1_sell 34 = .ok (.goto 10, 3) := by decide +kernel
theorem dX1_sell_37 : decode cX1_sell 37 = .ok (.aload_n 0, 1) := by decide +kernel
theorem dX1_sell_38 : decode cX1_sell 38 = .ok (.iload_n 1, 1) := by decide +kernel
theorem dX1_sell_39 : decode cX1_sell 39 = .ok (.iload_n 2, 1) := by decide +kernel
theorem dX1_sell_40 : decode cX1_sell 40 = .ok (.iload_n 3, 1) := by decide +kernel
theorem dX1_sell_41 : decode cX1_sell 41 = .ok (.invokevirtual 81, 3) := by decide +kernel
theorem dX1_sell_44 : decode cX1_sell 44 = .ok (.ireturn, 1) := by decide +kernel
theorem dX1_pass_0 : decode cX1_pass 0 = .ok (.aload_n 0, 1) := by decide +kernel
theorem dX1_pass_1 : decode cX1_pass 1 = .ok (.iconst 0, 1) := by decide +kernel
theorem dX1_pass_2 : decode cX1_pass 2 = .ok (.putfield 25, 3) := by decide +kernel
theorem dX1_pass_5 : decode cX1_pass 5 = .ok (.iload_n 1, 1) := by decide +kernel
theorem dX1_pass_6 : decode cX1_pass 6 = .ok (.iconst 1, 1) := by decide +kernel
theorem dX1_pass_7 : decode cX1_pass 7 = .ok (.bipush 60, 2) := by decide +kernel
theorem dX1_pass_9 : decode cX1_pass 9 = .ok (.invokestatic 32, 3) := by decide +kernel
theorem dX1_pass_12 : decode cX1_pass 12 = .ok (.ifCond .eq 11, 3) := by decide +kernel
theorem dX1_pass_15 : decode cX1_pass 15 = .ok (.aload_n 0, 1) := by decide +kernel
theorem dX1_pass_16 : decode cX1_pass 16 = .ok (.iload_n 1, 1) := by decide +kernel
theorem dX1_pass_17 : decode cX1_pass 17 = .ok (.invokevirtual 85, 3) := by decide +kernel
theorem dX1_pass_20 : decode cX1_pass 20 = .ok (.goto 8, 3) := by decide +kernel
theorem dX1_pass_23 : decode cX1_pass 23 = .ok (.aload_n 0, 1) := by decide +kernel
theorem dX1_pass_24 : decode cX1_pass 24 = .ok (.iconst 1, 1) := by decide +kernel
theorem dX1_pass_25 : decode cX1_pass 25 = .ok (.invokevirtual 68, 3) := by decide +kernel
theorem dX1_pass_28 : decode cX1_pass 28 = .ok (.ireturn, 1) := by decide +kernel
theorem dX1_second_0 : decode cX1_second 0 = .ok (.aload_n 0, 1) := by decide +kernel
theorem dX1_second_1 : decode cX1_second 1 = .ok (.aload_n 0, 1) := by decide +kernel
theorem dX1_second_2 : decode cX1_second 2 = .ok (.getfield 19, 3) := by decide +kernel
theorem dX1_second_5 : decode cX1_second 5 = .ok (.iconst 0, 1) := by decide +kernel
theorem dX1_second_6 : decode cX1_second 6 = .ok (.iaload, 1) := by decide +kernel
theorem dX1_second_7 : decode cX1_second 7 = .ok (.invokevirtual 88, 3) := by decide +kernel
theorem dX1_second_10 : decode cX1_second 10 = .ok (.ireturn, 1) := by decide +kernel
theorem dX1_towers_0 : decode cX1_towers 0 = .ok (.aload_n 0, 1) := by decide +kernel
theorem dX1_towers_1 : decode cX1_towers 1 = .ok (.aload_n 0, 1) := by decide +kernel
theorem dX1_towers_2 : decode cX1_towers 2 = .ok (.getfield 29, 3) := by decide +kernel
theorem dX1_towers_5 : decode cX1_towers 5 = .ok (.invokevirtual 88, 3) := by decide +kernel
theorem dX1_towers_8 : decode cX1_towers 8 = .ok (.ireturn, 1) := by decide +kernel
theorem dX1_silenceOf_0 : decode cX1_silenceOf 0 = .ok (.aload_n 0, 1) := by decide +kernel
theorem dX1_silenceOf_1 : decode cX1_silenceOf 1 = .ok (.iconst 0, 1) := by decide +kernel
theorem dX1_silenceOf_2 : decode cX1_silenceOf 2 = .ok (.putfield 25, 3) := by decide +kernel
theorem dX1_silenceOf_5 : decode cX1_silenceOf 5 = .ok (.aload_n 0, 1) := by decide +kernel
theorem dX1_silenceOf_6 : decode cX1_silenceOf 6 = .ok (.iload_n 1, 1) := by decide +kernel
theorem dX1_silenceOf_7 : decode cX1_silenceOf 7 = .ok (.invokevirtual 75, 3) := by decide +kernel
theorem dX1_silenceOf_10 : decode cX1_silenceOf 10 = .ok (.ifCond .eq 14, 3) := by decide +kernel
theorem dX1_silenceOf_13 : decode cX1_silenceOf 13 = .ok (.aload_n 0, 1) := by decide +kernel
theorem dX1_silenceOf_14 : decode cX1_silenceOf 14 = .ok (.getfield 19, 3) := by decide +kernel
theorem dX1_silenceOf_17 : decode cX1_silenceOf 17 = .ok (.iconst 1, 1) := by decide +kernel
theorem dX1_silenceOf_18 : decode cX1_silenceOf 18 = .ok (.iload_n 1, 1) := by decide +kernel
theorem dX1_silenceOf_19 : decode cX1_silenceOf 19 = .ok (.iadd, 1) := by decide +kernel
theorem dX1_silenceOf_20 : decode cX1_silenceOf 20 = .ok (.iaload, 1) := by decide +kernel
theorem dX1_silenceOf_21 : decode cX1_silenceOf 21 = .ok (.goto 8, 3) := by decide +kernel
theorem dX1_silenceOf_24 : decode cX1_silenceOf 24 = .ok (.aload_n 0, 1) := by decide +kernel
theorem dX1_silenceOf_25 : decode cX1_silenceOf 25 = .ok (.iconst 1, 1) := by decide +kernel
theorem dX1_silenceOf_26 : decode cX1_silenceOf 26 = .ok (.invokevirtual 68, 3) := by decide +kernel
theorem dX1_silenceOf_29 : decode cX1_silenceOf 29 = .ok (.ireturn, 1) := by decide +kernel
theorem dX1_dovesOn_0 : decode cX1_dovesOn 0 = .ok (.aload_n 0, 1) := by decide +kernel
theorem dX1_dovesOn_1 : decode cX1_dovesOn 1 = .ok (.iconst 0, 1) := by decide +kernel
theorem dX1_dovesOn_2 : decode cX1_dovesOn 2 = .ok (.putfield 25, 3) := by decide +kernel
theorem dX1_dovesOn_5 : decode cX1_dovesOn 5 = .ok (.aload_n 0, 1) := by decide +kernel
theorem dX1_dovesOn_6 : decode cX1_dovesOn 6 = .ok (.iload_n 1, 1) := by decide +kernel
theorem dX1_dovesOn_7 : decode cX1_dovesOn 7 = .ok (.invokevirtual 75, 3) := by decide +kernel
theorem dX1_dovesOn_10 : decode cX1_dovesOn 10 = .ok (.ifCond .eq 11, 3) := by decide +kernel
theorem dX1_dovesOn_13 : decode cX1_dovesOn 13 = .ok (.aload_n 0, 1) := by decide +kernel
theorem dX1_dovesOn_14 : decode cX1_dovesOn 14 = .ok (.iload_n 1, 1) := by decide +kernel
theorem dX1_dovesOn_15 : decode cX1_dovesOn 15 = .ok (.invokevirtual 54, 3) := by decide +kernel
theorem dX1_dovesOn_18 : decode cX1_dovesOn 18 = .ok (.goto 8, 3) := by decide +kernel
theorem dX1_dovesOn_21 : decode cX1_dovesOn 21 = .ok (.aload_n 0, 1) := by decide +kernel
theorem dX1_dovesOn_22 : decode cX1_dovesOn 22 = .ok (.iconst 1, 1) := by decide +kernel
theorem dX1_dovesOn_23 : decode cX1_dovesOn 23 = .ok (.invokevirtual 68, 3) := by decide +kernel
theorem dX1_dovesOn_26 : decode cX1_dovesOn 26 = .ok (.ireturn, 1) := by decide +kernel
theorem dX1_priceOf_0 : decode cX1_priceOf 0 = .ok (.aload_n 0, 1) := by decide +kernel
theorem dX1_priceOf_1 : decode cX1_priceOf 1 = .ok (.iconst 0, 1) := by decide +kernel
theorem dX1_priceOf_2 : decode cX1_priceOf 2 = .ok (.putfield 25, 3) := by decide +kernel
theorem dX1_priceOf_5 : decode cX1_priceOf 5 = .ok (.aload_n 0, 1) := by decide +kernel
theorem dX1_priceOf_6 : decode cX1_priceOf 6 = .ok (.iload_n 1, 1) := by decide +kernel
theorem dX1_priceOf_7 : decode cX1_priceOf 7 = .ok (.invokevirtual 75, 3) := by decide +kernel
theorem dX1_priceOf_10 : decode cX1_priceOf 10 = .ok (.ifCond .eq 11, 3) := by decide +kernel
theorem dX1_priceOf_13 : decode cX1_priceOf 13 = .ok (.aload_n 0, 1) := by decide +kernel
theorem dX1_priceOf_14 : decode cX1_priceOf 14 = .ok (.iload_n 1, 1) := by decide +kernel
theorem dX1_priceOf_15 : decode cX1_priceOf 15 = .ok (.invokevirtual 61, 3) := by decide +kernel
theorem dX1_priceOf_18 : decode cX1_priceOf 18 = .ok (.goto 8, 3) := by decide +kernel
theorem dX1_priceOf_21 : decode cX1_priceOf 21 = .ok (.aload_n 0, 1) := by decide +kernel
theorem dX1_priceOf_22 : decode cX1_priceOf 22 = .ok (.iconst 1, 1) := by decide +kernel
theorem dX1_priceOf_23 : decode cX1_priceOf 23 = .ok (.invokevirtual 68, 3) := by decide +kernel
theorem dX1_priceOf_26 : decode cX1_priceOf 26 = .ok (.ireturn, 1) := by decide +kernel
theorem dX1_secondsUntilStroke_0 : decode cX1_secondsUntilStroke 0 = .ok (.aload_n 0, 1) := by decide +kernel
theorem dX1_secondsUntilStroke_1 : decode cX1_secondsUntilStroke 1 = .ok (.iconst 0, 1) := by decide +kernel
theorem dX1_secondsUntilStroke_2 : decode cX1_secondsUntilStroke 2 = .ok (.putfield 25, 3) := by decide +kernel
theorem dX1_secondsUntilStroke_5 : decode cX1_secondsUntilStroke 5 = .ok (.aload_n 0, 1) := by decide +kernel
theorem dX1_secondsUntilStroke_6 : decode cX1_secondsUntilStroke 6 = .ok (.iload_n 1, 1) := by decide +kernel
theorem dX1_secondsUntilStroke_7 : decode cX1_secondsUntilStroke 7 = .ok (.invokevirtual 75, 3) := by decide +kernel
theorem dX1_secondsUntilStroke_10 : decode cX1_secondsUntilStroke 10 = .ok (.ifCond .eq 11, 3) := by decide +kernel
theorem dX1_secondsUntilStroke_13 : decode cX1_secondsUntilStroke 13 = .ok (.aload_n 0, 1) := by decide +kernel
theorem dX1_secondsUntilStroke_14 : decode cX1_secondsUntilStroke 14 = .ok (.iload_n 1, 1) := by decide +kernel
theorem dX1_secondsUntilStroke_15 : decode cX1_secondsUntilStroke 15 = .ok (.invokevirtual 91, 3) := by decide +kernel
theorem dX1_secondsUntilStroke_18 : decode cX1_secondsUntilStroke 18 = .ok (.goto 8, 3) := by decide +kernel
theorem dX1_secondsUntilStroke_21 : decode cX1_secondsUntilStroke 21 = .ok (.aload_n 0, 1) := by decide +kernel
theorem dX1_secondsUntilStroke_22 : decode cX1_secondsUntilStroke 22 = .ok (.iconst 1, 1) := by decide +kernel
theorem dX1_secondsUntilStroke_23 : decode cX1_secondsUntilStroke 23 = .ok (.invokevirtual 68, 3) := by decide +kernel
theorem dX1_secondsUntilStroke_26 : decode cX1_secondsUntilStroke 26 = .ok (.ireturn, 1) := by decide +kernel
theorem dX1_strokesOf_0 : decode cX1_strokesOf 0 = .ok (.aload_n 0, 1) := by decide +kernel
theorem dX1_strokesOf_1 : decode cX1_strokesOf 1 = .ok (.iconst 0, 1) := by decide +kernel
theorem dX1_strokesOf_2 : decode cX1_strokesOf 2 = .ok (.putfield 25, 3) := by decide +kernel
theorem dX1_strokesOf_5 : decode cX1_strokesOf 5 = .ok (.aload_n 0, 1) := by decide +kernel
theorem dX1_strokesOf_6 : decode cX1_strokesOf 6 = .ok (.iload_n 1, 1) := by decide +kernel
theorem dX1_strokesOf_7 : decode cX1_strokesOf 7 = .ok (.invokevirtual 75, 3) := by decide +kernel
theorem dX1_strokesOf_10 : decode cX1_strokesOf 10 = .ok (.ifCond .eq 15, 3) := by decide +kernel
theorem dX1_strokesOf_13 : decode cX1_strokesOf 13 = .ok (.aload_n 0, 1) := by decide +kernel
theorem dX1_strokesOf_14 : decode cX1_strokesOf 14 = .ok (.getfield 19, 3) := by decide +kernel
theorem dX1_strokesOf_17 : decode cX1_strokesOf 17 = .ok (.bipush 9, 2) := by decide +kernel
theorem dX1_strokesOf_19 : decode cX1_strokesOf 19 = .ok (.iload_n 1, 1) := by decide +kernel
theorem dX1_strokesOf_20 : decode cX1_strokesOf 20 = .ok (.iadd, 1) := by decide +kernel
theorem dX1_strokesOf_21 : decode cX1_strokesOf 21 = .ok (.iaload, 1) := by decide +kernel
theorem dX1_strokesOf_22 : decode cX1_strokesOf 22 = .ok (.goto 8, 3) := by decide +kernel
theorem dX1_strokesOf_25 : decode cX1_strokesOf 25 = .ok (.aload_n 0, 1) := by decide +kernel
theorem dX1_strokesOf_26 : decode cX1_strokesOf 26 = .ok (.iconst 1, 1) := by decide +kernel
theorem dX1_strokesOf_27 : decode cX1_strokesOf 27 = .ok (.invokevirtual 68, 3) := by decide +kernel
theorem dX1_strokesOf_30 : decode cX1_strokesOf 30 = .ok (.ireturn, 1) := by decide +kernel
theorem dX1_open_0 : decode cX1_open 0 = .ok (.iconst 0, 1) := by decide +kernel
theorem dX1_open_1 : decode cX1_open 1 = .ok (.istore_n 2, 1) := by decide +kernel
theorem dX1_open_2 : decode cX1_open 2 = .ok (.iconst 0, 1) := by decide +kernel
theorem dX1_open_3 : decode cX1_open 3 = .ok (.istore_n 3, 1) := by decide +kernel
theorem dX1_open_4 : decode cX1_open 4 = .ok (.iload_n 3, 1) := by decide +kernel
theorem dX1_open_5 : decode cX1_open 5 = .ok (.aload_n 0, 1) := by decide +kernel
theorem dX1_open_6 : decode cX1_open 6 = .ok (.getfield 36, 3) := by decide +kernel
theorem dX1_open_9 : decode cX1_open 9 = .ok (.if_icmp .ge 22, 3) := by decide +kernel
theorem dX1_open_12 : decode cX1_open 12 = .ok (.iload_n 2, 1) := by decide +kernel
theorem dX1_open_13 : decode cX1_open 13 = .ok (.aload_n 0, 1) := by decide +kernel
theorem dX1_open_14 : decode cX1_open 14 = .ok (.getfield 19, 3) := by decide +kernel
theorem dX1_open_17 : decode cX1_open 17 = .ok (.iload_n 3, 1) := by decide +kernel
theorem dX1_open_18 : decode cX1_open 18 = .ok (.iload_n 1, 1) := by decide +kernel
theorem dX1_open_19 : decode cX1_open 19 = .ok (.invokestatic 45, 3) := by decide +kernel
theorem dX1_open_22 : decode cX1_open 22 = .ok (.iaload, 1) := by decide +kernel
theorem dX1_open_23 : decode cX1_open 23 = .ok (.iadd, 1) := by decide +kernel
theorem dX1_open_24 : decode cX1_open 24 = .ok (.istore_n 2, 1) := by decide +kernel
theorem dX1_open_25 : decode cX1_open 25 = .ok (.iinc 3 1, 3) := by decide +kernel
theorem dX1_open_28 : decode cX1_open 28 = .ok (.goto (-24), 3) := by decide +kernel
theorem dX1_open_31 : decode cX1_open 31 = .ok (.iload_n 2, 1) := by decide +kernel
theorem dX1_open_32 : decode cX1_open 32 = .ok (.ireturn, 1) := by decide +kernel
theorem dX1_openSeconds_0 : decode cX1_openSeconds 0 = .ok (.aload_n 0, 1) := by decide +kernel
theorem dX1_openSeconds_1 : decode cX1_openSeconds 1 = .ok (.iconst 0, 1) := by decide +kernel
theorem dX1_openSeconds_2 : decode cX1_openSeconds 2 = .ok (.putfield 25, 3) := by decide +kernel
theorem dX1_openSeconds_5 : decode cX1_openSeconds 5 = .ok (.aload_n 0, 1) := by decide +kernel
theorem dX1_openSeconds_6 : decode cX1_openSeconds 6 = .ok (.iload_n 1, 1) := by decide +kernel
theorem dX1_openSeconds_7 : decode cX1_openSeconds 7 = .ok (.invokevirtual 75, 3) := by decide +kernel
theorem dX1_openSeconds_10 : decode cX1_openSeconds 10 = .ok (.ifCond .eq 11, 3) := by decide +kernel
theorem dX1_openSeconds_13 : decode cX1_openSeconds 13 = .ok (.aload_n 0, 1) := by decide +kernel
theorem dX1_openSeconds_14 : decode cX1_openSeconds 14 = .ok (.iload_n 1, 1) := by decide +kernel
theorem dX1_openSeconds_15 : decode cX1_openSeconds 15 = .ok (.invokevirtual 94, 3) := by decide +kernel
theorem dX1_openSeconds_18 : decode cX1_openSeconds 18 = .ok (.goto 8, 3) := by decide +kernel
theorem dX1_openSeconds_21 : decode cX1_openSeconds 21 = .ok (.aload_n 0, 1) := by decide +kernel
theorem dX1_openSeconds_22 : decode cX1_openSeconds 22 = .ok (.iconst 1, 1) := by decide +kernel
theorem dX1_openSeconds_23 : decode cX1_openSeconds 23 = .ok (.invokevirtual 68, 3) := by decide +kernel
theorem dX1_openSeconds_26 : decode cX1_openSeconds 26 = .ok (.ireturn, 1) := by decide +kernel
theorem dX1_dear_0 : decode cX1_dear 0 = .ok (.iconst (-1), 1) := by decide +kernel
theorem dX1_dear_1 : decode cX1_dear 1 = .ok (.istore_n 1, 1) := by decide +kernel
theorem dX1_dear_2 : decode cX1_dear 2 = .ok (.iconst 0, 1) := by decide +kernel
theorem dX1_dear_3 : decode cX1_dear 3 = .ok (.istore_n 2, 1) := by decide +kernel
theorem dX1_dear_4 : decode cX1_dear 4 = .ok (.iload_n 2, 1) := by decide +kernel
theorem dX1_dear_5 : decode cX1_dear 5 = .ok (.aload_n 0, 1) := by decide +kernel
theorem dX1_dear_6 : decode cX1_dear 6 = .ok (.getfield 29, 3) := by decide +kernel
theorem dX1_dear_9 : decode cX1_dear 9 = .ok (.if_icmp .ge 29, 3) := by decide +kernel
theorem dX1_dear_12 : decode cX1_dear 12 = .ok (.iload_n 1, 1) := by decide +kernel
theorem dX1_dear_13 : decode cX1_dear 13 = .ok (.iconst (-1), 1) := by decide +kernel
theorem dX1_dear_14 : decode cX1_dear 14 = .ok (.if_icmp .eq 16, 3) := by decide +kernel
theorem dX1_dear_17 : decode cX1_dear 17 = .ok (.aload_n 0, 1) := by decide +kernel
theorem dX1_dear_18 : decode cX1_dear 18 = .ok (.iload_n 2, 1) := by decide +kernel
theorem dX1_dear_19 : decode cX1_dear 19 = .ok (.invokevirtual 61, 3) := by decide +kernel
theorem dX1_dear_22 : decode cX1_dear 22 = .ok (.aload_n 0, 1) := by decide +kernel
theorem dX1_dear_23 : decode cX1_dear 23 = .ok (.iload_n 1, 1) := by decide +kernel
theorem dX1_dear_24 : decode cX1_dear 24 = .ok (.invokevirtual 61, 3) := by decide +kernel
theorem dX1_dear_27 : decode cX1_dear 27 = .ok (.if_icmp .le 5, 3) := by decide +kernel
theorem dX1_dear_30 : decode cX1_dear 30 = .ok (.iload_n 2, 1) := by decide +kernel
theorem dX1_dear_31 : decode cX1_dear 31 = .ok (.istore_n 1, 1) := by decide +kernel
theorem dX1_dear_32 : decode cX1_dear 32 = .ok (.iinc 2 1, 3) := by decide +kernel
theorem dX1_dear_35 : decode cX1_dear 35 = .ok (.goto (-31), 3) := by decide +kernel
theorem dX1_dear_38 : decode cX1_dear 38 = .ok (.iload_n 1, 1) := by decide +kernel
theorem dX1_dear_39 : decode cX1_dear 39 = .ok (.ireturn, 1) := by decide +kernel
theorem dX1_dearest_0 : decode cX1_dearest 0 = .ok (.aload_n 0, 1) := by decide +kernel
theorem dX1_dearest_1 : decode cX1_dearest 1 = .ok (.aload_n 0, 1) := by decide +kernel
theorem dX1_dearest_2 : decode cX1_dearest 2 = .ok (.invokevirtual 97, 3) := by decide +kernel
theorem dX1_dearest_5 : decode cX1_dearest 5 = .ok (.invokevirtual 88, 3) := by decide +kernel
theorem dX1_dearest_8 : decode cX1_dearest 8 = .ok (.ireturn, 1) := by decide +kernel
theorem dX1_next_0 : decode cX1_next 0 = .ok (.iconst (-1), 1) := by decide +kernel
theorem dX1_next_1 : decode cX1_next 1 = .ok (.istore_n 1, 1) := by decide +kernel
theorem dX1_next_2 : decode cX1_next 2 = .ok (.iconst 0, 1) := by decide +kernel
theorem dX1_next_3 : decode cX1_next 3 = .ok (.istore_n 2, 1) := by decide +kernel
theorem dX1_next_4 : decode cX1_next 4 = .ok (.iload_n 2, 1) := by decide +kernel
theorem dX1_next_5 : decode cX1_next 5 = .ok (.aload_n 0, 1) := by decide +kernel
theorem dX1_next_6 : decode cX1_next 6 = .ok (.getfield 29, 3) := by decide +kernel
theorem dX1_next_9 : decode cX1_next 9 = .ok (.if_icmp .ge 29, 3) := by decide +kernel
theorem dX1_next_12 : decode cX1_next 12 = .ok (.iload_n 1, 1) := by decide +kernel
theorem dX1_next_13 : decode cX1_next 13 = .ok (.iconst (-1), 1) := by decide +kernel
theorem dX1_next_14 : decode cX1_next 14 = .ok (.if_icmp .eq 16, 3) := by decide +kernel
theorem dX1_next_17 : decode cX1_next 17 = .ok (.aload_n 0, 1) := by decide +kernel
theorem dX1_next_18 : decode cX1_next 18 = .ok (.iload_n 2, 1) := by decide +kernel
theorem dX1_next_19 : decode cX1_next 19 = .ok (.invokevirtual 91, 3) := by decide +kernel
theorem dX1_next_22 : decode cX1_next 22 = .ok (.aload_n 0, 1) := by decide +kernel
theorem dX1_next_23 : decode cX1_next 23 = .ok (.iload_n 1, 1) := by decide +kernel
theorem dX1_next_24 : decode cX1_next 24 = .ok (.invokevirtual 91, 3) := by decide +kernel
theorem dX1_next_27 : decode cX1_next 27 = .ok (.if_icmp .ge 5, 3) := by decide +kernel
theorem dX1_next_30 : decode cX1_next 30 = .ok (.iload_n 2, 1) := by decide +kernel
theorem dX1_next_31 : decode cX1_next 31 = .ok (.istore_n 1, 1) := by decide +kernel
theorem dX1_next_32 : decode cX1_next 32 = .ok (.iinc 2 1, 3) := by decide +kernel
theorem dX1_next_35 : decode cX1_next 35 = .ok (.goto (-31), 3) := by decide +kernel
theorem dX1_next_38 : decode cX1_next 38 = .ok (.iload_n 1, 1) := by decide +kernel
theorem dX1_next_39 : decode cX1_next 39 = .ok (.ireturn, 1) := by decide +kernel
theorem dX1_nextToStrike_0 : decode cX1_nextToStrike 0 = .ok (.aload_n 0, 1) := by decide +kernel
theorem dX1_nextToStrike_1 : decode cX1_nextToStrike 1 = .ok (.aload_n 0, 1) := by decide +kernel
theorem dX1_nextToStrike_2 : decode cX1_nextToStrike 2 = .ok (.invokevirtual 100, 3) := by decide +kernel
theorem dX1_nextToStrike_5 : decode cX1_nextToStrike 5 = .ok (.invokevirtual 88, 3) := by decide +kernel
theorem dX1_nextToStrike_8 : decode cX1_nextToStrike 8 = .ok (.ireturn, 1) := by decide +kernel
theorem dX1_traders_0 : decode cX1_traders 0 = .ok (.aload_n 0, 1) := by decide +kernel
theorem dX1_traders_1 : decode cX1_traders 1 = .ok (.aload_n 0, 1) := by decide +kernel
theorem dX1_traders_2 : decode cX1_traders 2 = .ok (.getfield 36, 3) := by decide +kernel
theorem dX1_traders_5 : decode cX1_traders 5 = .ok (.invokevirtual 88, 3) := by decide +kernel
theorem dX1_traders_8 : decode cX1_traders 8 = .ok (.ireturn, 1) := by decide +kernel
theorem dX1_purseOf_0 : decode cX1_purseOf 0 = .ok (.aload_n 0, 1) := by decide +kernel
theorem dX1_purseOf_1 : decode cX1_purseOf 1 = .ok (.iconst 0, 1) := by decide +kernel
theorem dX1_purseOf_2 : decode cX1_purseOf 2 = .ok (.putfield 25, 3) := by decide +kernel
theorem dX1_purseOf_5 : decode cX1_purseOf 5 = .ok (.aload_n 0, 1) := by decide +kernel
theorem dX1_purseOf_6 : decode cX1_purseOf 6 = .ok (.iload_n 1, 1) := by decide +kernel
theorem dX1_purseOf_7 : decode cX1_purseOf 7 = .ok (.invokevirtual 71, 3) := by decide +kernel
theorem dX1_purseOf_10 : decode cX1_purseOf 10 = .ok (.ifCond .eq 15, 3) := by decide +kernel
theorem dX1_purseOf_13 : decode cX1_purseOf 13 = .ok (.aload_n 0, 1) := by decide +kernel
theorem dX1_purseOf_14 : decode cX1_purseOf 14 = .ok (.getfield 19, 3) := by decide +kernel
theorem dX1_purseOf_17 : decode cX1_purseOf 17 = .ok (.bipush 17, 2) := by decide +kernel
theorem dX1_purseOf_19 : decode cX1_purseOf 19 = .ok (.iload_n 1, 1) := by decide +kernel
theorem dX1_purseOf_20 : decode cX1_purseOf 20 = .ok (.iadd, 1) := by decide +kernel
theorem dX1_purseOf_21 : decode cX1_purseOf 21 = .ok (.iaload, 1) := by decide +kernel
theorem dX1_purseOf_22 : decode cX1_purseOf 22 = .ok (.goto 8, 3) := by decide +kernel
theorem dX1_purseOf_25 : decode cX1_purseOf 25 = .ok (.aload_n 0, 1) := by decide +kernel
theorem dX1_purseOf_26 : decode cX1_purseOf 26 = .ok (.iconst 1, 1) := by decide +kernel
theorem dX1_purseOf_27 : decode cX1_purseOf 27 = .ok (.invokevirtual 68, 3) := by decide +kernel
theorem dX1_purseOf_30 : decode cX1_purseOf 30 = .ok (.ireturn, 1) := by decide +kernel
theorem dX1_holds_0 : decode cX1_holds 0 = .ok (.aload_n 0, 1) := by decide +kernel
theorem dX1_holds_1 : decode cX1_holds 1 = .ok (.iconst 0, 1) := by decide +kernel
theorem dX1_holds_2 : decode cX1_holds 2 = .ok (.putfield 25, 3) := by decide +kernel
theorem dX1_holds_5 : decode cX1_holds 5 = .ok (.aload_n 0, 1) := by decide +kernel
theorem dX1_holds_6 : decode cX1_holds 6 = .ok (.iload_n 1, 1) := by decide +kernel
theorem dX1_holds_7 : decode cX1_holds 7 = .ok (.invokevirtual 71, 3) := by decide +kernel
theorem dX1_holds_10 : decode cX1_holds 10 = .ok (.ifCond .eq 24, 3) := by decide +kernel
theorem dX1_holds_13 : decode cX1_holds 13 = .ok (.aload_n 0, 1) := by decide +kernel
theorem dX1_holds_14 : decode cX1_holds 14 = .ok (.iload_n 2, 1) := by decide +kernel
theorem dX1_holds_15 : decode cX1_holds 15 = .ok (.invokevirtual 75, 3) := by decide +kernel
theorem dX1_holds_18 : decode cX1_holds 18 = .ok (.ifCond .eq 16, 3) := by decide +kernel
theorem dX1_holds_21 : decode cX1_holds 21 = .ok (.aload_n 0, 1) := by decide +kernel
theorem dX1_holds_22 : decode cX1_holds 22 = .ok (.getfield 19, 3) := by decide +kernel
theorem dX1_holds_25 : decode cX1_holds 25 = .ok (.iload_n 1, 1) := by decide +kernel
theorem dX1_holds_26 : decode cX1_holds 26 = .ok (.iload_n 2, 1) := by decide +kernel
theorem dX1_holds_27 : decode cX1_holds 27 = .ok (.invokestatic 45, 3) := by decide +kernel
theorem dX1_holds_30 : decode cX1_holds 30 = .ok (.iaload, 1) := by decide +kernel
theorem dX1_holds_31 : decode cX1_holds 31 = .ok (.goto 8, 3) := by decide +kernel
theorem dX1_holds_34 : decode cX1_holds 34 = .ok (.aload_n 0, 1) := by decide +kernel
theorem dX1_holds_35 : decode cX1_holds 35 = .ok (.iconst 1, 1) := by decide +kernel
theorem dX1_holds_36 : decode cX1_holds 36 = .ok (.invokevirtual 68, 3) := by decide +kernel
theorem dX1_holds_39 : decode cX1_holds 39 = .ok (.ireturn, 1) := by decide +kernel
theorem dX1_worth_0 : decode cX1_worth 0 = .ok (.aload_n 0, 1) := by decide +kernel
theorem dX1_worth_1 : decode cX1_worth 1 = .ok (.getfield 19, 3) := by decide +kernel
theorem dX1_worth_4 : decode cX1_worth 4 = .ok (.bipush 17, 2) := by decide +kernel
theorem dX1_worth_6 : decode cX1_worth 6 = .ok (.iload_n 1, 1) := by decide +kernel
theorem dX1_worth_7 : decode cX1_worth 7 = .ok (.iadd, 1) := by decide +kernel
theorem dX1_worth_8 : decode cX1_worth 8 = .ok (.iaload, 1) := by decide +kernel
theorem dX1_worth_9 : decode cX1_worth 9 = .ok (.istore_n 2, 1) := by decide +kernel
theorem dX1_worth_10 : decode cX1_worth 10 = .ok (.iconst 0, 1) := by decide +kernel
theorem dX1_worth_11 : decode cX1_worth 11 = .ok (.istore_n 3, 1) := by decide +kernel
theorem dX1_worth_12 : decode cX1_worth 12 = .ok (.iload_n 3, 1) := by decide +kernel
theorem dX1_worth_13 : decode cX1_worth 13 = .ok (.aload_n 0, 1) := by decide +kernel
theorem dX1_worth_14 : decode cX1_worth 14 = .ok (.getfield 29, 3) := by decide +kernel
theorem dX1_worth_17 : decode cX1_worth 17 = .ok (.if_icmp .ge 28, 3) := by decide +kernel
theorem dX1_worth_20 : decode cX1_worth 20 = .ok (.iload_n 2, 1) := by decide +kernel
theorem dX1_worth_21 : decode cX1_worth 21 = .ok (.aload_n 0, 1) := by decide +kernel
theorem dX1_worth_22 : decode cX1_worth 22 = .ok (.iload_n 3, 1) := by decide +kernel
theorem dX1_worth_23 : decode cX1_worth 23 = .ok (.invokevirtual 61, 3) := by decide +kernel
theorem dX1_worth_26 : decode cX1_worth 26 = .ok (.aload_n 0, 1) := by decide +kernel
theorem dX1_worth_27 : decode cX1_worth 27 = .ok (.getfield 19, 3) := by decide +kernel
theorem dX1_worth_30 : decode cX1_worth 30 = .ok (.iload_n 1, 1) := by decide +kernel
theorem dX1_worth_31 : decode cX1_worth 31 = .ok (.iload_n 3, 1) := by decide +kernel
theorem dX1_worth_32 : decode cX1_worth 32 = .ok (.invokestatic 45, 3) := by decide +kernel
theorem dX1_worth_35 : decode cX1_worth 35 = .ok (.iaload, 1) := by decide +kernel
theorem dX1_worth_36 : decode cX1_worth 36 = .ok (.imul, 1) := by decide +kernel
theorem dX1_worth_37 : decode cX1_worth 37 = .ok (.iadd, 1) := by decide +kernel
theorem dX1_worth_38 : decode cX1_worth 38 = .ok (.istore_n 2, 1) := by decide +kernel
theorem dX1_worth_39 : decode cX1_worth 39 = .ok (.iinc 3 1, 3) := by decide +kernel
theorem dX1_worth_42 : decode cX1_worth 42 = .ok (.goto (-30), 3) := by decide +kernel
theorem dX1_worth_45 : decode cX1_worth 45 = .ok (.iload_n 2, 1) := by decide +kernel
theorem dX1_worth_46 : decode cX1_worth 46 = .ok (.ireturn, 1) := by decide +kernel
theorem dX1_worthOf_0 : decode cX1_worthOf 0 = .ok (.aload_n 0, 1) := by decide +kernel
theorem dX1_worthOf_1 : decode cX1_worthOf 1 = .ok (.iconst 0, 1) := by decide +kernel
theorem dX1_worthOf_2 : decode cX1_worthOf 2 = .ok (.putfield 25, 3) := by decide +kernel
theorem dX1_worthOf_5 : decode cX1_worthOf 5 = .ok (.aload_n 0, 1) := by decide +kernel
theorem dX1_worthOf_6 : decode cX1_worthOf 6 = .ok (.iload_n 1, 1) := by decide +kernel
theorem dX1_worthOf_7 : decode cX1_worthOf 7 = .ok (.invokevirtual 71, 3) := by decide +kernel
theorem dX1_worthOf_10 : decode cX1_worthOf 10 = .ok (.ifCond .eq 11, 3) := by decide +kernel
theorem dX1_worthOf_13 : decode cX1_worthOf 13 = .ok (.aload_n 0, 1) := by decide +kernel
theorem dX1_worthOf_14 : decode cX1_worthOf 14 = .ok (.iload_n 1, 1) := by decide +kernel
theorem dX1_worthOf_15 : decode cX1_worthOf 15 = .ok (.invokevirtual 103, 3) := by decide +kernel
theorem dX1_worthOf_18 : decode cX1_worthOf 18 = .ok (.goto 8, 3) := by decide +kernel
theorem dX1_worthOf_21 : decode cX1_worthOf 21 = .ok (.aload_n 0, 1) := by decide +kernel
theorem dX1_worthOf_22 : decode cX1_worthOf 22 = .ok (.iconst 1, 1) := by decide +kernel
theorem dX1_worthOf_23 : decode cX1_worthOf 23 = .ok (.invokevirtual 68, 3) := by decide +kernel
theorem dX1_worthOf_26 : decode cX1_worthOf 26 = .ok (.ireturn, 1) := by decide +kernel
theorem dX1_rich_0 : decode cX1_rich 0 = .ok (.iconst (-1), 1) := by decide +kernel
theorem dX1_rich_1 : decode cX1_rich 1 = .ok (.istore_n 1, 1) := by decide +kernel
theorem dX1_rich_2 : decode cX1_rich 2 = .ok (.iconst 0, 1) := by decide +kernel
theorem dX1_rich_3 : decode cX1_rich 3 = .ok (.istore_n 2, 1) := by decide +kernel
theorem dX1_rich_4 : decode cX1_rich 4 = .ok (.iload_n 2, 1) := by decide +kernel
theorem dX1_rich_5 : decode cX1_rich 5 = .ok (.aload_n 0, 1) := by decide +kernel
theorem dX1_rich_6 : decode cX1_rich 6 = .ok (.getfield 36, 3) := by decide +kernel
theorem dX1_rich_9 : decode cX1_rich 9 = .ok (.if_icmp .ge 29, 3) := by decide +kernel
theorem dX1_rich_12 : decode cX1_rich 12 = .ok (.iload_n 1, 1) := by decide +kernel
theorem dX1_rich_13 : decode cX1_rich 13 = .ok (.iconst (-1), 1) := by decide +kernel
theorem dX1_rich_14 : decode cX1_rich 14 = .ok (.if_icmp .eq 16, 3) := by decide +kernel
theorem dX1_rich_17 : decode cX1_rich 17 = .ok (.aload_n 0, 1) := by decide +kernel
theorem dX1_rich_18 : decode cX1_rich 18 = .ok (.iload_n 2, 1) := by decide +kernel
theorem dX1_rich_19 : decode cX1_rich 19 = .ok (.invokevirtual 103, 3) := by decide +kernel
theorem dX1_rich_22 : decode cX1_rich 22 = .ok (.aload_n 0, 1) := by decide +kernel
theorem dX1_rich_23 : decode cX1_rich 23 = .ok (.iload_n 1, 1) := by decide +kernel
theorem dX1_rich_24 : decode cX1_rich 24 = .ok (.invokevirtual 103, 3) := by decide +kernel
theorem dX1_rich_27 : decode cX1_rich 27 = .ok (.if_icmp .le 5, 3) := by decide +kernel
theorem dX1_rich_30 : decode cX1_rich 30 = .ok (.iload_n 2, 1) := by decide +kernel
theorem dX1_rich_31 : decode cX1_rich 31 = .ok (.istore_n 1, 1) := by decide +kernel
theorem dX1_rich_32 : decode cX1_rich 32 = .ok (.iinc 2 1, 3) := by decide +kernel
theorem dX1_rich_35 : decode cX1_rich 35 = .ok (.goto (-31), 3) := by decide +kernel
theorem dX1_rich_38 : decode cX1_rich 38 = .ok (.iload_n 1, 1) := by decide +kernel
theorem dX1_rich_39 : decode cX1_rich 39 = .ok (.ireturn, 1) := by decide +kernel
theorem dX1_richest_0 : decode cX1_richest 0 = .ok (.aload_n 0, 1) := by decide +kernel
theorem dX1_richest_1 : decode cX1_richest 1 = .ok (.aload_n 0, 1) := by decide +kernel
theorem dX1_richest_2 : decode cX1_richest 2 = .ok (.invokevirtual 106, 3) := by decide +kernel
theorem dX1_richest_5 : decode cX1_richest 5 = .ok (.invokevirtual 88, 3) := by decide +kernel
theorem dX1_richest_8 : decode cX1_richest 8 = .ok (.ireturn, 1) := by decide +kernel
theorem dX1_shorts_0 : decode cX1_shorts 0 = .ok (.iconst 0, 1) := by decide +kernel
theorem dX1_shorts_1 : decode cX1_shorts 1 = .ok (.istore_n 2, 1) := by decide +kernel
theorem dX1_shorts_2 : decode cX1_shorts 2 = .ok (.iconst 0, 1) := by decide +kernel
theorem dX1_shorts_3 : decode cX1_shorts 3 = .ok (.istore_n 3, 1) := by decide +kernel
theorem dX1_shorts_4 : decode cX1_shorts 4 = .ok (.iload_n 3, 1) := by decide +kernel
theorem dX1_shorts_5 : decode cX1_shorts 5 = .ok (.aload_n 0, 1) := by decide +kernel
theorem dX1_shorts_6 : decode cX1_shorts 6 = .ok (.getfield 29, 3) := by decide +kernel
theorem dX1_shorts_9 : decode cX1_shorts 9 = .ok (.if_icmp .ge 30, 3) := by decide +kernel
theorem dX1_shorts_12 : decode cX1_shorts 12 = .ok (.iload_n 2, 1) := by decide +kernel
theorem dX1_shorts_13 : decode cX1_shorts 13 = .ok (.aload_n 0, 1) := by decide +kernel
theorem dX1_shorts_14 : decode cX1_shorts 14 = .ok (.getfield 19, 3) := by decide +kernel
theorem dX1_shorts_17 : decode cX1_shorts 17 = .ok (.iload_n 1, 1) := by decide +kernel
theorem dX1_shorts_18 : decode cX1_shorts 18 = .ok (.iload_n 3, 1) := by decide +kernel
theorem dX1_shorts_19 : decode cX1_shorts 19 = .ok (.invokestatic 45, 3) := by decide +kernel
theorem dX1_shorts_22 : decode cX1_shorts 22 = .ok (.iaload, 1) := by decide +kernel
theorem dX1_shorts_23 : decode cX1_shorts 23 = .ok (.ifCond .ge 7, 3) := by decide +kernel
theorem dX1_shorts_26 : decode cX1_shorts 26 = .ok (.iconst 1, 1) := by decide +kernel
theorem dX1_shorts_27 : decode cX1_shorts 27 = .ok (.goto 4, 3) := by decide +kernel
theorem dX1_shorts_30 : decode cX1_shorts 30 = .ok (.iconst 0, 1) := by decide +kernel
theorem dX1_shorts_31 : decode cX1_shorts 31 = .ok (.iadd, 1) := by decide +kernel
theorem dX1_shorts_32 : decode cX1_shorts 32 = .ok (.istore_n 2, 1) := by decide +kernel
theorem dX1_shorts_33 : decode cX1_shorts 33 = .ok (.iinc 3 1, 3) := by decide +kernel
theorem dX1_shorts_36 : decode cX1_shorts 36 = .ok (.goto (-32), 3) := by decide +kernel
theorem dX1_shorts_39 : decode cX1_shorts 39 = .ok (.iload_n 2, 1) := by decide +kernel
theorem dX1_shorts_40 : decode cX1_shorts 40 = .ok (.ireturn, 1) := by decide +kernel
theorem dX1_shortsOf_0 : decode cX1_shortsOf 0 = .ok (.aload_n 0, 1) := by decide +kernel
theorem dX1_shortsOf_1 : decode cX1_shortsOf 1 = .ok (.iconst 0, 1) := by decide +kernel
theorem dX1_shortsOf_2 : decode cX1_shortsOf 2 = .ok (.putfield 25, 3) := by decide +kernel
theorem dX1_shortsOf_5 : decode cX1_shortsOf 5 = .ok (.aload_n 0, 1) := by decide +kernel
theorem dX1_shortsOf_6 : decode cX1_shortsOf 6 = .ok (.iload_n 1, 1) := by decide +kernel
theorem dX1_shortsOf_7 : decode cX1_shortsOf 7 = .ok (.invokevirtual 71, 3) := by decide +kernel
theorem dX1_shortsOf_10 : decode cX1_shortsOf 10 = .ok (.ifCond .eq 11, 3) := by decide +kernel
theorem dX1_shortsOf_13 : decode cX1_shortsOf 13 = .ok (.aload_n 0, 1) := by decide +kernel
theorem dX1_shortsOf_14 : decode cX1_shortsOf 14 = .ok (.iload_n 1, 1) := by decide +kernel
theorem dX1_shortsOf_15 : decode cX1_shortsOf 15 = .ok (.invokevirtual 109, 3) := by decide +kernel
theorem dX1_shortsOf_18 : decode cX1_shortsOf 18 = .ok (.goto 8, 3) := by decide +kernel
theorem dX1_shortsOf_21 : decode cX1_shortsOf 21 = .ok (.aload_n 0, 1) := by decide +kernel
theorem dX1_shortsOf_22 : decode cX1_shortsOf 22 = .ok (.iconst 1, 1) := by decide +kernel
theorem dX1_shortsOf_23 : decode cX1_shortsOf 23 = .ok (.invokevirtual 68, 3) := by decide +kernel
theorem dX1_shortsOf_26 : decode cX1_shortsOf 26 = .ok (.ireturn, 1) := by decide +kernel
theorem dX1_owing_0 : decode cX1_owing 0 = .ok (.iconst 0, 1) := by decide +kernel
theorem dX1_owing_1 : decode cX1_owing 1 = .ok (.istore_n 1, 1) := by decide +kernel
theorem dX1_owing_2 : decode cX1_owing 2 = .ok (.iconst 0, 1) := by decide +kernel
theorem dX1_owing_3 : decode cX1_owing 3 = .ok (.istore_n 2, 1) := by decide +kernel
theorem dX1_owing_4 : decode cX1_owing 4 = .ok (.iload_n 2, 1) := by decide +kernel
theorem dX1_owing_5 : decode cX1_owing 5 = .ok (.aload_n 0, 1) := by decide +kernel
theorem dX1_owing_6 : decode cX1_owing 6 = .ok (.getfield 36, 3) := by decide +kernel
theorem dX1_owing_9 : decode cX1_owing 9 = .ok (.if_icmp .ge 29, 3) := by decide +kernel
theorem dX1_owing_12 : decode cX1_owing 12 = .ok (.iload_n 1, 1) := by decide +kernel
theorem dX1_owing_13 : decode cX1_owing 13 = .ok (.aload_n 0, 1) := by decide +kernel
theorem dX1_owing_14 : decode cX1_owing 14 = .ok (.getfield 19, 3) := by decide +kernel
theorem dX1_owing_17 : decode cX1_owing 17 = .ok (.bipush 17, 2) := by decide +kernel
theorem dX1_owing_19 : decode cX1_owing 19 = .ok (.iload_n 2, 1) := by decide +kernel
theorem dX1_owing_20 : decode cX1_owing 20 = .ok (.iadd, 1) := by decide +kernel
theorem dX1_owing_21 : decode cX1_owing 21 = .ok (.iaload, 1) := by decide +kernel
theorem dX1_owing_22 : decode cX1_owing 22 = .ok (.ifCond .ge 7, 3) := by decide +kernel
theorem dX1_owing_25 : decode cX1_owing 25 = .ok (.iconst 1, 1) := by decide +kernel
theorem dX1_owing_26 : decode cX1_owing 26 = .ok (.goto 4, 3) := by decide +kernel
theorem dX1_owing_29 : decode cX1_owing 29 = .ok (.iconst 0, 1) := by decide +kernel
theorem dX1_owing_30 : decode cX1_owing 30 = .ok (.iadd, 1) := by decide +kernel
theorem dX1_owing_31 : decode cX1_owing 31 = .ok (.istore_n 1, 1) := by decide +kernel
theorem dX1_owing_32 : decode cX1_owing 32 = .ok (.iinc 2 1, 3) := by decide +kernel
theorem dX1_owing_35 : decode cX1_owing 35 = .ok (.goto (-31), 3) := by decide +kernel
theorem dX1_owing_38 : decode cX1_owing 38 = .ok (.iload_n 1, 1) := by decide +kernel
theorem dX1_owing_39 : decode cX1_owing 39 = .ok (.ireturn, 1) := by decide +kernel
theorem dX1_inDebt_0 : decode cX1_inDebt 0 = .ok (.aload_n 0, 1) := by decide +kernel
theorem dX1_inDebt_1 : decode cX1_inDebt 1 = .ok (.aload_n 0, 1) := by decide +kernel
theorem dX1_inDebt_2 : decode cX1_inDebt 2 = .ok (.invokevirtual 112, 3) := by decide +kernel
theorem dX1_inDebt_5 : decode cX1_inDebt 5 = .ok (.invokevirtual 88, 3) := by decide +kernel
theorem dX1_inDebt_8 : decode cX1_inDebt 8 = .ok (.ireturn, 1) := by decide +kernel
theorem dX1_closing_0 : decode cX1_closing 0 = .ok (.aload_n 0, 1) := by decide +kernel
theorem dX1_closing_1 : decode cX1_closing 1 = .ok (.iload_n 1, 1) := by decide +kernel
theorem dX1_closing_2 : decode cX1_closing 2 = .ok (.aload_n 0, 1) := by decide +kernel
theorem dX1_closing_3 : decode cX1_closing 3 = .ok (.iload_n 1, 1) := by decide +kernel
theorem dX1_closing_4 : decode cX1_closing 4 = .ok (.invokevirtual 91, 3) := by decide +kernel
theorem dX1_closing_7 : decode cX1_closing 7 = .ok (.iconst 1, 1) := by decide +kernel
theorem dX1_closing_8 : decode cX1_closing 8 = .ok (.isub, 1) := by decide +kernel
theorem dX1_closing_9 : decode cX1_closing 9 = .ok (.invokevirtual 58, 3) := by decide +kernel
theorem dX1_closing_12 : decode cX1_closing 12 = .ok (.ireturn, 1) := by decide +kernel
theorem dX1_closingPrice_0 : decode cX1_closingPrice 0 = .ok (.aload_n 0, 1) := by decide +kernel
theorem dX1_closingPrice_1 : decode cX1_closingPrice 1 = .ok (.iconst 0, 1) := by decide +kernel
theorem dX1_closingPrice_2 : decode cX1_closingPrice 2 = .ok (.putfield 25, 3) := by decide +kernel
theorem dX1_closingPrice_5 : decode cX1_closingPrice 5 = .ok (.aload_n 0, 1) := by decide +kernel
theorem dX1_closingPrice_6 : decode cX1_closingPrice 6 = .ok (.iload_n 1, 1) := by decide +kernel
theorem dX1_closingPrice_7 : decode cX1_closingPrice 7 = .ok (.invokevirtual 75, 3) := by decide +kernel
theorem dX1_closingPrice_10 : decode cX1_closingPrice 10 = .ok (.ifCond .eq 11, 3) := by decide +kernel
theorem dX1_closingPrice_13 : decode cX1_closingPrice 13 = .ok (.aload_n 0, 1) := by decide +kernel
theorem dX1_closingPrice_14 : decode cX1_closingPrice 14 = .ok (.iload_n 1, 1) := by decide +kernel
theorem dX1_closingPrice_15 : decode cX1_closingPrice 15 = .ok (.invokevirtual 115, 3) := by decide +kernel
theorem dX1_closingPrice_18 : decode cX1_closingPrice 18 = .ok (.goto 8, 3) := by decide +kernel
theorem dX1_closingPrice_21 : decode cX1_closingPrice 21 = .ok (.aload_n 0, 1) := by decide +kernel
theorem dX1_closingPrice_22 : decode cX1_closingPrice 22 = .ok (.iconst 1, 1) := by decide +kernel
theorem dX1_closingPrice_23 : decode cX1_closingPrice 23 = .ok (.invokevirtual 68, 3) := by decide +kernel
theorem dX1_closingPrice_26 : decode cX1_closingPrice 26 = .ok (.ireturn, 1) := by decide +kernel
theorem dX1_priceIn_0 : decode cX1_priceIn 0 = .ok (.aload_n 0, 1) := by decide +kernel
theorem dX1_priceIn_1 : decode cX1_priceIn 1 = .ok (.iconst 0, 1) := by decide +kernel
theorem dX1_priceIn_2 : decode cX1_priceIn 2 = .ok (.putfield 25, 3) := by decide +kernel
theorem dX1_priceIn_5 : decode cX1_priceIn 5 = .ok (.aload_n 0, 1) := by decide +kernel
theorem dX1_priceIn_6 : decode cX1_priceIn 6 = .ok (.iload_n 1, 1) := by decide +kernel
theorem dX1_priceIn_7 : decode cX1_priceIn 7 = .ok (.invokevirtual 75, 3) := by decide +kernel
theorem dX1_priceIn_10 : decode cX1_priceIn 10 = .ok (.ifCond .ne 9, 3) := by decide +kernel
theorem dX1_priceIn_13 : decode cX1_priceIn 13 = .ok (.aload_n 0, 1) := by decide +kernel
theorem dX1_priceIn_14 : decode cX1_priceIn 14 = .ok (.iconst 1, 1) := by decide +kernel
theorem dX1_priceIn_15 : decode cX1_priceIn 15 = .ok (.invokevirtual 68, 3) := by decide +kernel
theorem dX1_priceIn_18 : decode cX1_priceIn 18 = .ok (.ireturn, 1) := by decide +kernel
theorem dX1_priceIn_19 : decode cX1_priceIn 19 = .ok (.iload_n 2, 1) := by decide +kernel
theorem dX1_priceIn_20 : decode cX1_priceIn 20 = .ok (.iconst 1, 1) := by decide +kernel
theorem dX1_priceIn_21 : decode cX1_priceIn 21 = .ok (.bipush 60, 2) := by decide +kernel
theorem dX1_priceIn_23 : decode cX1_priceIn 23 = .ok (.invokestatic 32, 3) := by decide +kernel
theorem dX1_priceIn_26 : decode cX1_priceIn 26 = .ok (.ifCond .ne 9, 3) := by decide +kernel
theorem dX1_priceIn_29 : decode cX1_priceIn 29 = .ok (.aload_n 0, 1) := by decide +kernel
theorem dX1_priceIn_30 : decode cX1_priceIn 30 = .ok (.iconst 2, 1) := by decide +kernel
theorem dX1_priceIn_31 : decode cX1_priceIn 31 = .ok (.invokevirtual 68, 3) := by decide +kernel
theorem dX1_priceIn_34 : decode cX1_priceIn 34 = .ok (.ireturn, 1) := by decide +kernel
theorem dX1_priceIn_35 : decode cX1_priceIn 35 = .ok (.aload_n 0, 1) := by decide +kernel
theorem dX1_priceIn_36 : decode cX1_priceIn 36 = .ok (.invokevirtual 118, 3) := by decide +kernel
theorem dX1_priceIn_39 : decode cX1_priceIn 39 = .ok (.aload_n 0, 1) := by decide +kernel
theorem dX1_priceIn_40 : decode cX1_priceIn 40 = .ok (.iload_n 2, 1) := by decide +kernel
theorem dX1_priceIn_41 : decode cX1_priceIn 41 = .ok (.invokevirtual 85, 3) := by decide +kernel
theorem dX1_priceIn_44 : decode cX1_priceIn 44 = .ok (.pop, 1) := by decide +kernel
theorem dX1_priceIn_45 : decode cX1_priceIn 45 = .ok (.aload_n 0, 1) := by decide +kernel
theorem dX1_priceIn_46 : decode cX1_priceIn 46 = .ok (.iload_n 1, 1) := by decide +kernel
theorem dX1_priceIn_47 : decode cX1_priceIn 47 = .ok (.invokevirtual 61, 3) := by decide +kernel
theorem dX1_priceIn_50 : decode cX1_priceIn 50 = .ok (.istore_n 3, 1) := by decide +kernel
theorem dX1_priceIn_51 : decode cX1_priceIn 51 = .ok (.aload_n 0, 1) := by decide +kernel
theorem dX1_priceIn_52 : decode cX1_priceIn 52 = .ok (.invokevirtual 121, 3) := by decide +kernel
theorem dX1_priceIn_55 : decode cX1_priceIn 55 = .ok (.iload_n 3, 1) := by decide +kernel
theorem dX1_priceIn_56 : decode cX1_priceIn 56 = .ok (.ireturn, 1) := by decide +kernel
theorem dX1_worthIn_0 : decode cX1_worthIn 0 = .ok (.aload_n 0, 1) := by decide +kernel
theorem dX1_worthIn_1 : decode cX1_worthIn 1 = .ok (.iconst 0, 1) := by decide +kernel
theorem dX1_worthIn_2 : decode cX1_worthIn 2 = .ok (.putfield 25, 3) := by decide +kernel
theorem dX1_worthIn_5 : decode cX1_worthIn 5 = .ok (.aload_n 0, 1) := by decide +kernel
theorem dX1_worthIn_6 : decode cX1_worthIn 6 = .ok (.iload_n 1, 1) := by decide +kernel
theorem dX1_worthIn_7 : decode cX1_worthIn 7 = .ok (.invokevirtual 71, 3) := by decide +kernel
theorem dX1_worthIn_10 : decode cX1_worthIn 10 = .ok (.ifCond .ne 9, 3) := by decide +kernel
theorem dX1_worthIn_13 : decode cX1_worthIn 13 = .ok (.aload_n 0, 1) := by decide +kernel
theorem dX1_worthIn_14 : decode cX1_worthIn 14 = .ok (.iconst 1, 1) := by decide +kernel
theorem dX1_worthIn_15 : decode cX1_worthIn 15 = .ok (.invokevirtual 68, 3) := by decide +kernel
theorem dX1_worthIn_18 : decode cX1_worthIn 18 = .ok (.ireturn, 1) := by decide +kernel
theorem dX1_worthIn_19 : decode cX1_worthIn 19 = .ok (.iload_n 2, 1) := by decide +kernel
theorem dX1_worthIn_20 : decode cX1_worthIn 20 = .ok (.iconst 1, 1) := by decide +kernel
theorem dX1_worthIn_21 : decode cX1_worthIn 21 = .ok (.bipush 60, 2) := by decide +kernel
theorem dX1_worthIn_23 : decode cX1_worthIn 23 = .ok (.invokestatic 32, 3) := by decide +kernel
theorem dX1_worthIn_26 : decode cX1_worthIn 26 = .ok (.ifCond .ne 9, 3) := by decide +kernel
theorem dX1_worthIn_29 : decode cX1_worthIn 29 = .ok (.aload_n 0, 1) := by decide +kernel
theorem dX1_worthIn_30 : decode cX1_worthIn 30 = .ok (.iconst 2, 1) := by decide +kernel
theorem dX1_worthIn_31 : decode cX1_worthIn 31 = .ok (.invokevirtual 68, 3) := by decide +kernel
theorem dX1_worthIn_34 : decode cX1_worthIn 34 = .ok (.ireturn, 1) := by decide +kernel
theorem dX1_worthIn_35 : decode cX1_worthIn 35 = .ok (.aload_n 0, 1) := by decide +kernel
theorem dX1_worthIn_36 : decode cX1_worthIn 36 = .ok (.invokevirtual 118, 3) := by decide +kernel
theorem dX1_worthIn_39 : decode cX1_worthIn 39 = .ok (.aload_n 0, 1) := by decide +kernel
theorem dX1_worthIn_40 : decode cX1_worthIn 40 = .ok (.iload_n 2, 1) := by decide +kernel
theorem dX1_worthIn_41 : decode cX1_worthIn 41 = .ok (.invokevirtual 85, 3) := by decide +kernel
theorem dX1_worthIn_44 : decode cX1_worthIn 44 = .ok (.pop, 1) := by decide +kernel
theorem dX1_worthIn_45 : decode cX1_worthIn 45 = .ok (.aload_n 0, 1) := by decide +kernel
theorem dX1_worthIn_46 : decode cX1_worthIn 46 = .ok (.iload_n 1, 1) := by decide +kernel
theorem dX1_worthIn_47 : decode cX1_worthIn 47 = .ok (.invokevirtual 103, 3) := by decide +kernel
theorem dX1_worthIn_50 : decode cX1_worthIn 50 = .ok (.istore_n 3, 1) := by decide +kernel
theorem dX1_worthIn_51 : decode cX1_worthIn 51 = .ok (.aload_n 0, 1) := by decide +kernel
theorem dX1_worthIn_52 : decode cX1_worthIn 52 = .ok (.invokevirtual 121, 3) := by decide +kernel
theorem dX1_worthIn_55 : decode cX1_worthIn 55 = .ok (.iload_n 3, 1) := by decide +kernel
theorem dX1_worthIn_56 : decode cX1_worthIn 56 = .ok (.ireturn, 1) := by decide +kernel
theorem dX1_toBuy_0 : decode cX1_toBuy 0 = .ok (.iconst (-1), 1) := by decide +kernel
theorem dX1_toBuy_1 : decode cX1_toBuy 1 = .ok (.istore_n 1, 1) := by decide +kernel
theorem dX1_toBuy_2 : decode cX1_toBuy 2 = .ok (.iconst 0, 1) := by decide +kernel
theorem dX1_toBuy_3 : decode cX1_toBuy 3 = .ok (.istore_n 2, 1) := by decide +kernel
theorem dX1_toBuy_4 : decode cX1_toBuy 4 = .ok (.iconst 0, 1) := by decide +kernel
theorem dX1_toBuy_5 : decode cX1_toBuy 5 = .ok (.istore_n 3, 1) := by decide +kernel
theorem dX1_toBuy_6 : decode cX1_toBuy 6 = .ok (.iload_n 3, 1) := by decide +kernel
theorem dX1_toBuy_7 : decode cX1_toBuy 7 = .ok (.aload_n 0, 1) := by decide +kernel
theorem dX1_toBuy_8 : decode cX1_toBuy 8 = .ok (.getfield 29, 3) := by decide +kernel
theorem dX1_toBuy_11 : decode cX1_toBuy 11 = .ok (.if_icmp .ge 36, 3) := by decide +kernel
theorem dX1_toBuy_14 : decode cX1_toBuy 14 = .ok (.aload_n 0, 1) := by decide +kernel
theorem dX1_toBuy_15 : decode cX1_toBuy 15 = .ok (.iload_n 3, 1) := by decide +kernel
theorem dX1_toBuy_16 : decode cX1_toBuy 16 = .ok (.invokevirtual 115, 3) := by decide +kernel
theorem dX1_toBuy_19 : decode cX1_toBuy 19 = .ok (.aload_n 0, 1) := by decide +kernel
theorem dX1_toBuy_20 : decode cX1_toBuy 20 = .ok (.iload_n 3, 1) := by decide +kernel
theorem dX1_toBuy_21 : decode cX1_toBuy 21 = .ok (.invokevirtual 61, 3) := by decide +kernel
theorem dX1_toBuy_24 : decode cX1_toBuy 24 = .ok (.isub, 1) := by decide +kernel
theorem dX1_toBuy_25 : decode cX1_toBuy 25 = .ok (.istore 4, 2) := by decide +kernel
theorem dX1_toBuy_27 : decode cX1_toBuy 27 = .ok (.iload 4, 2) := by decide +kernel
theorem dX1_toBuy_29 : decode cX1_toBuy 29 = .ok (.iload_n 2, 1) := by decide +kernel
theorem dX1_toBuy_30 : decode cX1_toBuy 30 = .ok (.if_icmp .gt 6, 3) := by decide +kernel
theorem dX1_toBuy_33 : decode cX1_toBuy 33 = .ok (.goto 8, 3) := by decide +kernel
theorem dX1_toBuy_36 : decode cX1_toBuy 36 = .ok (.iload_n 3, 1) := by decide +kernel
theorem dX1_toBuy_37 : decode cX1_toBuy 37 = .ok (.istore_n 1, 1) := by decide +kernel
theorem dX1_toBuy_38 : decode cX1_toBuy 38 = .ok (.iload 4, 2) := by decide +kernel
theorem dX1_toBuy_40 : decode cX1_toBuy 40 = .ok (.istore_n 2, 1) := by decide +kernel
theorem dX1_toBuy_41 : decode cX1_toBuy 41 = .ok (.iinc 3 1, 3) := by decide +kernel
theorem dX1_toBuy_44 : decode cX1_toBuy 44 = .ok (.goto (-38), 3) := by decide +kernel
theorem dX1_toBuy_47 : decode cX1_toBuy 47 = .ok (.iload_n 1, 1) := by decide +kernel
theorem dX1_toBuy_48 : decode cX1_toBuy 48 = .ok (.ireturn, 1) := by decide +kernel
theorem dX1_bestToBuy_0 : decode cX1_bestToBuy 0 = .ok (.aload_n 0, 1) := by decide +kernel
theorem dX1_bestToBuy_1 : decode cX1_bestToBuy 1 = .ok (.aload_n 0, 1) := by decide +kernel
theorem dX1_bestToBuy_2 : decode cX1_bestToBuy 2 = .ok (.invokevirtual 124, 3) := by decide +kernel
theorem dX1_bestToBuy_5 : decode cX1_bestToBuy 5 = .ok (.invokevirtual 88, 3) := by decide +kernel
theorem dX1_bestToBuy_8 : decode cX1_bestToBuy 8 = .ok (.ireturn, 1) := by decide +kernel
theorem dX1_bestToSell_0 : decode cX1_bestToSell 0 = .ok (.aload_n 0, 1) := by decide +kernel
theorem dX1_bestToSell_1 : decode cX1_bestToSell 1 = .ok (.iconst 0, 1) := by decide +kernel
theorem dX1_bestToSell_2 : decode cX1_bestToSell 2 = .ok (.putfield 25, 3) := by decide +kernel
theorem dX1_bestToSell_5 : decode cX1_bestToSell 5 = .ok (.aload_n 0, 1) := by decide +kernel
theorem dX1_bestToSell_6 : decode cX1_bestToSell 6 = .ok (.iload_n 1, 1) := by decide +kernel
theorem dX1_bestToSell_7 : decode cX1_bestToSell 7 = .ok (.invokevirtual 71, 3) := by decide +kernel
theorem dX1_bestToSell_10 : decode cX1_bestToSell 10 = .ok (.ifCond .eq 11, 3) := by decide +kernel
theorem dX1_bestToSell_13 : decode cX1_bestToSell 13 = .ok (.aload_n 0, 1) := by decide +kernel
theorem dX1_bestToSell_14 : decode cX1_bestToSell 14 = .ok (.iload_n 2, 1) := by decide +kernel
theorem dX1_bestToSell_15 : decode cX1_bestToSell 15 = .ok (.invokevirtual 75, 3) := by decide +kernel
theorem dX1_bestToSell_18 : decode cX1_bestToSell 18 = .ok (.ifCond .ne 9, 3) := by decide +kernel
theorem dX1_bestToSell_21 : decode cX1_bestToSell 21 = .ok (.aload_n 0, 1) := by decide +kernel
theorem dX1_bestToSell_22 : decode cX1_bestToSell 22 = .ok (.iconst 1, 1) := by decide +kernel
theorem dX1_bestToSell_23 : decode cX1_bestToSell 23 = .ok (.invokevirtual 68, 3) := by decide +kernel
theorem dX1_bestToSell_26 : decode cX1_bestToSell 26 = .ok (.ireturn, 1) := by decide +kernel
theorem dX1_bestToSell_27 : decode cX1_bestToSell 27 = .ok (.aload_n 0, 1) := by decide +kernel
theorem dX1_bestToSell_28 : decode cX1_bestToSell 28 = .ok (.iload_n 2, 1) := by decide +kernel
theorem dX1_bestToSell_29 : decode cX1_bestToSell 29 = .ok (.invokevirtual 91, 3) := by decide +kernel
theorem dX1_bestToSell_32 : decode cX1_bestToSell 32 = .ok (.istore_n 3, 1) := by decide +kernel
theorem dX1_bestToSell_33 : decode cX1_bestToSell 33 = .ok (.bipush 9, 2) := by decide +kernel
theorem dX1_bestToSell_35 : decode cX1_bestToSell 35 = .ok (.aload_n 0, 1) := by decide +kernel
theorem dX1_bestToSell_36 : decode cX1_bestToSell 36 = .ok (.getfield 19, 3) := by decide +kernel
theorem dX1_bestToSell_39 : decode cX1_bestToSell 39 = .ok (.iload_n 1, 1) := by decide +kernel
theorem dX1_bestToSell_40 : decode cX1_bestToSell 40 = .ok (.iload_n 2, 1) := by decide +kernel
theorem dX1_bestToSell_41 : decode cX1_bestToSell 41 = .ok (.invokestatic 45, 3) := by decide +kernel
theorem dX1_bestToSell_44 : decode cX1_bestToSell 44 = .ok (.iaload, 1) := by decide +kernel
theorem dX1_bestToSell_45 : decode cX1_bestToSell 45 = .ok (.bipush 9, 2) := by decide +kernel
theorem dX1_bestToSell_47 : decode cX1_bestToSell 47 = .ok (.iadd, 1) := by decide +kernel
theorem dX1_bestToSell_48 : decode cX1_bestToSell 48 = .ok (.invokestatic 127, 3) := by decide +kernel
theorem dX1_bestToSell_51 : decode cX1_bestToSell 51 = .ok (.istore 4, 2) := by decide +kernel
theorem dX1_bestToSell_53 : decode cX1_bestToSell 53 = .ok (.iconst 0, 1) := by decide +kernel
theorem dX1_bestToSell_54 : decode cX1_bestToSell 54 = .ok (.istore 5, 2) := by decide +kernel
theorem dX1_bestToSell_56 : decode cX1_bestToSell 56 = .ok (.iconst 0, 1) := by decide +kernel
theorem dX1_bestToSell_57 : decode cX1_bestToSell 57 = .ok (.istore 6, 2) := by decide +kernel
theorem dX1_bestToSell_59 : decode cX1_bestToSell 59 = .ok (.aload_n 0, 1) := by decide +kernel
theorem dX1_bestToSell_60 : decode cX1_bestToSell 60 = .ok (.invokevirtual 118, 3) := by decide +kernel
theorem dX1_bestToSell_63 : decode cX1_bestToSell 63 = .ok (.iconst 0, 1) := by decide +kernel
theorem dX1_bestToSell_64 : decode cX1_bestToSell 64 = .ok (.istore 7, 2) := by decide +kernel
theorem dX1_bestToSell_66 : decode cX1_bestToSell 66 = .ok (.iload 7, 2) := by decide +kernel
theorem dX1_bestToSell_68 : decode cX1_bestToSell 68 = .ok (.iload 4, 2) := by decide +kernel
theorem dX1_bestToSell_70 : decode cX1_bestToSell 70 = .ok (.if_icmp .gt 58, 3) := by decide +kernel
theorem dX1_bestToSell_73 : decode cX1_bestToSell 73 = .ok (.aload_n 0, 1) := by decide +kernel
theorem dX1_bestToSell_74 : decode cX1_bestToSell 74 = .ok (.iload_n 1, 1) := by decide +kernel
theorem dX1_bestToSell_75 : decode cX1_bestToSell 75 = .ok (.iload_n 2, 1) := by decide +kernel
theorem dX1_bestToSell_76 : decode cX1_bestToSell 76 = .ok (.iload 7, 2) := by decide +kernel
theorem dX1_bestToSell_78 : decode cX1_bestToSell 78 = .ok (.invokevirtual 81, 3) := by decide +kernel
theorem dX1_bestToSell_81 : decode cX1_bestToSell 81 = .ok (.pop, 1) := by decide +kernel
theorem dX1_bestToSell_82 : decode cX1_bestToSell 82 = .ok (.aload_n 0, 1) := by decide +kernel
theorem dX1_bestToSell_83 : decode cX1_bestToSell 83 = .ok (.iload_n 3, 1) := by decide +kernel
theorem dX1_bestToSell_84 : decode cX1_bestToSell 84 = .ok (.invokevirtual 85, 3) := by decide +kernel
theorem dX1_bestToSell_87 : decode cX1_bestToSell 87 = .ok (.pop, 1) := by decide +kernel
theorem dX1_bestToSell_88 : decode cX1_bestToSell 88 = .ok (.aload_n 0, 1) := by decide +kernel
theorem dX1_bestToSell_89 : decode cX1_bestToSell 89 = .ok (.iload_n 1, 1) := by decide +kernel
theorem dX1_bestToSell_90 : decode cX1_bestToSell 90 = .ok (.invokevirtual 103, 3) := by decide +kernel
theorem dX1_bestToSell_93 : decode cX1_bestToSell 93 = .ok (.istore 8, 2) := by decide +kernel
theorem dX1_bestToSell_95 : decode cX1_bestToSell 95 = .ok (.aload_n 0, 1) := by decide +kernel
theorem dX1_bestToSell_96 : decode cX1_bestToSell 96 = .ok (.invokevirtual 121, 3) := by decide +kernel
theorem dX1_bestToSell_99 : decode cX1_bestToSell 99 = .ok (.iload 7, 2) := by decide +kernel
theorem dX1_bestToSell_101 : decode cX1_bestToSell 101 = .ok (.ifCond .le 13, 3) := by decide +kernel
theorem dX1_bestToSell_104 : decode cX1_bestToSell 104 = .ok (.iload 8, 2) := by decide +kernel
theorem dX1_bestToSell_106 : decode cX1_bestToSell 106 = .ok (.iload 6, 2) := by decide +kernel
theorem dX1_bestToSell_108 : decode cX1_bestToSell 108 = .ok (.if_icmp .gt 6, 3) := by decide +kernel
theorem dX1_bestToSell_111 : decode cX1_bestToSell 111 = .ok (.goto 11, 3) := by decide +kernel
theorem dX1_bestToSell_114 : decode cX1_bestToSell 114 = .ok (.iload 7, 2) := by decide +kernel
theorem dX1_bestToSell_116 : decode cX1_bestToSell 116 = .ok (.istore 5, 2) := by decide +kernel
theorem dX1_bestToSell_118 : decode cX1_bestToSell 118 = .ok (.iload 8, 2) := by decide +kernel
theorem dX1_bestToSell_120 : decode cX1_bestToSell 120 = .ok (.istore 6, 2) := by decide +kernel
theorem dX1_bestToSell_122 : decode cX1_bestToSell 122 = .ok (.iinc 7 1, 3) := by decide +kernel
theorem dX1_bestToSell_125 : decode cX1_bestToSell 125 = .ok (.goto (-59), 3) := by decide +kernel
theorem dX1_bestToSell_128 : decode cX1_bestToSell 128 = .ok (.iload 5, 2) := by decide +kernel
theorem dX1_bestToSell_130 : decode cX1_bestToSell 130 = .ok (.ireturn, 1) := by decide +kernel
theorem dX1_secondsUntilDebt_0 : decode cX1_secondsUntilDebt 0 = .ok (.aload_n 0, 1) := by decide +kernel
theorem dX1_secondsUntilDebt_1 : decode cX1_secondsUntilDebt 1 = .ok (.iconst 0, 1) := by decide +kernel
theorem dX1_secondsUntilDebt_2 : decode cX1_secondsUntilDebt 2 = .ok (.putfield 25, 3) := by decide +kernel
theorem dX1_secondsUntilDebt_5 : decode cX1_secondsUntilDebt 5 = .ok (.aload_n 0, 1) := by decide +kernel
theorem dX1_secondsUntilDebt_6 : decode cX1_secondsUntilDebt 6 = .ok (.iload_n 1, 1) := by decide +kernel
theorem dX1_secondsUntilDebt_7 : decode cX1_secondsUntilDebt 7 = .ok (.invokevirtual 71, 3) := by decide +kernel
theorem dX1_secondsUntilDebt_10 : decode cX1_secondsUntilDebt 10 = .ok (.ifCond .ne 9, 3) := by decide +kernel
theorem dX1_secondsUntilDebt_13 : decode cX1_secondsUntilDebt 13 = .ok (.aload_n 0, 1) := by decide +kernel
theorem dX1_secondsUntilDebt_14 : decode cX1_secondsUntilDebt 14 = .ok (.iconst 1, 1) := by decide +kernel
theorem dX1_secondsUntilDebt_15 : decode cX1_secondsUntilDebt 15 = .ok (.invokevirtual 68, 3) := by decide +kernel
theorem dX1_secondsUntilDebt_18 : decode cX1_secondsUntilDebt 18 = .ok (.ireturn, 1) := by decide +kernel
theorem dX1_secondsUntilDebt_19 : decode cX1_secondsUntilDebt 19 = .ok (.aload_n 0, 1) := by decide +kernel
theorem dX1_secondsUntilDebt_20 : decode cX1_secondsUntilDebt 20 = .ok (.invokevirtual 118, 3) := by decide +kernel
theorem dX1_secondsUntilDebt_23 : decode cX1_secondsUntilDebt 23 = .ok (.iconst 0, 1) := by decide +kernel
theorem dX1_secondsUntilDebt_24 : decode cX1_secondsUntilDebt 24 = .ok (.istore_n 2, 1) := by decide +kernel
theorem dX1_secondsUntilDebt_25 : decode cX1_secondsUntilDebt 25 = .ok (.iload_n 2, 1) := by decide +kernel
theorem dX1_secondsUntilDebt_26 : decode cX1_secondsUntilDebt 26 = .ok (.bipush 100, 2) := by decide +kernel
theorem dX1_secondsUntilDebt_28 : decode cX1_secondsUntilDebt 28 = .ok (.if_icmp .gt 26, 3) := by decide +kernel
theorem dX1_secondsUntilDebt_31 : decode cX1_secondsUntilDebt 31 = .ok (.aload_n 0, 1) := by decide +kernel
theorem dX1_secondsUntilDebt_32 : decode cX1_secondsUntilDebt 32 = .ok (.getfield 19, 3) := by decide +kernel
theorem dX1_secondsUntilDebt_35 : decode cX1_secondsUntilDebt 35 = .ok (.bipush 17, 2) := by decide +kernel
theorem dX1_secondsUntilDebt_37 : decode cX1_secondsUntilDebt 37 = .ok (.iload_n 1, 1) := by decide +kernel
theorem dX1_secondsUntilDebt_38 : decode cX1_secondsUntilDebt 38 = .ok (.iadd, 1) := by decide +kernel
theorem dX1_secondsUntilDebt_39 : decode cX1_secondsUntilDebt 39 = .ok (.iaload, 1) := by decide +kernel
theorem dX1_secondsUntilDebt_40 : decode cX1_secondsUntilDebt 40 = .ok (.ifCond .lt 14, 3) := by decide +kernel
theorem dX1_secondsUntilDebt_43 : decode cX1_secondsUntilDebt 43 = .ok (.aload_n 0, 1) := by decide +kernel
theorem dX1_secondsUntilDebt_44 : decode cX1_secondsUntilDebt 44 = .ok (.invokevirtual 64, 3) := by decide +kernel
theorem dX1_secondsUntilDebt_47 : decode cX1_secondsUntilDebt 47 = .ok (.pop, 1) := by decide +kernel
theorem dX1_secondsUntilDebt_48 : decode cX1_secondsUntilDebt 48 = .ok (.iinc 2 1, 3) := by decide +kernel
theorem dX1_secondsUntilDebt_51 : decode cX1_secondsUntilDebt 51 = .ok (.goto (-26), 3) := by decide +kernel
theorem dX1_secondsUntilDebt_54 : decode cX1_secondsUntilDebt 54 = .ok (.aload_n 0, 1) := by decide +kernel
theorem dX1_secondsUntilDebt_55 : decode cX1_secondsUntilDebt 55 = .ok (.invokevirtual 121, 3) := by decide +kernel
theorem dX1_secondsUntilDebt_58 : decode cX1_secondsUntilDebt 58 = .ok (.iload_n 2, 1) := by decide +kernel
theorem dX1_secondsUntilDebt_59 : decode cX1_secondsUntilDebt 59 = .ok (.bipush 100, 2) := by decide +kernel
theorem dX1_secondsUntilDebt_61 : decode cX1_secondsUntilDebt 61 = .ok (.if_icmp .le 7, 3) := by decide +kernel
theorem dX1_secondsUntilDebt_64 : decode cX1_secondsUntilDebt 64 = .ok (.iconst (-1), 1) := by decide +kernel
theorem dX1_secondsUntilDebt_65 : decode cX1_secondsUntilDebt 65 = .ok (.goto 4, 3) := by decide +kernel
theorem dX1_secondsUntilDebt_68 : decode cX1_secondsUntilDebt 68 = .ok (.iload_n 2, 1) := by decide +kernel
theorem dX1_secondsUntilDebt_69 : decode cX1_secondsUntilDebt 69 = .ok (.ireturn, 1) := by decide +kernel
theorem dX1_meanPrice_0 : decode cX1_meanPrice 0 = .ok (.aload_n 0, 1) := by decide +kernel
theorem dX1_meanPrice_1 : decode cX1_meanPrice 1 = .ok (.iconst 0, 1) := by decide +kernel
theorem dX1_meanPrice_2 : decode cX1_meanPrice 2 = .ok (.putfield 25, 3) := by decide +kernel
theorem dX1_meanPrice_5 : decode cX1_meanPrice 5 = .ok (.iconst 0, 1) := by decide +kernel
theorem dX1_meanPrice_6 : decode cX1_meanPrice 6 = .ok (.istore_n 1, 1) := by decide +kernel
theorem dX1_meanPrice_7 : decode cX1_meanPrice 7 = .ok (.iconst 0, 1) := by decide +kernel
theorem dX1_meanPrice_8 : decode cX1_meanPrice 8 = .ok (.istore_n 2, 1) := by decide +kernel
theorem dX1_meanPrice_9 : decode cX1_meanPrice 9 = .ok (.iload_n 2, 1) := by decide +kernel
theorem dX1_meanPrice_10 : decode cX1_meanPrice 10 = .ok (.aload_n 0, 1) := by decide +kernel
theorem dX1_meanPrice_11 : decode cX1_meanPrice 11 = .ok (.getfield 29, 3) := by decide +kernel
theorem dX1_meanPrice_14 : decode cX1_meanPrice 14 = .ok (.if_icmp .ge 17, 3) := by decide +kernel
theorem dX1_meanPrice_17 : decode cX1_meanPrice 17 = .ok (.iload_n 1, 1) := by decide +kernel
theorem dX1_meanPrice_18 : decode cX1_meanPrice 18 = .ok (.aload_n 0, 1) := by decide +kernel
theorem dX1_meanPrice_19 : decode cX1_meanPrice 19 = .ok (.iload_n 2, 1) := by decide +kernel
theorem dX1_meanPrice_20 : decode cX1_meanPrice 20 = .ok (.invokevirtual 61, 3) := by decide +kernel
theorem dX1_meanPrice_23 : decode cX1_meanPrice 23 = .ok (.iadd, 1) := by decide +kernel
theorem dX1_meanPrice_24 : decode cX1_meanPrice 24 = .ok (.istore_n 1, 1) := by decide +kernel
theorem dX1_meanPrice_25 : decode cX1_meanPrice 25 = .ok (.iinc 2 1, 3) := by decide +kernel
theorem dX1_meanPrice_28 : decode cX1_meanPrice 28 = .ok (.goto (-19), 3) := by decide +kernel
theorem dX1_meanPrice_31 : decode cX1_meanPrice 31 = .ok (.aload_n 0, 1) := by decide +kernel
theorem dX1_meanPrice_32 : decode cX1_meanPrice 32 = .ok (.getfield 29, 3) := by decide +kernel
theorem dX1_meanPrice_35 : decode cX1_meanPrice 35 = .ok (.ifCond .ne 7, 3) := by decide +kernel
theorem dX1_meanPrice_38 : decode cX1_meanPrice 38 = .ok (.dconst 0, 1) := by decide +kernel
theorem dX1_meanPrice_39 : decode cX1_meanPrice 39 = .ok (.goto 11, 3) := by decide +kernel
theorem dX1_meanPrice_42 : decode cX1_meanPrice 42 = .ok (.iload_n 1, 1) := by decide +kernel
theorem dX1_meanPrice_43 : decode cX1_meanPrice 43 = .ok (.i2d, 1) := by decide +kernel
theorem dX1_meanPrice_44 : decode cX1_meanPrice 44 = .ok (.aload_n 0, 1) := by decide +kernel
theorem dX1_meanPrice_45 : decode cX1_meanPrice 45 = .ok (.getfield 29, 3) := by decide +kernel
theorem dX1_meanPrice_48 : decode cX1_meanPrice 48 = .ok (.i2d, 1) := by decide +kernel
theorem dX1_meanPrice_49 : decode cX1_meanPrice 49 = .ok (.ddiv, 1) := by decide +kernel
theorem dX1_meanPrice_50 : decode cX1_meanPrice 50 = .ok (.dreturn, 1) := by decide +kernel
theorem dX1_digest_0 : decode cX1_digest 0 = .ok (.aload_n 0, 1) := by decide +kernel
theorem dX1_digest_1 : decode cX1_digest 1 = .ok (.iconst 0, 1) := by decide +kernel
theorem dX1_digest_2 : decode cX1_digest 2 = .ok (.putfield 25, 3) := by decide +kernel
theorem dX1_digest_5 : decode cX1_digest 5 = .ok (.bipush 8, 2) := by decide +kernel
theorem dX1_digest_7 : decode cX1_digest 7 = .ok (.newarray .int, 2) := by decide +kernel
theorem dX1_digest_9 : decode cX1_digest 9 = .ok (.dup, 1) := by decide +kernel
theorem dX1_digest_10 : decode cX1_digest 10 = .ok (.iconst 0, 1) := by decide +kernel
theorem dX1_digest_11 : decode cX1_digest 11 = .ok (.aload_n 0, 1) := by decide +kernel
theorem dX1_digest_12 : decode cX1_digest 12 = .ok (.getfield 19, 3) := by decide +kernel
theorem dX1_digest_15 : decode cX1_digest 15 = .ok (.iconst 0, 1) := by decide +kernel
theorem dX1_digest_16 : decode cX1_digest 16 = .ok (.iaload, 1) := by decide +kernel
theorem dX1_digest_17 : decode cX1_digest 17 = .ok (.iastore, 1) := by decide +kernel
theorem dX1_digest_18 : decode cX1_digest 18 = .ok (.dup, 1) := by decide +kernel
theorem dX1_digest_19 : decode cX1_digest 19 = .ok (.iconst 1, 1) := by decide +kernel
theorem dX1_digest_20 : decode cX1_digest 20 = .ok (.aload_n 0, 1) := by decide +kernel
theorem dX1_digest_21 : decode cX1_digest 21 = .ok (.getfield 29, 3) := by decide +kernel
theorem dX1_digest_24 : decode cX1_digest 24 = .ok (.iastore, 1) := by decide +kernel
theorem dX1_digest_25 : decode cX1_digest 25 = .ok (.dup, 1) := by decide +kernel
theorem dX1_digest_26 : decode cX1_digest 26 = .ok (.iconst 2, 1) := by decide +kernel
theorem dX1_digest_27 : decode cX1_digest 27 = .ok (.aload_n 0, 1) := by decide +kernel
theorem dX1_digest_28 : decode cX1_digest 28 = .ok (.getfield 36, 3) := by decide +kernel
theorem dX1_digest_31 : decode cX1_digest 31 = .ok (.iastore, 1) := by decide +kernel
theorem dX1_digest_32 : decode cX1_digest 32 = .ok (.dup, 1) := by decide +kernel
theorem dX1_digest_33 : decode cX1_digest 33 = .ok (.iconst 3, 1) := by decide +kernel
theorem dX1_digest_34 : decode cX1_digest 34 = .ok (.aload_n 0, 1) := by decide +kernel
theorem dX1_digest_35 : decode cX1_digest 35 = .ok (.invokevirtual 97, 3) := by decide +kernel
theorem dX1_digest_38 : decode cX1_digest 38 = .ok (.iastore, 1) := by decide +kernel
theorem dX1_digest_39 : decode cX1_digest 39 = .ok (.dup, 1) := by decide +kernel
theorem dX1_digest_40 : decode cX1_digest 40 = .ok (.iconst 4, 1) := by decide +kernel
theorem dX1_digest_41 : decode cX1_digest 41 = .ok (.aload_n 0, 1) := by decide +kernel
theorem dX1_digest_42 : decode cX1_digest 42 = .ok (.invokevirtual 100, 3) := by decide +kernel
theorem dX1_digest_45 : decode cX1_digest 45 = .ok (.iastore, 1) := by decide +kernel
theorem dX1_digest_46 : decode cX1_digest 46 = .ok (.dup, 1) := by decide +kernel
theorem dX1_digest_47 : decode cX1_digest 47 = .ok (.iconst 5, 1) := by decide +kernel
theorem dX1_digest_48 : decode cX1_digest 48 = .ok (.aload_n 0, 1) := by decide +kernel
theorem dX1_digest_49 : decode cX1_digest 49 = .ok (.invokevirtual 106, 3) := by decide +kernel
theorem dX1_digest_52 : decode cX1_digest 52 = .ok (.iastore, 1) := by decide +kernel
theorem dX1_digest_53 : decode cX1_digest 53 = .ok (.dup, 1) := by decide +kernel
theorem dX1_digest_54 : decode cX1_digest 54 = .ok (.bipush 6, 2) := by decide +kernel
theorem dX1_digest_56 : decode cX1_digest 56 = .ok (.aload_n 0, 1) := by decide +kernel
theorem dX1_digest_57 : decode cX1_digest 57 = .ok (.invokevirtual 112, 3) := by decide +kernel
theorem dX1_digest_60 : decode cX1_digest 60 = .ok (.iastore, 1) := by decide +kernel
theorem dX1_digest_61 : decode cX1_digest 61 = .ok (.dup, 1) := by decide +kernel
theorem dX1_digest_62 : decode cX1_digest 62 = .ok (.bipush 7, 2) := by decide +kernel
theorem dX1_digest_64 : decode cX1_digest 64 = .ok (.aload_n 0, 1) := by decide +kernel
theorem dX1_digest_65 : decode cX1_digest 65 = .ok (.invokevirtual 124, 3) := by decide +kernel
theorem dX1_digest_68 : decode cX1_digest 68 = .ok (.iastore, 1) := by decide +kernel
theorem dX1_digest_69 : decode cX1_digest 69 = .ok (.astore_n 1, 1) := by decide +kernel
theorem dX1_digest_70 : decode cX1_digest 70 = .ok (.ldc2_w 130, 3) := by decide +kernel
theorem dX1_digest_73 : decode cX1_digest 73 = .ok (.lstore_n 2, 1) := by decide +kernel
theorem dX1_digest_74 : decode cX1_digest 74 = .ok (.aload_n 1, 1) := by decide +kernel
theorem dX1_digest_75 : decode cX1_digest 75 = .ok (.astore 4, 2) := by decide +kernel
theorem dX1_digest_77 : decode cX1_digest 77 = .ok (.aload 4, 2) := by decide +kernel
theorem dX1_digest_79 : decode cX1_digest 79 = .ok (.arraylength, 1) := by decide +kernel
theorem dX1_digest_80 : decode cX1_digest 80 = .ok (.istore 5, 2) := by decide +kernel
theorem dX1_digest_82 : decode cX1_digest 82 = .ok (.iconst 0, 1) := by decide +kernel
theorem dX1_digest_83 : decode cX1_digest 83 = .ok (.istore 6, 2) := by decide +kernel
theorem dX1_digest_85 : decode cX1_digest 85 = .ok (.iload 6, 2) := by decide +kernel
theorem dX1_digest_87 : decode cX1_digest 87 = .ok (.iload 5, 2) := by decide +kernel
theorem dX1_digest_89 : decode cX1_digest 89 = .ok (.if_icmp .ge 26, 3) := by decide +kernel
theorem dX1_digest_92 : decode cX1_digest 92 = .ok (.aload 4, 2) := by decide +kernel
theorem dX1_digest_94 : decode cX1_digest 94 = .ok (.iload 6, 2) := by decide +kernel
theorem dX1_digest_96 : decode cX1_digest 96 = .ok (.iaload, 1) := by decide +kernel
theorem dX1_digest_97 : decode cX1_digest 97 = .ok (.istore 7, 2) := by decide +kernel
theorem dX1_digest_99 : decode cX1_digest 99 = .ok (.lload_n 2, 1) := by decide +kernel
theorem dX1_digest_100 : decode cX1_digest 100 = .ok (.ldc2_w 132, 3) := by decide +kernel
theorem dX1_digest_103 : decode cX1_digest 103 = .ok (.lmul, 1) := by decide +kernel
theorem dX1_digest_104 : decode cX1_digest 104 = .ok (.iload 7, 2) := by decide +kernel
theorem dX1_digest_106 : decode cX1_digest 106 = .ok (.i2l, 1) := by decide +kernel
theorem dX1_digest_107 : decode cX1_digest 107 = .ok (.ladd, 1) := by decide +kernel
theorem dX1_digest_108 : decode cX1_digest 108 = .ok (.lstore_n 2, 1) := by decide +kernel
theorem dX1_digest_109 : decode cX1_digest 109 = .ok (.iinc 6 1, 3) := by decide +kernel
theorem dX1_digest_112 : decode cX1_digest 112 = .ok (.goto (-27), 3) := by decide +kernel
theorem dX1_digest_115 : decode cX1_digest 115 = .ok (.iconst 0, 1) := by decide +kernel
theorem dX1_digest_116 : decode cX1_digest 116 = .ok (.istore 4, 2) := by decide +kernel
theorem dX1_digest_118 : decode cX1_digest 118 = .ok (.iload 4, 2) := by decide +kernel
theorem dX1_digest_120 : decode cX1_digest 120 = .ok (.aload_n 0, 1) := by decide +kernel
theorem dX1_digest_121 : decode cX1_digest 121 = .ok (.getfield 29, 3) := by decide +kernel
theorem dX1_digest_124 : decode cX1_digest 124 = .ok (.if_icmp .ge 128, 3) := by decide +kernel
theorem dX1_digest_127 : decode cX1_digest 127 = .ok (.bipush 7, 2) := by decide +kernel
theorem dX1_digest_129 : decode cX1_digest 129 = .ok (.newarray .int, 2) := by decide +kernel
theorem dX1_digest_131 : decode cX1_digest 131 = .ok (.dup, 1) := by decide +kernel
theorem dX1_digest_132 : decode cX1_digest 132 = .ok (.iconst 0, 1) := by decide +kernel
theorem dX1_digest_133 : decode cX1_digest 133 = .ok (.aload_n 0, 1) := by decide +kernel
theorem dX1_digest_134 : decode cX1_digest 134 = .ok (.getfield 19, 3) := by decide +kernel
theorem dX1_digest_137 : decode cX1_digest 137 = .ok (.iconst 1, 1) := by decide +kernel
theorem dX1_digest_138 : decode cX1_digest 138 = .ok (.iload 4, 2) := by decide +kernel
theorem dX1_digest_140 : decode cX1_digest 140 = .ok (.iadd, 1) := by decide +kernel
theorem dX1_digest_141 : decode cX1_digest 141 = .ok (.iaload, 1) := by decide +kernel
theorem dX1_digest_142 : decode cX1_digest 142 = .ok (.iastore, 1) := by decide +kernel
theorem dX1_digest_143 : decode cX1_digest 143 = .ok (.dup, 1) := by decide +kernel
theorem dX1_digest_144 : decode cX1_digest 144 = .ok (.iconst 1, 1) := by decide +kernel
theorem dX1_digest_145 : decode cX1_digest 145 = .ok (.aload_n 0, 1) := by decide +kernel
theorem dX1_digest_146 : decode cX1_digest 146 = .ok (.iload 4, 2) := by decide +kernel
theorem dX1_digest_148 : decode cX1_digest 148 = .ok (.invokevirtual 54, 3) := by decide +kernel
theorem dX1_digest_151 : decode cX1_digest 151 = .ok (.iastore, 1) := by decide +kernel
theorem dX1_digest_152 : decode cX1_digest 152 = .ok (.dup, 1) := by decide +kernel
theorem dX1_digest_153 : decode cX1_digest 153 = .ok (.iconst 2, 1) := by decide +kernel
theorem dX1_digest_154 : decode cX1_digest 154 = .ok (.aload_n 0, 1) := by decide +kernel
theorem dX1_digest_155 : decode cX1_digest 155 = .ok (.iload 4, 2) := by decide +kernel
theorem dX1_digest_157 : decode cX1_digest 157 = .ok (.invokevirtual 61, 3) := by decide +kernel
theorem dX1_digest_160 : decode cX1_digest 160 = .ok (.iastore, 1) := by decide +kernel
theorem dX1_digest_161 : decode cX1_digest 161 = .ok (.dup, 1) := by decide +kernel
theorem dX1_digest_162 : decode cX1_digest 162 = .ok (.iconst 3, 1) := by decide +kernel
theorem dX1_digest_163 : decode cX1_digest 163 = .ok (.aload_n 0, 1) := by decide +kernel
theorem dX1_digest_164 : decode cX1_digest 164 = .ok (.iload 4, 2) := by decide +kernel
theorem dX1_digest_166 : decode cX1_digest 166 = .ok (.invokevirtual 91, 3) := by decide +kernel
theorem dX1_digest_169 : decode cX1_digest 169 = .ok (.iastore, 1) := by decide +kernel
theorem dX1_digest_170 : decode cX1_digest 170 = .ok (.dup, 1) := by decide +kernel
theorem dX1_digest_171 : decode cX1_digest 171 = .ok (.iconst 4, 1) := by decide +kernel
theorem dX1_digest_172 : decode cX1_digest 172 = .ok (.aload_n 0, 1) := by decide +kernel
theorem dX1_digest_173 : decode cX1_digest 173 = .ok (.getfield 19, 3) := by decide +kernel
theorem dX1_digest_176 : decode cX1_digest 176 = .ok (.bipush 9, 2) := by decide +kernel
theorem dX1_digest_178 : decode cX1_digest 178 = .ok (.iload 4, 2) := by decide +kernel
theorem dX1_digest_180 : decode cX1_digest 180 = .ok (.iadd, 1) := by decide +kernel
theorem dX1_digest_181 : decode cX1_digest 181 = .ok (.iaload, 1) := by decide +kernel
theorem dX1_digest_182 : decode cX1_digest 182 = .ok (.iastore, 1) := by decide +kernel
theorem dX1_digest_183 : decode cX1_digest 183 = .ok (.dup, 1) := by decide +kernel
theorem dX1_digest_184 : decode cX1_digest 184 = .ok (.iconst 5, 1) := by decide +kernel
theorem dX1_digest_185 : decode cX1_digest 185 = .ok (.aload_n 0, 1) := by decide +kernel
theorem dX1_digest_186 : decode cX1_digest 186 = .ok (.iload 4, 2) := by decide +kernel
theorem dX1_digest_188 : decode cX1_digest 188 = .ok (.invokevirtual 94, 3) := by decide +kernel
theorem dX1_digest_191 : decode cX1_digest 191 = .ok (.iastore, 1) := by decide +kernel
theorem dX1_digest_192 : decode cX1_digest 192 = .ok (.dup, 1) := by decide +kernel
theorem dX1_digest_193 : decode cX1_digest 193 = .ok (.bipush 6, 2) := by decide +kernel
theorem dX1_digest_195 : decode cX1_digest 195 = .ok (.aload_n 0, 1) := by decide +kernel
theorem dX1_digest_196 : decode cX1_digest 196 = .ok (.iload 4, 2) := by decide +kernel
theorem dX1_digest_198 : decode cX1_digest 198 = .ok (.invokevirtual 115, 3) := by decide +kernel
theorem dX1_digest_201 : decode cX1_digest 201 = .ok (.iastore, 1) := by decide +kernel
theorem dX1_digest_202 : decode cX1_digest 202 = .ok (.astore 5, 2) := by decide +kernel
theorem dX1_digest_204 : decode cX1_digest 204 = .ok (.aload 5, 2) := by decide +kernel
theorem dX1_digest_206 : decode cX1_digest 206 = .ok (.astore 6, 2) := by decide +kernel
theorem dX1_digest_208 : decode cX1_digest 208 = .ok (.aload 6, 2) := by decide +kernel
theorem dX1_digest_210 : decode cX1_digest 210 = .ok (.arraylength, 1) := by decide +kernel
theorem dX1_digest_211 : decode cX1_digest 211 = .ok (.istore 7, 2) := by decide +kernel
theorem dX1_digest_213 : decode cX1_digest 213 = .ok (.iconst 0, 1) := by decide +kernel
theorem dX1_digest_214 : decode cX1_digest 214 = .ok (.istore 8, 2) := by decide +kernel
theorem dX1_digest_216 : decode cX1_digest 216 = .ok (.iload 8, 2) := by decide +kernel
theorem dX1_digest_218 : decode cX1_digest 218 = .ok (.iload 7, 2) := by decide +kernel
theorem dX1_digest_220 : decode cX1_digest 220 = .ok (.if_icmp .ge 26, 3) := by decide +kernel
theorem dX1_digest_223 : decode cX1_digest 223 = .ok (.aload 6, 2) := by decide +kernel
theorem dX1_digest_225 : decode cX1_digest 225 = .ok (.iload 8, 2) := by decide +kernel
theorem dX1_digest_227 : decode cX1_digest 227 = .ok (.iaload, 1) := by decide +kernel
theorem dX1_digest_228 : decode cX1_digest 228 = .ok (.istore 9, 2) := by decide +kernel
theorem dX1_digest_230 : decode cX1_digest 230 = .ok (.lload_n 2, 1) := by decide +kernel
theorem dX1_digest_231 : decode cX1_digest 231 = .ok (.ldc2_w 132, 3) := by decide +kernel
theorem dX1_digest_234 : decode cX1_digest 234 = .ok (.lmul, 1) := by decide +kernel
theorem dX1_digest_235 : decode cX1_digest 235 = .ok (.iload 9, 2) := by decide +kernel
theorem dX1_digest_237 : decode cX1_digest 237 = .ok (.i2l, 1) := by decide +kernel
theorem dX1_digest_238 : decode cX1_digest 238 = .ok (.ladd, 1) := by decide +kernel
theorem dX1_digest_239 : decode cX1_digest 239 = .ok (.lstore_n 2, 1) := by decide +kernel
theorem dX1_digest_240 : decode cX1_digest 240 = .ok (.iinc 8 1, 3) := by decide +kernel
theorem dX1_digest_243 : decode cX1_digest 243 = .ok (.goto (-27), 3) := by decide +kernel
theorem dX1_digest_246 : decode cX1_digest 246 = .ok (.iinc 4 1, 3) := by decide +kernel
theorem dX1_digest_249 : decode cX1_digest 249 = .ok (.goto (-131), 3) := by decide +kernel
theorem dX1_digest_252 : decode cX1_digest 252 = .ok (.iconst 0, 1) := by decide +kernel
theorem dX1_digest_253 : decode cX1_digest 253 = .ok (.istore 4, 2) := by decide +kernel
theorem dX1_digest_255 : decode cX1_digest 255 = .ok (.iload 4, 2) := by decide +kernel
theorem dX1_digest_257 : decode cX1_digest 257 = .ok (.aload_n 0, 1) := by decide +kernel
theorem dX1_digest_258 : decode cX1_digest 258 = .ok (.getfield 36, 3) := by decide +kernel
theorem dX1_digest_261 : decode cX1_digest 261 = .ok (.if_icmp .ge 93, 3) := by decide +kernel
theorem dX1_digest_264 : decode cX1_digest 264 = .ok (.lload_n 2, 1) := by decide +kernel
theorem dX1_digest_265 : decode cX1_digest 265 = .ok (.ldc2_w 132, 3) := by decide +kernel
theorem dX1_digest_268 : decode cX1_digest 268 = .ok (.lmul, 1) := by decide +kernel
theorem dX1_digest_269 : decode cX1_digest 269 = .ok (.aload_n 0, 1) := by decide +kernel
theorem dX1_digest_270 : decode cX1_digest 270 = .ok (.getfield 19, 3) := by decide +kernel
theorem dX1_digest_273 : decode cX1_digest 273 = .ok (.bipush 17, 2) := by decide +kernel
theorem dX1_digest_275 : decode cX1_digest 275 = .ok (.iload 4, 2) := by decide +kernel
theorem dX1_digest_277 : decode cX1_digest 277 = .ok (.iadd, 1) := by decide +kernel
theorem dX1_digest_278 : decode cX1_digest 278 = .ok (.iaload, 1) := by decide +kernel
theorem dX1_digest_279 : decode cX1_digest 279 = .ok (.i2l, 1) := by decide +kernel
theorem dX1_digest_280 : decode cX1_digest 280 = .ok (.ladd, 1) := by decide +kernel
theorem dX1_digest_281 : decode cX1_digest 281 = .ok (.lstore_n 2, 1) := by decide +kernel
theorem dX1_digest_282 : decode cX1_digest 282 = .ok (.lload_n 2, 1) := by decide +kernel
theorem dX1_digest_283 : decode cX1_digest 283 = .ok (.ldc2_w 132, 3) := by decide +kernel
theorem dX1_digest_286 : decode cX1_digest 286 = .ok (.lmul, 1) := by decide +kernel
theorem dX1_digest_287 : decode cX1_digest 287 = .ok (.aload_n 0, 1) := by decide +kernel
theorem dX1_digest_288 : decode cX1_digest 288 = .ok (.iload 4, 2) := by decide +kernel
theorem dX1_digest_290 : decode cX1_digest 290 = .ok (.invokevirtual 103, 3) := by decide +kernel
theorem dX1_digest_293 : decode cX1_digest 293 = .ok (.i2l, 1) := by decide +kernel
theorem dX1_digest_294 : decode cX1_digest 294 = .ok (.ladd, 1) := by decide +kernel
theorem dX1_digest_295 : decode cX1_digest 295 = .ok (.lstore_n 2, 1) := by decide +kernel
theorem dX1_digest_296 : decode cX1_digest 296 = .ok (.lload_n 2, 1) := by decide +kernel
theorem dX1_digest_297 : decode cX1_digest 297 = .ok (.ldc2_w 132, 3) := by decide +kernel
theorem dX1_digest_300 : decode cX1_digest 300 = .ok (.lmul, 1) := by decide +kernel
theorem dX1_digest_301 : decode cX1_digest 301 = .ok (.aload_n 0, 1) := by decide +kernel
theorem dX1_digest_302 : decode cX1_digest 302 = .ok (.iload 4, 2) := by decide +kernel
theorem dX1_digest_304 : decode cX1_digest 304 = .ok (.invokevirtual 109, 3) := by decide +kernel
theorem dX1_digest_307 : decode cX1_digest 307 = .ok (.i2l, 1) := by decide +kernel
theorem dX1_digest_308 : decode cX1_digest 308 = .ok (.ladd, 1) := by decide +kernel
theorem dX1_digest_309 : decode cX1_digest 309 = .ok (.lstore_n 2, 1) := by decide +kernel
theorem dX1_digest_310 : decode cX1_digest 310 = .ok (.iconst 0, 1) := by decide +kernel
theorem dX1_digest_311 : decode cX1_digest 311 = .ok (.istore 5, 2) := by decide +kernel
theorem dX1_digest_313 : decode cX1_digest 313 = .ok (.iload 5, 2) := by decide +kernel
theorem dX1_digest_315 : decode cX1_digest 315 = .ok (.aload_n 0, 1) := by decide +kernel
theorem dX1_digest_316 : decode cX1_digest 316 = .ok (.getfield 29, 3) := by decide +kernel
theorem dX1_digest_319 : decode cX1_digest 319 = .ok (.if_icmp .ge 29, 3) := by decide +kernel
theorem dX1_digest_322 : decode cX1_digest 322 = .ok (.lload_n 2, 1) := by decide +kernel
theorem dX1_digest_323 : decode cX1_digest 323 = .ok (.ldc2_w 132, 3) := by decide +kernel
theorem dX1_digest_326 : decode cX1_digest 326 = .ok (.lmul, 1) := by decide +kernel
theorem dX1_digest_327 : decode cX1_digest 327 = .ok (.aload_n 0, 1) := by decide +kernel
theorem dX1_digest_328 : decode cX1_digest 328 = .ok (.getfield 19, 3) := by decide +kernel
theorem dX1_digest_331 : decode cX1_digest 331 = .ok (.iload 4, 2) := by decide +kernel
theorem dX1_digest_333 : decode cX1_digest 333 = .ok (.iload 5, 2) := by decide +kernel
theorem dX1_digest_335 : decode cX1_digest 335 = .ok (.invokestatic 45, 3) := by decide +kernel
theorem dX1_digest_338 : decode cX1_digest 338 = .ok (.iaload, 1) := by decide +kernel
theorem dX1_digest_339 : decode cX1_digest 339 = .ok (.i2l, 1) := by decide +kernel
theorem dX1_digest_340 : decode cX1_digest 340 = .ok (.ladd, 1) := by decide +kernel
theorem dX1_digest_341 : decode cX1_digest 341 = .ok (.lstore_n 2, 1) := by decide +kernel
theorem dX1_digest_342 : decode cX1_digest 342 = .ok (.iinc 5 1, 3) := by decide +kernel
theorem dX1_digest_345 : decode cX1_digest 345 = .ok (.goto (-32), 3) := by decide +kernel
theorem dX1_digest_348 : decode cX1_digest 348 = .ok (.iinc 4 1, 3) := by decide +kernel
theorem dX1_digest_351 : decode cX1_digest 351 = .ok (.goto (-96), 3) := by decide +kernel
theorem dX1_digest_354 : decode cX1_digest 354 = .ok (.lload_n 2, 1) := by decide +kernel
theorem dX1_digest_355 : decode cX1_digest 355 = .ok (.lreturn, 1) := by decide +kernel
theorem dJ9_floorMod_7cf53_0 : decode cJ9_floorMod_7cf53 0 = .ok (.iload_n 0, 1) := by decide +kernel
theorem dJ9_floorMod_7cf53_1 : decode cJ9_floorMod_7cf53 1 = .ok (.iload_n 1, 1) := by decide +kernel
theorem dJ9_floorMod_7cf53_2 : decode cJ9_floorMod_7cf53 2 = .ok (.irem, 1) := by decide +kernel
theorem dJ9_floorMod_7cf53_3 : decode cJ9_floorMod_7cf53 3 = .ok (.istore_n 2, 1) := by decide +kernel
theorem dJ9_floorMod_7cf53_4 : decode cJ9_floorMod_7cf53 4 = .ok (.iload_n 0, 1) := by decide +kernel
theorem dJ9_floorMod_7cf53_5 : decode cJ9_floorMod_7cf53 5 = .ok (.iload_n 1, 1) := by decide +kernel
theorem dJ9_floorMod_7cf53_6 : decode cJ9_floorMod_7cf53 6 = .ok (.ixor, 1) := by decide +kernel
theorem dJ9_floorMod_7cf53_7 : decode cJ9_floorMod_7cf53 7 = .ok (.ifCond .ge 11, 3) := by decide +kernel
theorem dJ9_floorMod_7cf53_10 : decode cJ9_floorMod_7cf53 10 = .ok (.iload_n 2, 1) := by decide +kernel
theorem dJ9_floorMod_7cf53_11 : decode cJ9_floorMod_7cf53 11 = .ok (.ifCond .eq 7, 3) := by decide +kernel
theorem dJ9_floorMod_7cf53_14 : decode cJ9_floorMod_7cf53 14 = .ok (.iload_n 2, 1) := by decide +kernel
theorem dJ9_floorMod_7cf53_15 : decode cJ9_floorMod_7cf53 15 = .ok (.iload_n 1, 1) := by decide +kernel
theorem dJ9_floorMod_7cf53_16 : decode cJ9_floorMod_7cf53 16 = .ok (.iadd, 1) := by decide +kernel
theorem dJ9_floorMod_7cf53_17 : decode cJ9_floorMod_7cf53 17 = .ok (.ireturn, 1) := by decide +kernel
theorem dJ9_floorMod_7cf53_18 : decode cJ9_floorMod_7cf53 18 = .ok (.iload_n 2, 1) := by decide +kernel
theorem dJ9_floorMod_7cf53_19 : decode cJ9_floorMod_7cf53 19 = .ok (.ireturn, 1) := by decide +kernel
theorem dJ9_max_7cf53_0 : decode cJ9_max_7cf53 0 = .ok (.iload_n 0, 1) := by decide +kernel
theorem dJ9_max_7cf53_1 : decode cJ9_max_7cf53 1 = .ok (.iload_n 1, 1) := by decide +kernel
theorem dJ9_max_7cf53_2 : decode cJ9_max_7cf53 2 = .ok (.if_icmp .lt 7, 3) := by decide +kernel
theorem dJ9_max_7cf53_5 : decode cJ9_max_7cf53 5 = .ok (.iload_n 0, 1) := by decide +kernel
theorem dJ9_max_7cf53_6 : decode cJ9_max_7cf53 6 = .ok (.goto 4, 3) := by decide +kernel
theorem dJ9_max_7cf53_9 : decode cJ9_max_7cf53 9 = .ok (.iload_n 1, 1) := by decide +kernel
theorem dJ9_max_7cf53_10 : decode cJ9_max_7cf53 10 = .ok (.ireturn, 1) := by decide +kernel
theorem dJ9_min_7cf53_0 : decode cJ9_min_7cf53 0 = .ok (.iload_n 0, 1) := by decide +kernel
theorem dJ9_min_7cf53_1 : decode cJ9_min_7cf53 1 = .ok (.iload_n 1, 1) := by decide +kernel
theorem dJ9_min_7cf53_2 : decode cJ9_min_7cf53 2 = .ok (.if_icmp .gt 7, 3) := by decide +kernel
theorem dJ9_min_7cf53_5 : decode cJ9_min_7cf53 5 = .ok (.iload_n 0, 1) := by decide +kernel
theorem dJ9_min_7cf53_6 : decode cJ9_min_7cf53 6 = .ok (.goto 4, 3) := by decide +kernel
theorem dJ9_min_7cf53_9 : decode cJ9_min_7cf53 9 = .ok (.iload_n 1, 1) := by decide +kernel
theorem dJ9_min_7cf53_10 : decode cJ9_min_7cf53 10 = .ok (.ireturn, 1) := by decide +kernel
end
section
/-! ===== my own words for the two objects' cells, and one row an instruction over them ===== -/
/-- what an object holds: row k, place j -/
abbrev bS : Type := Nat → Nat → Int32
def up2 (S : bS) (k j : Nat) (v : Int32) : bS := fun k' => if k' = k then upd (S k') j v else S k'
/-- BellHush: rows 0 loudness, 1 period, 2 silence, 3 untilStroke, 4 strokes, 5 purse, 6 the numbers second, towerCount, traderCount, 7 + r what trader r holds; a 13 is the object -/
abbrev vwB (cI cQ : ClassId) (a : Nat → Nat) (S : bS) : va_W := [(a 13, .inr (0, [.ref (a 0), .ref (a 1), .ref (a 2), .ref (a 3), .ref (a 4), .ref (a 5), .ref (a 6), .int (S 6 0), .int (S 6 1), .int (S 6 2)])), (a 0, .inl (cI, 8, .inl (S 0))), (a 1, .inl (cI, 8, .inl (S 1))), (a 2, .inl (cI, 8, .inl (S 2))), (a 3, .inl (cI, 8, .inl (S 3))), (a 4, .inl (cI, 8, .inl (S 4))), (a 5, .inl (cI, 6, .inl (S 5))), (a 6, .inl (cQ, 6, .inr (.inr (.inr (.inr (fun i => if i < 6 then some (a (7 + i)) else none)))))), (a 7, .inl (cI, 8, .inl (S 7))), (a 8, .inl (cI, 8, .inl (S 8))), (a 9, .inl (cI, 8, .inl (S 9))), (a 10, .inl (cI, 8, .inl (S 10))), (a 11, .inl (cI, 8, .inl (S 11))), (a 12, .inl (cI, 8, .inl (S 12)))]
/-- BellHushModel: rows 0 loud, 1 period, 2 beat, 3 now, 4 kept, 5 the numbers thrown, towers, traders; b 5 is the object -/
abbrev vwM (cI : ClassId) (b : Nat → Nat) (N : bS) : va_W := [(b 5, .inr (1, [.int (N 5 0), .int (N 5 1), .int (N 5 2), .ref (b 0), .ref (b 1), .ref (b 2), .ref (b 3), .ref (b 4)])), (b 0, .inl (cI, 8, .inl (N 0))), (b 1, .inl (cI, 8, .inl (N 1))), (b 2, .inl (cI, 8, .inl (N 2))), (b 3, .inl (cI, 71, .inl (N 3))), (b 4, .inl (cI, 71, .inl (N 4)))]
abbrev tyB (cI cQ : ClassId) : List (ClassId × FieldType) := [(cI, .int), (cQ, .array .int)]
def BW (D : va_G) (cI cQ : ClassId) (a : Nat → Nat) (S : bS) (U : State) (H : Heap) : Prop := va_K D vwCl (tyB cI cQ) U ∧ va_P D vwCl (vwB cI cQ a S) H ∧ ∀ i j : Nat, i < 14 → j < 14 → a i = a j → i = j
def MW (D : va_G) (cI : ClassId) (b : Nat → Nat) (N : bS) (U : State) (H : Heap) : Prop := va_K D vwCl [(cI, .int)] U ∧ va_P D vwCl (vwM cI b N) H ∧ ∀ i j : Nat, i < 6 → j < 6 → b i = b j → i = j
def inB (a : Nat → Nat) : Nat → Prop := fun q => ∃ k : Nat, k < 14 ∧ q = a k
def inM (b : Nat → Nat) : Nat → Prop := fun q => ∃ k : Nat, k < 6 ∧ q = b k
theorem up2_eq (S : bS) (k j : Nat) (v : Int32) : up2 S k j v k j = v := by simp [up2, upd]
theorem up2_ne (S : bS) {k j k' j' : Nat} (v : Int32) (h : k' ≠ k ∨ j' ≠ j) : up2 S k j v k' j' = S k' j' := by
  unfold up2 upd
  by_cases h1 : k' = k
  · rcases h with h | h
    · exact absurd h1 h
    · rw [if_pos h1, if_neg h]
  · rw [if_neg h1]
theorem vwB_at {cI cQ : ClassId} {a : Nat → Nat} {S : bS} : ∀ (i : Nat) (q : Nat × va_E), (vwB cI cQ a S)[i]? = some q → i < 14 ∧ q.1 = a ((i + 13) % 14)
  | 0, q, h => by cases h; exact ⟨by decide, rfl⟩
  | 1, q, h => by cases h; exact ⟨by decide, rfl⟩
  | 2, q, h => by cases h; exact ⟨by decide, rfl⟩
  | 3, q, h => by cases h; exact ⟨by decide, rfl⟩
  | 4, q, h => by cases h; exact ⟨by decide, rfl⟩
  | 5, q, h => by cases h; exact ⟨by decide, rfl⟩
  | 6, q, h => by cases h; exact ⟨by decide, rfl⟩
  | 7, q, h => by cases h; exact ⟨by decide, rfl⟩
  | 8, q, h => by cases h; exact ⟨by decide, rfl⟩
  | 9, q, h => by cases h; exact ⟨by decide, rfl⟩
  | 10, q, h => by cases h; exact ⟨by decide, rfl⟩
  | 11, q, h => by cases h; exact ⟨by decide, rfl⟩
  | 12, q, h => by cases h; exact ⟨by decide, rfl⟩
  | 13, q, h => by cases h; exact ⟨by decide, rfl⟩
  | i + 14, q, h => by simp at h
theorem vwM_at {cI : ClassId} {b : Nat → Nat} {N : bS} : ∀ (i : Nat) (q : Nat × va_E), (vwM cI b N)[i]? = some q → i < 6 ∧ q.1 = b ((i + 5) % 6)
  | 0, q, h => by cases h; exact ⟨by decide, rfl⟩
  | 1, q, h => by cases h; exact ⟨by decide, rfl⟩
  | 2, q, h => by cases h; exact ⟨by decide, rfl⟩
  | 3, q, h => by cases h; exact ⟨by decide, rfl⟩
  | 4, q, h => by cases h; exact ⟨by decide, rfl⟩
  | 5, q, h => by cases h; exact ⟨by decide, rfl⟩
  | i + 6, q, h => by simp at h
theorem BW.D {D : va_G} {cI cQ : ClassId} {a : Nat → Nat} {S : bS} {U : State} {H : Heap} (h : BW D cI cQ a S U H) : va_D (inB a) (vwB cI cQ a S) := by
  refine ⟨fun i j p q hi hj hpq => ?_, fun k q hk => ?_⟩
  · obtain ⟨h1, h2⟩ := vwB_at i p hi
    obtain ⟨h3, h4⟩ := vwB_at j q hj
    have h5 := h.2.2 ((i + 13) % 14) ((j + 13) % 14) (Nat.mod_lt _ (by decide)) (Nat.mod_lt _ (by decide)) (by rw [← h2, ← h4]; exact hpq)
    omega
  · obtain ⟨h1, h2⟩ := vwB_at k q hk
    exact ⟨_, Nat.mod_lt _ (by decide), h2⟩
theorem MW.D {D : va_G} {cI : ClassId} {b : Nat → Nat} {N : bS} {U : State} {H : Heap} (h : MW D cI b N U H) : va_D (inM b) (vwM cI b N) := by
  refine ⟨fun i j p q hi hj hpq => ?_, fun k q hk => ?_⟩
  · obtain ⟨h1, h2⟩ := vwM_at i p hi
    obtain ⟨h3, h4⟩ := vwM_at j q hj
    have h5 := h.2.2 ((i + 5) % 6) ((j + 5) % 6) (Nat.mod_lt _ (by decide)) (Nat.mod_lt _ (by decide)) (by rw [← h2, ← h4]; exact hpq)
    omega
  · obtain ⟨h1, h2⟩ := vwM_at k q hk
    exact ⟨_, Nat.mod_lt _ (by decide), h2⟩
theorem vwB_row {cI cQ : ClassId} {a : Nat → Nat} {S : bS} : ∀ r : Nat, r < 6 → (vwB cI cQ a S)[8 + r]? = some (a (7 + r), .inl (cI, 8, .inl (S (7 + r))))
  | 0, _ => rfl
  | 1, _ => rfl
  | 2, _ => rfl
  | 3, _ => rfl
  | 4, _ => rfl
  | 5, _ => rfl
  | r + 6, h => absurd h (by omega)
theorem vwB_setrow {cI cQ : ClassId} {a : Nat → Nat} {S : bS} {j : Nat} {x : Int32} : ∀ r : Nat, r < 6 → (vwB cI cQ a S).set (8 + r) (a (7 + r), .inl (cI, 8, .inl (upd (S (7 + r)) j x))) = vwB cI cQ a (up2 S (7 + r) j x)
  | 0, _ => rfl
  | 1, _ => rfl
  | 2, _ => rfl
  | 3, _ => rfl
  | 4, _ => rfl
  | 5, _ => rfl
  | r + 6, h => absurd h (by omega)
theorem BW.moved {D : va_G} {cI cQ : ClassId} {a : Nat → Nat} {S : bS} {u U : State} {H : Heap} (hvm : u.vm.Alike U.vm) (h : BW D cI cQ a S u H) : BW D cI cQ a S U H := ⟨va_K.moved hvm h.1, h.2⟩
theorem MW.moved {D : va_G} {cI : ClassId} {b : Nat → Nat} {N : bS} {u U : State} {H : Heap} (hvm : u.vm.Alike U.vm) (h : MW D cI b N u H) : MW D cI b N U H := ⟨va_K.moved hvm h.1, h.2⟩
theorem BW.kept {D : va_G} {cI cQ : ClassId} {a : Nat → Nat} {S : bS} {U : State} {H H1 : Heap} (h : BW D cI cQ a S U H) (hq : ∀ k : Nat, k < 14 → H1[a k]? = H[a k]?) : BW D cI cQ a S U H1 := ⟨h.1, h.2.1.kept (fun k q hk => by obtain ⟨-, h2⟩ := vwB_at k q hk; rw [h2]; exact hq _ (Nat.mod_lt _ (by decide))), h.2.2⟩
theorem MW.kept {D : va_G} {cI : ClassId} {b : Nat → Nat} {N : bS} {U : State} {H H1 : Heap} (h : MW D cI b N U H) (hq : ∀ k : Nat, k < 6 → H1[b k]? = H[b k]?) : MW D cI b N U H1 := ⟨h.1, h.2.1.kept (fun k q hk => by obtain ⟨-, h2⟩ := vwM_at k q hk; rw [h2]; exact hq _ (Nat.mod_lt _ (by decide))), h.2.2⟩
theorem BW.lt {D : va_G} {cI cQ : ClassId} {a : Nat → Nat} {S : bS} {U : State} {H : Heap} (h : BW D cI cQ a S U H) : ∀ k : Nat, k < 14 → a k < H.size := by
  intro k hk
  have hl : ((k + 1) % 14) < (vwB cI cQ a S).length := by show _ < 14; omega
  have h1 := h.2.1 ((k + 1) % 14) _ (List.getElem?_eq_getElem hl)
  have h2 := (vwB_at ((k + 1) % 14) _ (List.getElem?_eq_getElem hl)).2
  have h3 := h1.lt
  rw [h2, show ((k + 1) % 14 + 13) % 14 = k by omega] at h3
  exact h3
theorem MW.lt {D : va_G} {cI : ClassId} {b : Nat → Nat} {N : bS} {U : State} {H : Heap} (h : MW D cI b N U H) : ∀ k : Nat, k < 6 → b k < H.size := by
  intro k hk
  have hl : ((k + 1) % 6) < (vwM cI b N).length := by show _ < 6; omega
  have h1 := h.2.1 ((k + 1) % 6) _ (List.getElem?_eq_getElem hl)
  have h2 := (vwM_at ((k + 1) % 6) _ (List.getElem?_eq_getElem hl)).2
  have h3 := h1.lt
  rw [h2, show ((k + 1) % 6 + 5) % 6 = k by omega] at h3
  exact h3
theorem nI_0' : (0 : Int32) = nI 0 := nI_0.symm
theorem nadd {x y : Int32} {i j : Nat} (hx : x = nI i) (hy : y = nI j) : x + y = nI (i + j) := by rw [hx, hy, nI_add]
theorem nmul {x y : Int32} {i j : Nat} (hx : x = nI i) (hy : y = nI j) : x * y = nI (i * j) := by rw [hx, hy, pk_mul]
theorem ninc (i : Nat) : nI i + Int32.ofInt 1 = nI (i + 1) := nI_1 i
theorem ncl {i : Nat} (h : i < 8) : (nI i).toNatClampNeg = i := nI_clamp (by omega)
theorem ncl71 {i : Nat} (h : i < 71) : (nI i).toNatClampNeg = i := nI_clamp (by omega)
theorem nin {i n : Nat} (h : i < n) (hn : n ≤ 71) : vp_in (nI i) n := vp_in_nI h (by omega)
theorem good_all : wsL_law.all goodWord = true := by decide +kernel
theorem good_in {ws : List Cond} (h : ∀ w ∈ ws, w ∈ wsL_law) : GoodIn wsL_law ws := fun w hw => ⟨h w hw, good_of_word (List.all_eq_true.mp good_all w (h w hw))⟩
/-- the words of a method: its own code, and all words -/
abbrev wq (y : MethodName) (bytes : ByteArray) (n : Nat) (ret : Option FieldType) : List Cond := .code y bytes n ret :: wsL_law
theorem good_V {own C : String} {idx n : Nat} {y : MethodName} {bytes : ByteArray} {ret : Option FieldType} (h1 : Cond.methodLink own idx y ∈ wsL_law) (h2 : Cond.instanceMethod y ∈ wsL_law) (h3 : Cond.selects C y y ∈ wsL_law) (h4 : Cond.initialized C ∈ wsL_law) (h5 : Cond.code y bytes n ret ∈ wsL_law) : GoodIn wsL_law (wsV own idx C y (wq y bytes n ret)) := by
  refine good_in fun w hw => ?_
  simp only [wsV, wq, List.cons_append, List.nil_append, List.mem_cons] at hw
  rcases hw with rfl | rfl | rfl | rfl | rfl | h
  · exact h1
  · exact h2
  · exact h3
  · exact h4
  · exact h5
  · exact h
theorem good_S {own : String} {idx n : Nat} {y : MethodName} {bytes : ByteArray} {ret : Option FieldType} (h1 : Cond.methodLink own idx y ∈ wsL_law) (h2 : Cond.static y ∈ wsL_law) (h4 : Cond.initialized y.cls ∈ wsL_law) (h5 : Cond.code y bytes n ret ∈ wsL_law) : GoodIn wsL_law (va_wsS own idx y (wq y bytes n ret)) := by
  refine good_in fun w hw => ?_
  simp only [va_wsS, wq, List.cons_append, List.nil_append, List.mem_cons] at hw
  rcases hw with rfl | rfl | rfl | rfl | h
  · exact h1
  · exact h2
  · exact h4
  · exact h5
  · exact h
/-- a method that returns v and changes nothing -/
def Rd (l : Launch) (y : MethodName) (bytes : ByteArray) (n : Nat) (ret : Option FieldType) (rm : Room) (Wd : State → Heap → Prop) (As : List Value) (v : Value) : Prop := Met l y (wq y bytes n ret) rm (va_Pc As (fun U => Wd U U.heap)) (k2_QcV v) 0 0 (fun _ => False)
/-- a method that returns nothing and changes nothing -/
def Rn (l : Launch) (y : MethodName) (bytes : ByteArray) (n : Nat) (ret : Option FieldType) (rm : Room) (Wd : State → Heap → Prop) (As : List Value) : Prop := Met l y (wq y bytes n ret) rm (va_Pc As (fun U => Wd U U.heap)) (va_Sv (fun _ => True)) 0 0 (fun _ => False)
/-- a method that returns v and leaves the world Wd', changing cells of A alone -/
def qW (v : Option Value) (Wd : State → Heap → Prop) (A : Nat → Prop) : Array Value → State → Outcome → State → Prop := fun _ st oc t => oc = .returned v ∧ Wd t t.heap ∧ va_F A st t
def Wr (l : Launch) (y : MethodName) (bytes : ByteArray) (n : Nat) (ret : Option FieldType) (rm : Room) (Wd Wd' : State → Heap → Prop) (A : Nat → Prop) (As : List Value) (v : Option Value) (mc ms : Nat) : Prop := Met l y (wq y bytes n ret) rm (va_Pc As (fun U => Wd U U.heap)) (qW v Wd' A) mc ms A
/-- a world that a table's warming doesn't change -/
def Mov (Wd : State → Heap → Prop) : Prop := ∀ (u U : State) (H : Heap), u.vm.Alike U.vm → Wd u H → Wd U H
theorem mov_B {D : va_G} {cI cQ : ClassId} {a : Nat → Nat} {S : bS} : Mov (BW D cI cQ a S) := fun _ _ _ hvm h => h.moved hvm
theorem mov_M {D : va_G} {cI : ClassId} {b : Nat → Nat} {N : bS} : Mov (MW D cI b N) := fun _ _ _ hvm h => h.moved hvm
theorem mov_T : Mov (fun _ _ => True) := fun _ _ _ _ _ => trivial
theorem blind {Wd : State → Heap → Prop} {As : List Value} (hm : Mov Wd) : FrameBlind (va_Pc As (fun U => Wd U U.heap)) := fun a U g mk h => ⟨h.1, hm U (U.calling g mk a) U.heap (Vm.Alike.refl U.vm) h.2⟩
theorem Rd.of {l : Launch} {y : MethodName} {bytes : ByteArray} {n : Nat} {ret : Option FieldType} {rm : Room} {Wd : State → Heap → Prop} {As : List Value} {v : Value} (hy : plainName y.cls = true) (hn : (lg_sl As).length ≤ n)
    (body : ∀ (p : Program) (e : Env) (s : State) (m : MethodId) (args : Array Value) (below : List Frame) (meth : Method) (c : Code) (ls : Array Slot), CallFix p m c bytes n s args wsL_law y.cls → meth.sig.returnType = ret → meth.locks = false → Wd s s.heap → lv_has ls n (lv_args 0 As) →
      W p l e rm s m args below meth c s.heap [] 0 0 (MQ below (k2_QcV v) args s 0 0 (fun _ => False)) (F0 m 0 ls [])) : Rd l y bytes n ret rm Wd As v := by
  refine Met.ofW (cc := bytes) (maxL := n) (ret := ret) hy rfl ?_
  intro p e s m args below meth c s₁ B hml hv
  obtain ⟨rfl, hw⟩ := hv
  have hl := lv_entry As (n := n) hn
  rw [lg_entry_eq]
  exact body p e s m _ below meth c _ ⟨B.exec, B.bytes, hml, findClass_of_methodNamed B.named, fun w h => atoms_spec (ws := wq y bytes n ret) B.pre w (List.mem_cons_of_mem _ h)⟩ B.returns B.notSynchronized hw hl
theorem Rn.of {l : Launch} {y : MethodName} {bytes : ByteArray} {n : Nat} {ret : Option FieldType} {rm : Room} {Wd : State → Heap → Prop} {As : List Value} (hy : plainName y.cls = true) (hn : (lg_sl As).length ≤ n)
    (body : ∀ (p : Program) (e : Env) (s : State) (m : MethodId) (args : Array Value) (below : List Frame) (meth : Method) (c : Code) (ls : Array Slot), CallFix p m c bytes n s args wsL_law y.cls → meth.sig.returnType = ret → meth.locks = false → Wd s s.heap → lv_has ls n (lv_args 0 As) →
      W p l e rm s m args below meth c s.heap [] 0 0 (MQ below (va_Sv (fun _ => True)) args s 0 0 (fun _ => False)) (F0 m 0 ls [])) : Rn l y bytes n ret rm Wd As := by
  refine Met.ofW (cc := bytes) (maxL := n) (ret := ret) hy rfl ?_
  intro p e s m args below meth c s₁ B hml hv
  obtain ⟨rfl, hw⟩ := hv
  have hl := lv_entry As (n := n) hn
  rw [lg_entry_eq]
  exact body p e s m _ below meth c _ ⟨B.exec, B.bytes, hml, findClass_of_methodNamed B.named, fun w h => atoms_spec (ws := wq y bytes n ret) B.pre w (List.mem_cons_of_mem _ h)⟩ B.returns B.notSynchronized hw hl
theorem Wr.of {l : Launch} {y : MethodName} {bytes : ByteArray} {n : Nat} {ret : Option FieldType} {rm : Room} {Wd Wd' : State → Heap → Prop} {A : Nat → Prop} {As : List Value} {v : Option Value} {mc ms : Nat} (hy : plainName y.cls = true) (hn : (lg_sl As).length ≤ n)
    (body : ∀ (p : Program) (e : Env) (s : State) (m : MethodId) (args : Array Value) (below : List Frame) (meth : Method) (c : Code) (ls : Array Slot), CallFix p m c bytes n s args wsL_law y.cls → meth.sig.returnType = ret → meth.locks = false → Wd s s.heap → va_S A s.heap s.heap [] → lv_has ls n (lv_args 0 As) →
      W p l e rm s m args below meth c s.heap [] 0 0 (MQ below (qW v Wd' A) args s mc ms A) (F0 m 0 ls [])) : Wr l y bytes n ret rm Wd Wd' A As v mc ms := by
  refine Met.ofW (cc := bytes) (maxL := n) (ret := ret) hy rfl ?_
  intro p e s m args below meth c s₁ B hml hv
  obtain ⟨rfl, hw⟩ := hv
  have hl := lv_entry As (n := n) hn
  rw [lg_entry_eq]
  exact body p e s m _ below meth c _ ⟨B.exec, B.bytes, hml, findClass_of_methodNamed B.named, fun w h => atoms_spec (ws := wq y bytes n ret) B.pre w (List.mem_cons_of_mem _ h)⟩ B.returns B.notSynchronized hw va_S.rf hl
section BK
variable {p : Program} {l : Launch} {e : Env} {R : Room} {s : State} {m : MethodId} {args : Array Value} {below : List Frame} {meth : Method} {c : Code} {H : Heap} {locs : List Loc} {cells slots : Nat} {Q : State → Prop}
variable {cc bytes : ByteArray} {pc nL n index : Nat} {ls : Array Slot} {rest st0 : List Value} {y : MethodName} {ret : Option FieldType} {rm : Room} {own C : String} {As : List Value} {b0 : Nat} {A A0 : Nat → Prop} {H0 : Heap}
/-- a call of a method of an object that changes nothing -/
theorem kV {Wd : State → Heap → Prop} {v : Value} (hC : CallFix p m c cc nL s args wsL_law own) (hM : Rd l y bytes n ret rm Wd (.ref b0 :: As) v) (hm : Mov Wd) (hW : Wd s H) (hrec : ∃ cell : Cell, H[b0]? = some cell ∧ cell.vm.isStatics = false ∧ s.vm.findClass C = some cell.cls) (hG : GoodIn wsL_law (wsV own index C y (wq y bytes n ret))) (hrc : rm.cells = 0) (hrs : rm.slots = 0)
    (hd : y.cls = C ∧ y.cls ≠ "java/lang/invoke/MethodHandle" ∧ y.cls ≠ "java/lang/invoke/VarHandle" ∧ (parseMethodDescriptor y.desc).map (fun d => d.parameters.length) = some As.length) (hR : rm.frames + 1 ≤ R.frames ∧ 8 + (n + 11) + rm.locals ≤ R.locals) (hf : cells ≤ R.cells ∧ slots ≤ R.slots) (hls : ls.size = nL) (hst : st0 = As.reverse ++ .ref b0 :: rest) (hr8 : (rest.map fun v => v.category).sum ≤ 8) (hdg : decode cc pc = .ok (.invokevirtual index, 3))
    (kk : W p l e R s m args below meth c H locs cells slots Q (F0 m (pc + 3) ls (v :: rest))) : W p l e R s m args below meth c H locs cells slots Q (F0 m pc ls st0) :=
  W.callV (W.runV (As := As) (rest := rest) hC hM (cwV As.length hC.2.2.2.2 hG rfl hrc hrs hd hR) ⟨blind hm, hrec, fun U hU hW1 => ⟨rfl, by show Wd U U.heap; rw [hU]; exact hm s U H hW1.alike hW⟩⟩ rfl rfl hls hst (lv_room hr8) hdg hf) kk
theorem kS {Wd : State → Heap → Prop} {v : Value} (hC : CallFix p m c cc nL s args wsL_law own) (hM : Rd l y bytes n ret rm Wd As v) (hm : Mov Wd) (hW : Wd s H) (hG : GoodIn wsL_law (va_wsS own index y (wq y bytes n ret))) (hrc : rm.cells = 0) (hrs : rm.slots = 0)
    (hd : y.cls ≠ "java/lang/invoke/MethodHandle" ∧ y.cls ≠ "java/lang/invoke/VarHandle" ∧ (parseMethodDescriptor y.desc).map (fun d => d.parameters.length) = some As.length) (hR : rm.frames + 1 ≤ R.frames ∧ 8 + (n + 11) + rm.locals ≤ R.locals) (hf : cells ≤ R.cells ∧ slots ≤ R.slots) (hls : ls.size = nL) (hst : st0 = As.reverse ++ rest) (hr8 : (rest.map fun v => v.category).sum ≤ 8) (hdg : decode cc pc = .ok (.invokestatic index, 3))
    (kk : W p l e R s m args below meth c H locs cells slots Q (F0 m (pc + 3) ls (v :: rest))) : W p l e R s m args below meth c H locs cells slots Q (F0 m pc ls st0) :=
  W.callV (W.runS (As := As) (rest := rest) hC hM (va_cwS As.length hC.2.2.2.2 hG rfl hrc hrs hd hR) ⟨blind hm, fun U hU hW1 => ⟨rfl, by show Wd U U.heap; rw [hU]; exact hm s U H hW1.alike hW⟩⟩ rfl rfl hls hst (lv_room hr8) hdg hf) kk
theorem kVn {Wd : State → Heap → Prop} (hC : CallFix p m c cc nL s args wsL_law own) (hM : Rn l y bytes n ret rm Wd (.ref b0 :: As)) (hm : Mov Wd) (hW : Wd s H) (hrec : ∃ cell : Cell, H[b0]? = some cell ∧ cell.vm.isStatics = false ∧ s.vm.findClass C = some cell.cls) (hG : GoodIn wsL_law (wsV own index C y (wq y bytes n ret))) (hrc : rm.cells = 0) (hrs : rm.slots = 0)
    (hd : y.cls = C ∧ y.cls ≠ "java/lang/invoke/MethodHandle" ∧ y.cls ≠ "java/lang/invoke/VarHandle" ∧ (parseMethodDescriptor y.desc).map (fun d => d.parameters.length) = some As.length) (hR : rm.frames + 1 ≤ R.frames ∧ 8 + (n + 11) + rm.locals ≤ R.locals) (hf : cells ≤ R.cells ∧ slots ≤ R.slots) (hls : ls.size = nL) (hst : st0 = As.reverse ++ .ref b0 :: rest) (hr8 : (rest.map fun v => v.category).sum ≤ 8) (hdg : decode cc pc = .ok (.invokevirtual index, 3))
    (kk : W p l e R s m args below meth c H locs cells slots Q (F0 m (pc + 3) ls rest)) : W p l e R s m args below meth c H locs cells slots Q (F0 m pc ls st0) :=
  va_csv (W.runV (As := As) (rest := rest) hC hM (cwV As.length hC.2.2.2.2 hG rfl hrc hrs hd hR) ⟨blind hm, hrec, fun U hU hW1 => ⟨rfl, by show Wd U U.heap; rw [hU]; exact hm s U H hW1.alike hW⟩⟩ rfl rfl hls hst (lv_room hr8) hdg hf) (fun _ => kk)
theorem kSn {Wd : State → Heap → Prop} (hC : CallFix p m c cc nL s args wsL_law own) (hM : Rn l y bytes n ret rm Wd As) (hm : Mov Wd) (hW : Wd s H) (hG : GoodIn wsL_law (va_wsS own index y (wq y bytes n ret))) (hrc : rm.cells = 0) (hrs : rm.slots = 0)
    (hd : y.cls ≠ "java/lang/invoke/MethodHandle" ∧ y.cls ≠ "java/lang/invoke/VarHandle" ∧ (parseMethodDescriptor y.desc).map (fun d => d.parameters.length) = some As.length) (hR : rm.frames + 1 ≤ R.frames ∧ 8 + (n + 11) + rm.locals ≤ R.locals) (hf : cells ≤ R.cells ∧ slots ≤ R.slots) (hls : ls.size = nL) (hst : st0 = As.reverse ++ rest) (hr8 : (rest.map fun v => v.category).sum ≤ 8) (hdg : decode cc pc = .ok (.invokestatic index, 3))
    (kk : W p l e R s m args below meth c H locs cells slots Q (F0 m (pc + 3) ls rest)) : W p l e R s m args below meth c H locs cells slots Q (F0 m pc ls st0) :=
  va_csv (W.runS (As := As) (rest := rest) hC hM (va_cwS As.length hC.2.2.2.2 hG rfl hrc hrs hd hR) ⟨blind hm, fun U hU hW1 => ⟨rfl, by show Wd U U.heap; rw [hU]; exact hm s U H hW1.alike hW⟩⟩ rfl rfl hls hst (lv_room hr8) hdg hf) (fun _ => kk)
/-- a call of a method of an object that may change its cells -/
theorem kVw {Wd Wd' : State → Heap → Prop} {v : Option Value} {mc ms : Nat} (hC : CallFix p m c cc nL s args wsL_law own) (hM : Wr l y bytes n ret rm Wd Wd' A (.ref b0 :: As) v mc ms) (hm : Mov Wd) (hm' : Mov Wd') (hW : Wd s H) (hrec : ∃ cell : Cell, H[b0]? = some cell ∧ cell.vm.isStatics = false ∧ s.vm.findClass C = some cell.cls) (hG : GoodIn wsL_law (wsV own index C y (wq y bytes n ret))) (hrc : rm.cells = mc) (hrs : rm.slots = ms)
    (hd : y.cls = C ∧ y.cls ≠ "java/lang/invoke/MethodHandle" ∧ y.cls ≠ "java/lang/invoke/VarHandle" ∧ (parseMethodDescriptor y.desc).map (fun d => d.parameters.length) = some As.length) (hR : rm.frames + 1 ≤ R.frames ∧ 8 + (n + 11) + rm.locals ≤ R.locals) (hf : cells + mc ≤ R.cells ∧ slots + ms ≤ R.slots) (hS : va_S A0 H0 H locs) (hA : ∀ q, A q → A0 q) (hls : ls.size = nL) (hst : st0 = As.reverse ++ .ref b0 :: rest) (hr8 : (rest.map fun v => v.category).sum ≤ 8) (hdg : decode cc pc = .ok (.invokevirtual index, 3))
    (kk : ∀ (H1 : Heap) (locs1 : List Loc), Wd' s H1 → va_S A0 H0 H1 locs1 → H.size ≤ H1.size → (∀ q : Nat, q < H.size → ¬ A q → H1[q]? = H[q]?) → W p l e R s m args below meth c H1 locs1 (cells + mc) (slots + ms) Q (F0 m (pc + 3) ls (v.toList ++ rest))) : W p l e R s m args below meth c H locs cells slots Q (F0 m pc ls st0) := by
  have hr := va_runV (e := e) (As := As) (rest := rest) (locs := locs) (cells := cells) (slots := slots) (below := below) (meth := meth) hC hM (cwV As.length hC.2.2.2.2 hG rfl hrc hrs hd hR) ⟨blind hm, hrec, fun U hU hW1 => ⟨rfl, by show Wd U U.heap; rw [hU]; exact hm s U H hW1.alike hW⟩⟩ (g := F0 m pc ls st0) rfl rfl hls hst (lv_room hr8) hdg hf
  intro T hT X
  obtain ⟨v', st₀, t, T', L, h0, X', hL, e1, e2, ⟨hv, hb, hz, hk⟩, st⟩ := hr T hT X
  cases hv
  rw [h0] at hz hk
  obtain ⟨t2, a1, b1⟩ := kk T'.heap (locs ++ L) (by rw [e1]; exact hm' t s t.heap (by rw [← e2]; exact X'.warmed.alike.symm) hb)
    ⟨Nat.le_trans hS.1 (by rw [e1]; exact hz), fun q h1 h2 => by rw [e1, hk q (Nat.lt_of_lt_of_le h1 hS.1) (fun z => h2 (hA q z))]; exact hS.2.1 q h1 h2, fun q hq => by
      rcases List.mem_append.mp hq with h | h
      · exact hS.2.2 q h
      · exact hA _ (hL q h)⟩ (by rw [e1]; exact hz) (fun q h1 h2 => by rw [e1]; exact hk q h1 h2) T' rfl X'
  exact ⟨t2, st t2 a1, b1⟩
theorem rd_i {v v' : Int32} (hC : CallFix p m c cc nL s args wsL_law own) (hr : meth.sig.returnType = some .int) (hlocks : meth.locks = false) (hdg : decode cc pc = .ok (.ireturn, 1)) (hv : v' = v) : W p l e R s m args below meth c s.heap [] 0 0 (MQ below (k2_QcV (.int v)) args s 0 0 (fun _ => False)) (F0 m pc ls [.int v']) := by
  subst hv
  exact W.iret hC.1 hC.2.1 hr (fun t ht hW => ⟨rfl, ht⟩) (fun q hq => absurd hq List.not_mem_nil) hdg hlocks
theorem rd_z {v v' : Int32} (hC : CallFix p m c cc nL s args wsL_law own) (hr : meth.sig.returnType = some .boolean) (hlocks : meth.locks = false) (hn : narrow .boolean (.int v') = .int v') (hdg : decode cc pc = .ok (.ireturn, 1)) (hv : v' = v) : W p l e R s m args below meth c s.heap [] 0 0 (MQ below (k2_QcV (.int v)) args s 0 0 (fun _ => False)) (F0 m pc ls [.int v']) := by
  subst hv
  exact W.zret hC.1 hC.2.1 hr hn (fun t ht hW => ⟨rfl, ht⟩) (fun q hq => absurd hq List.not_mem_nil) hdg hlocks
theorem rd_l {v v' : Int64} (hC : CallFix p m c cc nL s args wsL_law own) (hr : meth.sig.returnType = some .long) (hlocks : meth.locks = false) (hdg : decode cc pc = .ok (.lreturn, 1)) (hv : v' = v) : W p l e R s m args below meth c s.heap [] 0 0 (MQ below (k2_QcV (.long v)) args s 0 0 (fun _ => False)) (F0 m pc ls [.long v']) := by
  subst hv
  exact W.lret hC.1 hC.2.1 hr (fun t ht hW => ⟨rfl, ht⟩) (fun q hq => absurd hq List.not_mem_nil) hdg hlocks
theorem rd_d {v v' : UInt64} (hC : CallFix p m c cc nL s args wsL_law own) (hr : meth.sig.returnType = some .double) (hlocks : meth.locks = false) (hdg : decode cc pc = .ok (.dreturn, 1)) (hv : v' = v) : W p l e R s m args below meth c s.heap [] 0 0 (MQ below (k2_QcV (.double v)) args s 0 0 (fun _ => False)) (F0 m pc ls [.double v']) := by
  subst hv
  exact W.dret hC.1 hC.2.1 hr (fun t ht hW => ⟨rfl, ht⟩) (fun q hq => absurd hq List.not_mem_nil) hdg hlocks
theorem rd_v (hC : CallFix p m c cc nL s args wsL_law own) (hr : meth.sig.returnType = none) (hlocks : meth.locks = false) (hdg : decode cc pc = .ok (.return_, 1)) : W p l e R s m args below meth c s.heap [] 0 0 (MQ below (va_Sv (fun _ => True)) args s 0 0 (fun _ => False)) (F0 m pc ls []) :=
  W.vret hC.1 hC.2.1 hr (fun t ht hW => ⟨rfl, trivial, ht⟩) (fun q hq => absurd hq List.not_mem_nil) hdg hlocks
theorem wr_i {Wd : State → Heap → Prop} {v v' : Int32} {mc ms : Nat} (hC : CallFix p m c cc nL s args wsL_law own) (hr : meth.sig.returnType = some .int) (hlocks : meth.locks = false) (hm : Mov Wd) (hW : Wd s H) (hS : va_S A s.heap H locs) (hdg : decode cc pc = .ok (.ireturn, 1)) (hv : v' = v) : W p l e R s m args below meth c H locs mc ms (MQ below (qW (some (.int v)) Wd A) args s mc ms A) (F0 m pc ls [.int v']) := by
  subst hv
  exact W.iret hC.1 hC.2.1 hr (fun t ht hW1 => ⟨rfl, by rw [ht]; exact hm s t H hW1.alike hW, hS.F ht⟩) hS.2.2 hdg hlocks
theorem wr_z {Wd : State → Heap → Prop} {v v' : Int32} {mc ms : Nat} (hC : CallFix p m c cc nL s args wsL_law own) (hr : meth.sig.returnType = some .boolean) (hlocks : meth.locks = false) (hm : Mov Wd) (hW : Wd s H) (hS : va_S A s.heap H locs) (hn : narrow .boolean (.int v') = .int v') (hdg : decode cc pc = .ok (.ireturn, 1)) (hv : v' = v) : W p l e R s m args below meth c H locs mc ms (MQ below (qW (some (.int v)) Wd A) args s mc ms A) (F0 m pc ls [.int v']) := by
  subst hv
  exact W.zret hC.1 hC.2.1 hr hn (fun t ht hW1 => ⟨rfl, by rw [ht]; exact hm s t H hW1.alike hW, hS.F ht⟩) hS.2.2 hdg hlocks
theorem wr_l {Wd : State → Heap → Prop} {v v' : Int64} {mc ms : Nat} (hC : CallFix p m c cc nL s args wsL_law own) (hr : meth.sig.returnType = some .long) (hlocks : meth.locks = false) (hm : Mov Wd) (hW : Wd s H) (hS : va_S A s.heap H locs) (hdg : decode cc pc = .ok (.lreturn, 1)) (hv : v' = v) : W p l e R s m args below meth c H locs mc ms (MQ below (qW (some (.long v)) Wd A) args s mc ms A) (F0 m pc ls [.long v']) := by
  subst hv
  exact W.lret hC.1 hC.2.1 hr (fun t ht hW1 => ⟨rfl, by rw [ht]; exact hm s t H hW1.alike hW, hS.F ht⟩) hS.2.2 hdg hlocks
theorem wr_d {Wd : State → Heap → Prop} {v v' : UInt64} {mc ms : Nat} (hC : CallFix p m c cc nL s args wsL_law own) (hr : meth.sig.returnType = some .double) (hlocks : meth.locks = false) (hm : Mov Wd) (hW : Wd s H) (hS : va_S A s.heap H locs) (hdg : decode cc pc = .ok (.dreturn, 1)) (hv : v' = v) : W p l e R s m args below meth c H locs mc ms (MQ below (qW (some (.double v)) Wd A) args s mc ms A) (F0 m pc ls [.double v']) := by
  subst hv
  exact W.dret hC.1 hC.2.1 hr (fun t ht hW1 => ⟨rfl, by rw [ht]; exact hm s t H hW1.alike hW, hS.F ht⟩) hS.2.2 hdg hlocks
theorem wr_v {Wd : State → Heap → Prop} {mc ms : Nat} (hC : CallFix p m c cc nL s args wsL_law own) (hr : meth.sig.returnType = none) (hlocks : meth.locks = false) (hm : Mov Wd) (hW : Wd s H) (hS : va_S A s.heap H locs) (hdg : decode cc pc = .ok (.return_, 1)) : W p l e R s m args below meth c H locs mc ms (MQ below (qW none Wd A) args s mc ms A) (F0 m pc ls []) :=
  W.vret hC.1 hC.2.1 hr (fun t ht hW1 => ⟨rfl, by rw [ht]; exact hm s t H hW1.alike hW, hS.F ht⟩) hS.2.2 hdg hlocks
/-- branches over numbers -/
theorem jge {i j : Nat} {x y : Int32} {off : Int} {tgt : Nat} (hC : CallFix p m c cc nL s args wsL_law own) (hdg : decode cc pc = .ok (.if_icmp .ge off, 3)) (ht : (pc : Int) + off = (tgt : Int)) (hx : x = nI i) (hy : y = nI j) (hi : i < 2 ^ 31) (hj : j < 2 ^ 31)
    (kt : j ≤ i → W p l e R s m args below meth c H locs cells slots Q (F0 m tgt ls rest)) (kf : i < j → W p l e R s m args below meth c H locs cells slots Q (F0 m (pc + 3) ls rest)) : W p l e R s m args below meth c H locs cells slots Q (F0 m pc ls (.int y :: .int x :: rest)) := by
  subst hx
  subst hy
  exact lv_icmp_ge hC.1 hC.2.1 hdg ht (fun h => kt ((nI_leI hj hi).mp h)) (fun h => kf (Nat.lt_of_not_le fun q => h ((nI_leI hj hi).mpr q)))
theorem jlt {i j : Nat} {x y : Int32} {off : Int} {tgt : Nat} (hC : CallFix p m c cc nL s args wsL_law own) (hdg : decode cc pc = .ok (.if_icmp .lt off, 3)) (ht : (pc : Int) + off = (tgt : Int)) (hx : x = nI i) (hy : y = nI j) (hi : i < 2 ^ 31) (hj : j < 2 ^ 31)
    (kt : i < j → W p l e R s m args below meth c H locs cells slots Q (F0 m tgt ls rest)) (kf : j ≤ i → W p l e R s m args below meth c H locs cells slots Q (F0 m (pc + 3) ls rest)) : W p l e R s m args below meth c H locs cells slots Q (F0 m pc ls (.int y :: .int x :: rest)) := by
  subst hx
  subst hy
  exact lv_icmp_lt hC.1 hC.2.1 hdg ht (fun h => kt ((nI_ltI hi hj).mp h)) (fun h => kf (Nat.le_of_not_lt fun q => h ((nI_ltI hi hj).mpr q)))
theorem jgt {i j : Nat} {x y : Int32} {off : Int} {tgt : Nat} (hC : CallFix p m c cc nL s args wsL_law own) (hdg : decode cc pc = .ok (.if_icmp .gt off, 3)) (ht : (pc : Int) + off = (tgt : Int)) (hx : x = nI i) (hy : y = nI j) (hi : i < 2 ^ 31) (hj : j < 2 ^ 31)
    (kt : j < i → W p l e R s m args below meth c H locs cells slots Q (F0 m tgt ls rest)) (kf : i ≤ j → W p l e R s m args below meth c H locs cells slots Q (F0 m (pc + 3) ls rest)) : W p l e R s m args below meth c H locs cells slots Q (F0 m pc ls (.int y :: .int x :: rest)) := by
  subst hx
  subst hy
  exact lv_icmp_gt hC.1 hC.2.1 hdg ht (fun h => kt ((nI_ltI hj hi).mp h)) (fun h => kf (Nat.le_of_not_lt fun q => h ((nI_ltI hj hi).mpr q)))
theorem jle {i j : Nat} {x y : Int32} {off : Int} {tgt : Nat} (hC : CallFix p m c cc nL s args wsL_law own) (hdg : decode cc pc = .ok (.if_icmp .le off, 3)) (ht : (pc : Int) + off = (tgt : Int)) (hx : x = nI i) (hy : y = nI j) (hi : i < 2 ^ 31) (hj : j < 2 ^ 31)
    (kt : i ≤ j → W p l e R s m args below meth c H locs cells slots Q (F0 m tgt ls rest)) (kf : j < i → W p l e R s m args below meth c H locs cells slots Q (F0 m (pc + 3) ls rest)) : W p l e R s m args below meth c H locs cells slots Q (F0 m pc ls (.int y :: .int x :: rest)) := by
  subst hx
  subst hy
  exact lv_icmp_le hC.1 hC.2.1 hdg ht (fun h => kt ((nI_leI hi hj).mp h)) (fun h => kf (Nat.lt_of_not_le fun q => h ((nI_leI hi hj).mpr q)))
theorem xadd {x y v : Int32} (hC : CallFix p m c cc nL s args wsL_law own) (hdg : decode cc pc = .ok (.iadd, 1)) (hv : x + y = v) (k : W p l e R s m args below meth c H locs cells slots Q (F0 m (pc + 1) ls (.int v :: rest))) : W p l e R s m args below meth c H locs cells slots Q (F0 m pc ls (.int y :: .int x :: rest)) := by
  subst hv
  exact lv_iadd hC.1 hC.2.1 hdg k
theorem xsub {x y v : Int32} (hC : CallFix p m c cc nL s args wsL_law own) (hdg : decode cc pc = .ok (.isub, 1)) (hv : x - y = v) (k : W p l e R s m args below meth c H locs cells slots Q (F0 m (pc + 1) ls (.int v :: rest))) : W p l e R s m args below meth c H locs cells slots Q (F0 m pc ls (.int y :: .int x :: rest)) := by
  subst hv
  exact lv_isub hC.1 hC.2.1 hdg k
theorem xmul {x y v : Int32} (hC : CallFix p m c cc nL s args wsL_law own) (hdg : decode cc pc = .ok (.imul, 1)) (hv : x * y = v) (k : W p l e R s m args below meth c H locs cells slots Q (F0 m (pc + 1) ls (.int v :: rest))) : W p l e R s m args below meth c H locs cells slots Q (F0 m pc ls (.int y :: .int x :: rest)) := by
  subst hv
  exact lv_imul hC.1 hC.2.1 hdg k
end BK
theorem rec_B {D : va_G} {cI cQ : ClassId} {a : Nat → Nat} {S : bS} {s : State} {H : Heap} (h : BW D cI cQ a S s H) : ∃ cell : Cell, H[a 13]? = some cell ∧ cell.vm.isStatics = false ∧ s.vm.findClass RX0 = some cell.cls := va_recv h.1 h.2.1 (ci := 0) (q0 := 0) rfl rfl
theorem rec_M {D : va_G} {cI : ClassId} {b : Nat → Nat} {N : bS} {s : State} {H : Heap} (h : MW D cI b N s H) : ∃ cell : Cell, H[b 5]? = some cell ∧ cell.vm.isStatics = false ∧ s.vm.findClass RX1 = some cell.cls := va_recv h.1 h.2.1 (ci := 1) (q0 := 0) rfl rfl
end
section
/-- Math.max, Math.min of two ints -/
def mx (x y : Int32) : Int32 := if x < y then y else x
def mn (x y : Int32) : Int32 := if y < x then y else x
theorem mw_14 : Cond.fieldLink RX0 9 "BellHush" "loudness" "[I" ∈ wsL_law := List.mem_of_getElem? (i := 14) (by decide +kernel)
theorem mw_15 : Cond.fieldLink RX0 13 "BellHush" "period" "[I" ∈ wsL_law := List.mem_of_getElem? (i := 15) (by decide +kernel)
theorem mw_16 : Cond.fieldLink RX0 16 "BellHush" "silence" "[I" ∈ wsL_law := List.mem_of_getElem? (i := 16) (by decide +kernel)
theorem mw_17 : Cond.fieldLink RX0 19 "BellHush" "untilStroke" "[I" ∈ wsL_law := List.mem_of_getElem? (i := 17) (by decide +kernel)
theorem mw_18 : Cond.fieldLink RX0 22 "BellHush" "strokes" "[I" ∈ wsL_law := List.mem_of_getElem? (i := 18) (by decide +kernel)
theorem mw_19 : Cond.fieldLink RX0 25 "BellHush" "purse" "[I" ∈ wsL_law := List.mem_of_getElem? (i := 19) (by decide +kernel)
theorem mw_21 : Cond.fieldLink RX0 30 "BellHush" "held" "[[I" ∈ wsL_law := List.mem_of_getElem? (i := 21) (by decide +kernel)
theorem mw_46 : Cond.fieldLink RX0 53 "BellHush" "second" "I" ∈ wsL_law := List.mem_of_getElem? (i := 46) (by decide +kernel)
theorem mw_45 : Cond.fieldLink RX0 44 "BellHush" "towerCount" "I" ∈ wsL_law := List.mem_of_getElem? (i := 45) (by decide +kernel)
theorem mw_75 : Cond.fieldLink RX0 62 "BellHush" "traderCount" "I" ∈ wsL_law := List.mem_of_getElem? (i := 75) (by decide +kernel)
theorem mw_26 : Cond.fieldLink RX1 9 "BellHushModel" "loud" "[I" ∈ wsL_law := List.mem_of_getElem? (i := 26) (by decide +kernel)
theorem mw_27 : Cond.fieldLink RX1 13 "BellHushModel" "period" "[I" ∈ wsL_law := List.mem_of_getElem? (i := 27) (by decide +kernel)
theorem mw_28 : Cond.fieldLink RX1 16 "BellHushModel" "beat" "[I" ∈ wsL_law := List.mem_of_getElem? (i := 28) (by decide +kernel)
theorem mw_29 : Cond.fieldLink RX1 19 "BellHushModel" "now" "[I" ∈ wsL_law := List.mem_of_getElem? (i := 29) (by decide +kernel)
theorem mw_30 : Cond.fieldLink RX1 22 "BellHushModel" "kept" "[I" ∈ wsL_law := List.mem_of_getElem? (i := 30) (by decide +kernel)
theorem mw_55 : Cond.fieldLink RX1 25 "BellHushModel" "thrown" "I" ∈ wsL_law := List.mem_of_getElem? (i := 55) (by decide +kernel)
theorem mw_56 : Cond.fieldLink RX1 29 "BellHushModel" "towers" "I" ∈ wsL_law := List.mem_of_getElem? (i := 56) (by decide +kernel)
theorem mw_80 : Cond.fieldLink RX1 36 "BellHushModel" "traders" "I" ∈ wsL_law := List.mem_of_getElem? (i := 80) (by decide +kernel)
theorem mw_57 : Cond.methodLink RX1 32 yX1_isIn ∈ wsL_law := List.mem_of_getElem? (i := 57) (by decide +kernel)
theorem mw_58 : Cond.static yX1_isIn ∈ wsL_law := List.mem_of_getElem? (i := 58) (by decide +kernel)
theorem mw_5 : Cond.initialized RX1 ∈ wsL_law := List.mem_of_getElem? (i := 5) (by decide +kernel)
theorem mw_59 : Cond.code yX1_isIn cX1_isIn 3 (some .boolean) ∈ wsL_law := List.mem_of_getElem? (i := 59) (by decide +kernel)
theorem mw_60 : Cond.methodLink RX1 68 yX1_fail ∈ wsL_law := List.mem_of_getElem? (i := 60) (by decide +kernel)
theorem mw_61 : Cond.instanceMethod yX1_fail ∈ wsL_law := List.mem_of_getElem? (i := 61) (by decide +kernel)
theorem mw_62 : Cond.selects RX1 yX1_fail yX1_fail ∈ wsL_law := List.mem_of_getElem? (i := 62) (by decide +kernel)
theorem mw_63 : Cond.code yX1_fail cX1_fail 2 (some .int) ∈ wsL_law := List.mem_of_getElem? (i := 63) (by decide +kernel)
theorem mw_89 : Cond.methodLink RX0 67 yX0_requireTrader ∈ wsL_law := List.mem_of_getElem? (i := 89) (by decide +kernel)
theorem mw_90 : Cond.instanceMethod yX0_requireTrader ∈ wsL_law := List.mem_of_getElem? (i := 90) (by decide +kernel)
theorem mw_91 : Cond.selects RX0 yX0_requireTrader yX0_requireTrader ∈ wsL_law := List.mem_of_getElem? (i := 91) (by decide +kernel)
theorem mw_2 : Cond.initialized RX0 ∈ wsL_law := List.mem_of_getElem? (i := 2) (by decide +kernel)
theorem mw_92 : Cond.code yX0_requireTrader cX0_requireTrader 2 none ∈ wsL_law := List.mem_of_getElem? (i := 92) (by decide +kernel)
theorem mw_95 : Cond.methodLink RX0 71 yX0_requireTower ∈ wsL_law := List.mem_of_getElem? (i := 95) (by decide +kernel)
theorem mw_96 : Cond.instanceMethod yX0_requireTower ∈ wsL_law := List.mem_of_getElem? (i := 96) (by decide +kernel)
theorem mw_97 : Cond.selects RX0 yX0_requireTower yX0_requireTower ∈ wsL_law := List.mem_of_getElem? (i := 97) (by decide +kernel)
theorem mw_98 : Cond.code yX0_requireTower cX0_requireTower 2 none ∈ wsL_law := List.mem_of_getElem? (i := 98) (by decide +kernel)
theorem mw_99 : Cond.methodLink RX0 74 yX0_requireTradable ∈ wsL_law := List.mem_of_getElem? (i := 99) (by decide +kernel)
theorem mw_100 : Cond.static yX0_requireTradable ∈ wsL_law := List.mem_of_getElem? (i := 100) (by decide +kernel)
theorem mw_101 : Cond.code yX0_requireTradable cX0_requireTradable 1 none ∈ wsL_law := List.mem_of_getElem? (i := 101) (by decide +kernel)
theorem mw_102 : Cond.methodLink RX0 77 yX0_priceNow ∈ wsL_law := List.mem_of_getElem? (i := 102) (by decide +kernel)
theorem mw_103 : Cond.instanceMethod yX0_priceNow ∈ wsL_law := List.mem_of_getElem? (i := 103) (by decide +kernel)
theorem mw_104 : Cond.selects RX0 yX0_priceNow yX0_priceNow ∈ wsL_law := List.mem_of_getElem? (i := 104) (by decide +kernel)
theorem mw_105 : Cond.code yX0_priceNow cX0_priceNow 2 (some .int) ∈ wsL_law := List.mem_of_getElem? (i := 105) (by decide +kernel)
theorem mw_106 : Cond.methodLink RX0 94 yX0_dovesNow ∈ wsL_law := List.mem_of_getElem? (i := 106) (by decide +kernel)
theorem mw_107 : Cond.instanceMethod yX0_dovesNow ∈ wsL_law := List.mem_of_getElem? (i := 107) (by decide +kernel)
theorem mw_108 : Cond.selects RX0 yX0_dovesNow yX0_dovesNow ∈ wsL_law := List.mem_of_getElem? (i := 108) (by decide +kernel)
theorem mw_109 : Cond.code yX0_dovesNow cX0_dovesNow 4 (some .int) ∈ wsL_law := List.mem_of_getElem? (i := 109) (by decide +kernel)
theorem mw_110 : Cond.methodLink RX0 169 yX0_dovesFor ∈ wsL_law := List.mem_of_getElem? (i := 110) (by decide +kernel)
theorem mw_111 : Cond.static yX0_dovesFor ∈ wsL_law := List.mem_of_getElem? (i := 111) (by decide +kernel)
theorem mw_112 : Cond.code yX0_dovesFor cX0_dovesFor 1 (some .int) ∈ wsL_law := List.mem_of_getElem? (i := 112) (by decide +kernel)
theorem mw_117 : Cond.methodLink RX0 172 yX0_price ∈ wsL_law := List.mem_of_getElem? (i := 117) (by decide +kernel)
theorem mw_118 : Cond.static yX0_price ∈ wsL_law := List.mem_of_getElem? (i := 118) (by decide +kernel)
theorem mw_119 : Cond.code yX0_price cX0_price 3 (some .int) ∈ wsL_law := List.mem_of_getElem? (i := 119) (by decide +kernel)
theorem mw_124 : Cond.methodLink RX1 78 yX1_can ∈ wsL_law := List.mem_of_getElem? (i := 124) (by decide +kernel)
theorem mw_125 : Cond.instanceMethod yX1_can ∈ wsL_law := List.mem_of_getElem? (i := 125) (by decide +kernel)
theorem mw_126 : Cond.selects RX1 yX1_can yX1_can ∈ wsL_law := List.mem_of_getElem? (i := 126) (by decide +kernel)
theorem mw_127 : Cond.code yX1_can cX1_can 4 (some .boolean) ∈ wsL_law := List.mem_of_getElem? (i := 127) (by decide +kernel)
theorem mw_128 : Cond.methodLink RX1 71 yX1_isTrader ∈ wsL_law := List.mem_of_getElem? (i := 128) (by decide +kernel)
theorem mw_129 : Cond.instanceMethod yX1_isTrader ∈ wsL_law := List.mem_of_getElem? (i := 129) (by decide +kernel)
theorem mw_130 : Cond.selects RX1 yX1_isTrader yX1_isTrader ∈ wsL_law := List.mem_of_getElem? (i := 130) (by decide +kernel)
theorem mw_131 : Cond.code yX1_isTrader cX1_isTrader 2 (some .boolean) ∈ wsL_law := List.mem_of_getElem? (i := 131) (by decide +kernel)
theorem mw_132 : Cond.methodLink RX1 75 yX1_isTower ∈ wsL_law := List.mem_of_getElem? (i := 132) (by decide +kernel)
theorem mw_133 : Cond.instanceMethod yX1_isTower ∈ wsL_law := List.mem_of_getElem? (i := 133) (by decide +kernel)
theorem mw_134 : Cond.selects RX1 yX1_isTower yX1_isTower ∈ wsL_law := List.mem_of_getElem? (i := 134) (by decide +kernel)
theorem mw_135 : Cond.code yX1_isTower cX1_isTower 2 (some .boolean) ∈ wsL_law := List.mem_of_getElem? (i := 135) (by decide +kernel)
theorem mw_136 : Cond.methodLink RX1 61 yX1_price ∈ wsL_law := List.mem_of_getElem? (i := 136) (by decide +kernel)
theorem mw_137 : Cond.instanceMethod yX1_price ∈ wsL_law := List.mem_of_getElem? (i := 137) (by decide +kernel)
theorem mw_138 : Cond.selects RX1 yX1_price yX1_price ∈ wsL_law := List.mem_of_getElem? (i := 138) (by decide +kernel)
theorem mw_139 : Cond.code yX1_price cX1_price 2 (some .int) ∈ wsL_law := List.mem_of_getElem? (i := 139) (by decide +kernel)
theorem mw_140 : Cond.methodLink RX1 58 yX1_priceBehind ∈ wsL_law := List.mem_of_getElem? (i := 140) (by decide +kernel)
theorem mw_141 : Cond.instanceMethod yX1_priceBehind ∈ wsL_law := List.mem_of_getElem? (i := 141) (by decide +kernel)
theorem mw_142 : Cond.selects RX1 yX1_priceBehind yX1_priceBehind ∈ wsL_law := List.mem_of_getElem? (i := 142) (by decide +kernel)
theorem mw_143 : Cond.code yX1_priceBehind cX1_priceBehind 3 (some .int) ∈ wsL_law := List.mem_of_getElem? (i := 143) (by decide +kernel)
theorem mw_145 : Cond.methodLink RX1 54 yX1_doves ∈ wsL_law := List.mem_of_getElem? (i := 145) (by decide +kernel)
theorem mw_146 : Cond.instanceMethod yX1_doves ∈ wsL_law := List.mem_of_getElem? (i := 146) (by decide +kernel)
theorem mw_147 : Cond.selects RX1 yX1_doves yX1_doves ∈ wsL_law := List.mem_of_getElem? (i := 147) (by decide +kernel)
theorem mw_148 : Cond.code yX1_doves cX1_doves 4 (some .int) ∈ wsL_law := List.mem_of_getElem? (i := 148) (by decide +kernel)
theorem mw_149 : Cond.methodLink RX1 45 yX1_at ∈ wsL_law := List.mem_of_getElem? (i := 149) (by decide +kernel)
theorem mw_150 : Cond.static yX1_at ∈ wsL_law := List.mem_of_getElem? (i := 150) (by decide +kernel)
theorem mw_151 : Cond.code yX1_at cX1_at 2 (some .int) ∈ wsL_law := List.mem_of_getElem? (i := 151) (by decide +kernel)
theorem mw_163 : Cond.methodLink RX1 81 yX1_sold ∈ wsL_law := List.mem_of_getElem? (i := 163) (by decide +kernel)
theorem mw_164 : Cond.instanceMethod yX1_sold ∈ wsL_law := List.mem_of_getElem? (i := 164) (by decide +kernel)
theorem mw_165 : Cond.selects RX1 yX1_sold yX1_sold ∈ wsL_law := List.mem_of_getElem? (i := 165) (by decide +kernel)
theorem mw_166 : Cond.code yX1_sold cX1_sold 5 (some .int) ∈ wsL_law := List.mem_of_getElem? (i := 166) (by decide +kernel)
theorem mw_174 : Cond.methodLink RX0 87 yX0_requirePassable ∈ wsL_law := List.mem_of_getElem? (i := 174) (by decide +kernel)
theorem mw_175 : Cond.static yX0_requirePassable ∈ wsL_law := List.mem_of_getElem? (i := 175) (by decide +kernel)
theorem mw_176 : Cond.code yX0_requirePassable cX0_requirePassable 1 none ∈ wsL_law := List.mem_of_getElem? (i := 176) (by decide +kernel)
theorem mw_177 : Cond.methodLink RX0 90 yX0_goOneSecond ∈ wsL_law := List.mem_of_getElem? (i := 177) (by decide +kernel)
theorem mw_178 : Cond.instanceMethod yX0_goOneSecond ∈ wsL_law := List.mem_of_getElem? (i := 178) (by decide +kernel)
theorem mw_179 : Cond.selects RX0 yX0_goOneSecond yX0_goOneSecond ∈ wsL_law := List.mem_of_getElem? (i := 179) (by decide +kernel)
theorem mw_180 : Cond.code yX0_goOneSecond cX0_goOneSecond 3 (some .int) ∈ wsL_law := List.mem_of_getElem? (i := 180) (by decide +kernel)
theorem mw_181 : Cond.methodLink RX0 163 yX0_strike ∈ wsL_law := List.mem_of_getElem? (i := 181) (by decide +kernel)
theorem mw_182 : Cond.instanceMethod yX0_strike ∈ wsL_law := List.mem_of_getElem? (i := 182) (by decide +kernel)
theorem mw_183 : Cond.selects RX0 yX0_strike yX0_strike ∈ wsL_law := List.mem_of_getElem? (i := 183) (by decide +kernel)
theorem mw_184 : Cond.code yX0_strike cX0_strike 4 none ∈ wsL_law := List.mem_of_getElem? (i := 184) (by decide +kernel)
theorem mw_189 : Cond.methodLink RX1 85 yX1_secondsOn ∈ wsL_law := List.mem_of_getElem? (i := 189) (by decide +kernel)
theorem mw_190 : Cond.instanceMethod yX1_secondsOn ∈ wsL_law := List.mem_of_getElem? (i := 190) (by decide +kernel)
theorem mw_191 : Cond.selects RX1 yX1_secondsOn yX1_secondsOn ∈ wsL_law := List.mem_of_getElem? (i := 191) (by decide +kernel)
theorem mw_192 : Cond.code yX1_secondsOn cX1_secondsOn 4 (some .int) ∈ wsL_law := List.mem_of_getElem? (i := 192) (by decide +kernel)
theorem mw_193 : Cond.methodLink RX1 64 yX1_secondOn ∈ wsL_law := List.mem_of_getElem? (i := 193) (by decide +kernel)
theorem mw_194 : Cond.instanceMethod yX1_secondOn ∈ wsL_law := List.mem_of_getElem? (i := 194) (by decide +kernel)
theorem mw_195 : Cond.selects RX1 yX1_secondOn yX1_secondOn ∈ wsL_law := List.mem_of_getElem? (i := 195) (by decide +kernel)
theorem mw_196 : Cond.code yX1_secondOn cX1_secondOn 5 (some .int) ∈ wsL_law := List.mem_of_getElem? (i := 196) (by decide +kernel)
theorem mw_205 : Cond.methodLink RX1 88 yX1_told ∈ wsL_law := List.mem_of_getElem? (i := 205) (by decide +kernel)
theorem mw_206 : Cond.instanceMethod yX1_told ∈ wsL_law := List.mem_of_getElem? (i := 206) (by decide +kernel)
theorem mw_207 : Cond.selects RX1 yX1_told yX1_told ∈ wsL_law := List.mem_of_getElem? (i := 207) (by decide +kernel)
theorem mw_208 : Cond.code yX1_told cX1_told 2 (some .int) ∈ wsL_law := List.mem_of_getElem? (i := 208) (by decide +kernel)
theorem mw_261 : Cond.methodLink RX1 91 yX1_until ∈ wsL_law := List.mem_of_getElem? (i := 261) (by decide +kernel)
theorem mw_262 : Cond.instanceMethod yX1_until ∈ wsL_law := List.mem_of_getElem? (i := 262) (by decide +kernel)
theorem mw_263 : Cond.selects RX1 yX1_until yX1_until ∈ wsL_law := List.mem_of_getElem? (i := 263) (by decide +kernel)
theorem mw_264 : Cond.code yX1_until cX1_until 3 (some .int) ∈ wsL_law := List.mem_of_getElem? (i := 264) (by decide +kernel)
theorem mw_283 : Cond.methodLink RX0 97 yX0_heldByAll ∈ wsL_law := List.mem_of_getElem? (i := 283) (by decide +kernel)
theorem mw_284 : Cond.instanceMethod yX0_heldByAll ∈ wsL_law := List.mem_of_getElem? (i := 284) (by decide +kernel)
theorem mw_285 : Cond.selects RX0 yX0_heldByAll yX0_heldByAll ∈ wsL_law := List.mem_of_getElem? (i := 285) (by decide +kernel)
theorem mw_286 : Cond.code yX0_heldByAll cX0_heldByAll 4 (some .int) ∈ wsL_law := List.mem_of_getElem? (i := 286) (by decide +kernel)
theorem mw_291 : Cond.methodLink RX1 94 yX1_open ∈ wsL_law := List.mem_of_getElem? (i := 291) (by decide +kernel)
theorem mw_292 : Cond.instanceMethod yX1_open ∈ wsL_law := List.mem_of_getElem? (i := 292) (by decide +kernel)
theorem mw_293 : Cond.selects RX1 yX1_open yX1_open ∈ wsL_law := List.mem_of_getElem? (i := 293) (by decide +kernel)
theorem mw_294 : Cond.code yX1_open cX1_open 4 (some .int) ∈ wsL_law := List.mem_of_getElem? (i := 294) (by decide +kernel)
theorem mw_303 : Cond.methodLink RX1 97 yX1_dear ∈ wsL_law := List.mem_of_getElem? (i := 303) (by decide +kernel)
theorem mw_304 : Cond.instanceMethod yX1_dear ∈ wsL_law := List.mem_of_getElem? (i := 304) (by decide +kernel)
theorem mw_305 : Cond.selects RX1 yX1_dear yX1_dear ∈ wsL_law := List.mem_of_getElem? (i := 305) (by decide +kernel)
theorem mw_306 : Cond.code yX1_dear cX1_dear 3 (some .int) ∈ wsL_law := List.mem_of_getElem? (i := 306) (by decide +kernel)
theorem mw_315 : Cond.methodLink RX1 100 yX1_next ∈ wsL_law := List.mem_of_getElem? (i := 315) (by decide +kernel)
theorem mw_316 : Cond.instanceMethod yX1_next ∈ wsL_law := List.mem_of_getElem? (i := 316) (by decide +kernel)
theorem mw_317 : Cond.selects RX1 yX1_next yX1_next ∈ wsL_law := List.mem_of_getElem? (i := 317) (by decide +kernel)
theorem mw_318 : Cond.code yX1_next cX1_next 3 (some .int) ∈ wsL_law := List.mem_of_getElem? (i := 318) (by decide +kernel)
theorem mw_356 : Cond.methodLink RX0 100 yX0_worthBehind ∈ wsL_law := List.mem_of_getElem? (i := 356) (by decide +kernel)
theorem mw_357 : Cond.instanceMethod yX0_worthBehind ∈ wsL_law := List.mem_of_getElem? (i := 357) (by decide +kernel)
theorem mw_358 : Cond.selects RX0 yX0_worthBehind yX0_worthBehind ∈ wsL_law := List.mem_of_getElem? (i := 358) (by decide +kernel)
theorem mw_359 : Cond.code yX0_worthBehind cX0_worthBehind 7 (some .int) ∈ wsL_law := List.mem_of_getElem? (i := 359) (by decide +kernel)
theorem mw_360 : Cond.methodLink RX0 106 yX0_closing ∈ wsL_law := List.mem_of_getElem? (i := 360) (by decide +kernel)
theorem mw_361 : Cond.instanceMethod yX0_closing ∈ wsL_law := List.mem_of_getElem? (i := 361) (by decide +kernel)
theorem mw_362 : Cond.selects RX0 yX0_closing yX0_closing ∈ wsL_law := List.mem_of_getElem? (i := 362) (by decide +kernel)
theorem mw_363 : Cond.code yX0_closing cX0_closing 2 (some .int) ∈ wsL_law := List.mem_of_getElem? (i := 363) (by decide +kernel)
theorem mw_364 : Cond.methodLink RX0 175 yX0_closingWith ∈ wsL_law := List.mem_of_getElem? (i := 364) (by decide +kernel)
theorem mw_365 : Cond.instanceMethod yX0_closingWith ∈ wsL_law := List.mem_of_getElem? (i := 365) (by decide +kernel)
theorem mw_366 : Cond.selects RX0 yX0_closingWith yX0_closingWith ∈ wsL_law := List.mem_of_getElem? (i := 366) (by decide +kernel)
theorem mw_367 : Cond.code yX0_closingWith cX0_closingWith 3 (some .int) ∈ wsL_law := List.mem_of_getElem? (i := 367) (by decide +kernel)
theorem mw_368 : Cond.methodLink RX0 109 yX0_priceBehind ∈ wsL_law := List.mem_of_getElem? (i := 368) (by decide +kernel)
theorem mw_369 : Cond.instanceMethod yX0_priceBehind ∈ wsL_law := List.mem_of_getElem? (i := 369) (by decide +kernel)
theorem mw_370 : Cond.selects RX0 yX0_priceBehind yX0_priceBehind ∈ wsL_law := List.mem_of_getElem? (i := 370) (by decide +kernel)
theorem mw_371 : Cond.code yX0_priceBehind cX0_priceBehind 6 (some .int) ∈ wsL_law := List.mem_of_getElem? (i := 371) (by decide +kernel)
theorem mw_376 : Cond.methodLink RX1 103 yX1_worth ∈ wsL_law := List.mem_of_getElem? (i := 376) (by decide +kernel)
theorem mw_377 : Cond.instanceMethod yX1_worth ∈ wsL_law := List.mem_of_getElem? (i := 377) (by decide +kernel)
theorem mw_378 : Cond.selects RX1 yX1_worth yX1_worth ∈ wsL_law := List.mem_of_getElem? (i := 378) (by decide +kernel)
theorem mw_379 : Cond.code yX1_worth cX1_worth 4 (some .int) ∈ wsL_law := List.mem_of_getElem? (i := 379) (by decide +kernel)
theorem mw_388 : Cond.methodLink RX1 106 yX1_rich ∈ wsL_law := List.mem_of_getElem? (i := 388) (by decide +kernel)
theorem mw_389 : Cond.instanceMethod yX1_rich ∈ wsL_law := List.mem_of_getElem? (i := 389) (by decide +kernel)
theorem mw_390 : Cond.selects RX1 yX1_rich yX1_rich ∈ wsL_law := List.mem_of_getElem? (i := 390) (by decide +kernel)
theorem mw_391 : Cond.code yX1_rich cX1_rich 3 (some .int) ∈ wsL_law := List.mem_of_getElem? (i := 391) (by decide +kernel)
theorem mw_399 : Cond.methodLink RX0 103 yX0_shortTowers ∈ wsL_law := List.mem_of_getElem? (i := 399) (by decide +kernel)
theorem mw_400 : Cond.instanceMethod yX0_shortTowers ∈ wsL_law := List.mem_of_getElem? (i := 400) (by decide +kernel)
theorem mw_401 : Cond.selects RX0 yX0_shortTowers yX0_shortTowers ∈ wsL_law := List.mem_of_getElem? (i := 401) (by decide +kernel)
theorem mw_402 : Cond.code yX0_shortTowers cX0_shortTowers 4 (some .int) ∈ wsL_law := List.mem_of_getElem? (i := 402) (by decide +kernel)
theorem mw_407 : Cond.methodLink RX1 109 yX1_shorts ∈ wsL_law := List.mem_of_getElem? (i := 407) (by decide +kernel)
theorem mw_408 : Cond.instanceMethod yX1_shorts ∈ wsL_law := List.mem_of_getElem? (i := 408) (by decide +kernel)
theorem mw_409 : Cond.selects RX1 yX1_shorts yX1_shorts ∈ wsL_law := List.mem_of_getElem? (i := 409) (by decide +kernel)
theorem mw_410 : Cond.code yX1_shorts cX1_shorts 4 (some .int) ∈ wsL_law := List.mem_of_getElem? (i := 410) (by decide +kernel)
theorem mw_419 : Cond.methodLink RX1 112 yX1_owing ∈ wsL_law := List.mem_of_getElem? (i := 419) (by decide +kernel)
theorem mw_420 : Cond.instanceMethod yX1_owing ∈ wsL_law := List.mem_of_getElem? (i := 420) (by decide +kernel)
theorem mw_421 : Cond.selects RX1 yX1_owing yX1_owing ∈ wsL_law := List.mem_of_getElem? (i := 421) (by decide +kernel)
theorem mw_422 : Cond.code yX1_owing cX1_owing 3 (some .int) ∈ wsL_law := List.mem_of_getElem? (i := 422) (by decide +kernel)
theorem mw_434 : Cond.methodLink RX1 115 yX1_closing ∈ wsL_law := List.mem_of_getElem? (i := 434) (by decide +kernel)
theorem mw_435 : Cond.instanceMethod yX1_closing ∈ wsL_law := List.mem_of_getElem? (i := 435) (by decide +kernel)
theorem mw_436 : Cond.selects RX1 yX1_closing yX1_closing ∈ wsL_law := List.mem_of_getElem? (i := 436) (by decide +kernel)
theorem mw_437 : Cond.code yX1_closing cX1_closing 2 (some .int) ∈ wsL_law := List.mem_of_getElem? (i := 437) (by decide +kernel)
theorem mw_449 : Cond.methodLink RX1 118 yX1_keep ∈ wsL_law := List.mem_of_getElem? (i := 449) (by decide +kernel)
theorem mw_450 : Cond.instanceMethod yX1_keep ∈ wsL_law := List.mem_of_getElem? (i := 450) (by decide +kernel)
theorem mw_451 : Cond.selects RX1 yX1_keep yX1_keep ∈ wsL_law := List.mem_of_getElem? (i := 451) (by decide +kernel)
theorem mw_452 : Cond.code yX1_keep cX1_keep 1 none ∈ wsL_law := List.mem_of_getElem? (i := 452) (by decide +kernel)
theorem mw_457 : Cond.methodLink RX1 121 yX1_bringBack ∈ wsL_law := List.mem_of_getElem? (i := 457) (by decide +kernel)
theorem mw_458 : Cond.instanceMethod yX1_bringBack ∈ wsL_law := List.mem_of_getElem? (i := 458) (by decide +kernel)
theorem mw_459 : Cond.selects RX1 yX1_bringBack yX1_bringBack ∈ wsL_law := List.mem_of_getElem? (i := 459) (by decide +kernel)
theorem mw_460 : Cond.code yX1_bringBack cX1_bringBack 1 none ∈ wsL_law := List.mem_of_getElem? (i := 460) (by decide +kernel)
theorem mw_476 : Cond.methodLink RX0 112 yX0_riseUntilStroke ∈ wsL_law := List.mem_of_getElem? (i := 476) (by decide +kernel)
theorem mw_477 : Cond.instanceMethod yX0_riseUntilStroke ∈ wsL_law := List.mem_of_getElem? (i := 477) (by decide +kernel)
theorem mw_478 : Cond.selects RX0 yX0_riseUntilStroke yX0_riseUntilStroke ∈ wsL_law := List.mem_of_getElem? (i := 478) (by decide +kernel)
theorem mw_479 : Cond.code yX0_riseUntilStroke cX0_riseUntilStroke 2 (some .int) ∈ wsL_law := List.mem_of_getElem? (i := 479) (by decide +kernel)
theorem mw_484 : Cond.methodLink RX1 124 yX1_toBuy ∈ wsL_law := List.mem_of_getElem? (i := 484) (by decide +kernel)
theorem mw_485 : Cond.instanceMethod yX1_toBuy ∈ wsL_law := List.mem_of_getElem? (i := 485) (by decide +kernel)
theorem mw_486 : Cond.selects RX1 yX1_toBuy yX1_toBuy ∈ wsL_law := List.mem_of_getElem? (i := 486) (by decide +kernel)
theorem mw_487 : Cond.code yX1_toBuy cX1_toBuy 5 (some .int) ∈ wsL_law := List.mem_of_getElem? (i := 487) (by decide +kernel)
theorem mw_498 : Cond.methodLink RX0 118 yX0_yieldOfSelling ∈ wsL_law := List.mem_of_getElem? (i := 498) (by decide +kernel)
theorem mw_499 : Cond.instanceMethod yX0_yieldOfSelling ∈ wsL_law := List.mem_of_getElem? (i := 499) (by decide +kernel)
theorem mw_500 : Cond.selects RX0 yX0_yieldOfSelling yX0_yieldOfSelling ∈ wsL_law := List.mem_of_getElem? (i := 500) (by decide +kernel)
theorem mw_501 : Cond.code yX0_yieldOfSelling cX0_yieldOfSelling 7 (some .int) ∈ wsL_law := List.mem_of_getElem? (i := 501) (by decide +kernel)
theorem mw_514 : Cond.methodLink RX0 122 yX0_closedIn ∈ wsL_law := List.mem_of_getElem? (i := 514) (by decide +kernel)
theorem mw_515 : Cond.instanceMethod yX0_closedIn ∈ wsL_law := List.mem_of_getElem? (i := 515) (by decide +kernel)
theorem mw_516 : Cond.selects RX0 yX0_closedIn yX0_closedIn ∈ wsL_law := List.mem_of_getElem? (i := 516) (by decide +kernel)
theorem mw_517 : Cond.code yX0_closedIn cX0_closedIn 5 (some .int) ∈ wsL_law := List.mem_of_getElem? (i := 517) (by decide +kernel)
theorem mw_535 : Cond.methodLink RX0 127 yX0_mixed ∈ wsL_law := List.mem_of_getElem? (i := 535) (by decide +kernel)
theorem mw_536 : Cond.static yX0_mixed ∈ wsL_law := List.mem_of_getElem? (i := 536) (by decide +kernel)
theorem mw_537 : Cond.code yX0_mixed cX0_mixed 3 (some .long) ∈ wsL_law := List.mem_of_getElem? (i := 537) (by decide +kernel)
theorem mw_539 : Cond.methodLink RX0 131 yX0_dearest ∈ wsL_law := List.mem_of_getElem? (i := 539) (by decide +kernel)
theorem mw_296 : Cond.instanceMethod yX0_dearest ∈ wsL_law := List.mem_of_getElem? (i := 296) (by decide +kernel)
theorem mw_297 : Cond.selects RX0 yX0_dearest yX0_dearest ∈ wsL_law := List.mem_of_getElem? (i := 297) (by decide +kernel)
theorem mw_298 : Cond.code yX0_dearest cX0_dearest 3 (some .int) ∈ wsL_law := List.mem_of_getElem? (i := 298) (by decide +kernel)
theorem mw_540 : Cond.methodLink RX0 134 yX0_nextToStrike ∈ wsL_law := List.mem_of_getElem? (i := 540) (by decide +kernel)
theorem mw_308 : Cond.instanceMethod yX0_nextToStrike ∈ wsL_law := List.mem_of_getElem? (i := 308) (by decide +kernel)
theorem mw_309 : Cond.selects RX0 yX0_nextToStrike yX0_nextToStrike ∈ wsL_law := List.mem_of_getElem? (i := 309) (by decide +kernel)
theorem mw_310 : Cond.code yX0_nextToStrike cX0_nextToStrike 3 (some .int) ∈ wsL_law := List.mem_of_getElem? (i := 310) (by decide +kernel)
theorem mw_541 : Cond.methodLink RX0 137 yX0_richest ∈ wsL_law := List.mem_of_getElem? (i := 541) (by decide +kernel)
theorem mw_381 : Cond.instanceMethod yX0_richest ∈ wsL_law := List.mem_of_getElem? (i := 381) (by decide +kernel)
theorem mw_382 : Cond.selects RX0 yX0_richest yX0_richest ∈ wsL_law := List.mem_of_getElem? (i := 382) (by decide +kernel)
theorem mw_383 : Cond.code yX0_richest cX0_richest 3 (some .int) ∈ wsL_law := List.mem_of_getElem? (i := 383) (by decide +kernel)
theorem mw_542 : Cond.methodLink RX0 140 yX0_inDebt ∈ wsL_law := List.mem_of_getElem? (i := 542) (by decide +kernel)
theorem mw_412 : Cond.instanceMethod yX0_inDebt ∈ wsL_law := List.mem_of_getElem? (i := 412) (by decide +kernel)
theorem mw_413 : Cond.selects RX0 yX0_inDebt yX0_inDebt ∈ wsL_law := List.mem_of_getElem? (i := 413) (by decide +kernel)
theorem mw_414 : Cond.code yX0_inDebt cX0_inDebt 3 (some .int) ∈ wsL_law := List.mem_of_getElem? (i := 414) (by decide +kernel)
theorem mw_543 : Cond.methodLink RX0 143 yX0_bestToBuy ∈ wsL_law := List.mem_of_getElem? (i := 543) (by decide +kernel)
theorem mw_473 : Cond.instanceMethod yX0_bestToBuy ∈ wsL_law := List.mem_of_getElem? (i := 473) (by decide +kernel)
theorem mw_474 : Cond.selects RX0 yX0_bestToBuy yX0_bestToBuy ∈ wsL_law := List.mem_of_getElem? (i := 474) (by decide +kernel)
theorem mw_475 : Cond.code yX0_bestToBuy cX0_bestToBuy 4 (some .int) ∈ wsL_law := List.mem_of_getElem? (i := 475) (by decide +kernel)
theorem mw_544 : Cond.methodLink RX0 146 yX0_mixedTower ∈ wsL_law := List.mem_of_getElem? (i := 544) (by decide +kernel)
theorem mw_545 : Cond.instanceMethod yX0_mixedTower ∈ wsL_law := List.mem_of_getElem? (i := 545) (by decide +kernel)
theorem mw_546 : Cond.selects RX0 yX0_mixedTower yX0_mixedTower ∈ wsL_law := List.mem_of_getElem? (i := 546) (by decide +kernel)
theorem mw_547 : Cond.code yX0_mixedTower cX0_mixedTower 6 (some .long) ∈ wsL_law := List.mem_of_getElem? (i := 547) (by decide +kernel)
theorem mw_548 : Cond.methodLink RX0 149 yX0_mixedTrader ∈ wsL_law := List.mem_of_getElem? (i := 548) (by decide +kernel)
theorem mw_549 : Cond.instanceMethod yX0_mixedTrader ∈ wsL_law := List.mem_of_getElem? (i := 549) (by decide +kernel)
theorem mw_550 : Cond.selects RX0 yX0_mixedTrader yX0_mixedTrader ∈ wsL_law := List.mem_of_getElem? (i := 550) (by decide +kernel)
theorem mw_551 : Cond.code yX0_mixedTrader cX0_mixedTrader 7 (some .long) ∈ wsL_law := List.mem_of_getElem? (i := 551) (by decide +kernel)
theorem mw_47 : Cond.methodLink RX0 56 yJ9_floorMod_7cf53 ∈ wsL_law := List.mem_of_getElem? (i := 47) (by decide +kernel)
theorem mw_48 : Cond.static yJ9_floorMod_7cf53 ∈ wsL_law := List.mem_of_getElem? (i := 48) (by decide +kernel)
theorem mw_49 : Cond.initialized RJ9 ∈ wsL_law := List.mem_of_getElem? (i := 49) (by decide +kernel)
theorem mw_50 : Cond.code yJ9_floorMod_7cf53 cJ9_floorMod_7cf53 3 (some .int) ∈ wsL_law := List.mem_of_getElem? (i := 50) (by decide +kernel)
theorem mw_113 : Cond.methodLink RX0 166 Lib.Math.max.name ∈ wsL_law := List.mem_of_getElem? (i := 113) (by decide +kernel)
theorem mw_114 : Cond.static Lib.Math.max.name ∈ wsL_law := List.mem_of_getElem? (i := 114) (by decide +kernel)
theorem mw_115 : Cond.initialized "java/lang/Math" ∈ wsL_law := List.mem_of_getElem? (i := 115) (by decide +kernel)
theorem mw_116 : Cond.code Lib.Math.max.name Lib.Math.max.code 2 (some .int) ∈ wsL_law := List.mem_of_getElem? (i := 116) (by decide +kernel)
theorem mw_144 : Cond.methodLink RX1 49 Lib.Math.max.name ∈ wsL_law := List.mem_of_getElem? (i := 144) (by decide +kernel)
theorem mw_495 : Cond.methodLink RX0 115 Lib.Math.min.name ∈ wsL_law := List.mem_of_getElem? (i := 495) (by decide +kernel)
theorem mw_496 : Cond.static Lib.Math.min.name ∈ wsL_law := List.mem_of_getElem? (i := 496) (by decide +kernel)
theorem mw_497 : Cond.code Lib.Math.min.name Lib.Math.min.code 2 (some .int) ∈ wsL_law := List.mem_of_getElem? (i := 497) (by decide +kernel)
theorem mw_506 : Cond.methodLink RX1 127 Lib.Math.min.name ∈ wsL_law := List.mem_of_getElem? (i := 506) (by decide +kernel)
section BR
variable {p : Program} {l : Launch} {e : Env} {R : Room} {s : State} {m : MethodId} {args : Array Value} {below : List Frame} {meth : Method} {c : Code} {H : Heap} {locs : List Loc} {cells slots : Nat} {Q : State → Prop}
variable {cc : ByteArray} {pc nL : Nat} {ls : Array Slot} {rest st0 : List Value} {D : va_G} {cI cQ : ClassId} {a b : Nat → Nat} {S N : bS} {A0 : Nat → Prop} {H0 : Heap} {rm : Room} {As : List Value}
theorem gB_loudness (hC : CallFix p m c cc nL s args wsL_law RX0) (hB : BW D cI cQ a S s H) (hdg : decode cc pc = .ok (.getfield 9, 3)) (kk : W p l e R s m args below meth c H locs cells slots Q (F0 m (pc + 3) ls (.ref (a 0) :: rest))) : W p l e R s m args below meth c H locs cells slots Q (F0 m pc ls (.ref (a 13) :: rest)) :=
  va_get (D := D) (ci := 0) (v := .ref (a 0)) (C := RX0) (T := TX0) (N := 10) hC.1 hC.2.1 hC.2.2.2.2 inlX0 hC.2.2.2.1 hB.1 hB.2.1 0 rfl rfl 0 (by decide) (hC.2.2.2.2 _ mw_14) (fun _ h9 => h9) rfl hdg kk
theorem gB_period (hC : CallFix p m c cc nL s args wsL_law RX0) (hB : BW D cI cQ a S s H) (hdg : decode cc pc = .ok (.getfield 13, 3)) (kk : W p l e R s m args below meth c H locs cells slots Q (F0 m (pc + 3) ls (.ref (a 1) :: rest))) : W p l e R s m args below meth c H locs cells slots Q (F0 m pc ls (.ref (a 13) :: rest)) :=
  va_get (D := D) (ci := 0) (v := .ref (a 1)) (C := RX0) (T := TX0) (N := 10) hC.1 hC.2.1 hC.2.2.2.2 inlX0 hC.2.2.2.1 hB.1 hB.2.1 0 rfl rfl 1 (by decide) (hC.2.2.2.2 _ mw_15) (fun _ h9 => h9) rfl hdg kk
theorem gB_silence (hC : CallFix p m c cc nL s args wsL_law RX0) (hB : BW D cI cQ a S s H) (hdg : decode cc pc = .ok (.getfield 16, 3)) (kk : W p l e R s m args below meth c H locs cells slots Q (F0 m (pc + 3) ls (.ref (a 2) :: rest))) : W p l e R s m args below meth c H locs cells slots Q (F0 m pc ls (.ref (a 13) :: rest)) :=
  va_get (D := D) (ci := 0) (v := .ref (a 2)) (C := RX0) (T := TX0) (N := 10) hC.1 hC.2.1 hC.2.2.2.2 inlX0 hC.2.2.2.1 hB.1 hB.2.1 0 rfl rfl 2 (by decide) (hC.2.2.2.2 _ mw_16) (fun _ h9 => h9) rfl hdg kk
theorem gB_untilStroke (hC : CallFix p m c cc nL s args wsL_law RX0) (hB : BW D cI cQ a S s H) (hdg : decode cc pc = .ok (.getfield 19, 3)) (kk : W p l e R s m args below meth c H locs cells slots Q (F0 m (pc + 3) ls (.ref (a 3) :: rest))) : W p l e R s m args below meth c H locs cells slots Q (F0 m pc ls (.ref (a 13) :: rest)) :=
  va_get (D := D) (ci := 0) (v := .ref (a 3)) (C := RX0) (T := TX0) (N := 10) hC.1 hC.2.1 hC.2.2.2.2 inlX0 hC.2.2.2.1 hB.1 hB.2.1 0 rfl rfl 3 (by decide) (hC.2.2.2.2 _ mw_17) (fun _ h9 => h9) rfl hdg kk
theorem gB_strokes (hC : CallFix p m c cc nL s args wsL_law RX0) (hB : BW D cI cQ a S s H) (hdg : decode cc pc = .ok (.getfield 22, 3)) (kk : W p l e R s m args below meth c H locs cells slots Q (F0 m (pc + 3) ls (.ref (a 4) :: rest))) : W p l e R s m args below meth c H locs cells slots Q (F0 m pc ls (.ref (a 13) :: rest)) :=
  va_get (D := D) (ci := 0) (v := .ref (a 4)) (C := RX0) (T := TX0) (N := 10) hC.1 hC.2.1 hC.2.2.2.2 inlX0 hC.2.2.2.1 hB.1 hB.2.1 0 rfl rfl 4 (by decide) (hC.2.2.2.2 _ mw_18) (fun _ h9 => h9) rfl hdg kk
theorem gB_purse (hC : CallFix p m c cc nL s args wsL_law RX0) (hB : BW D cI cQ a S s H) (hdg : decode cc pc = .ok (.getfield 25, 3)) (kk : W p l e R s m args below meth c H locs cells slots Q (F0 m (pc + 3) ls (.ref (a 5) :: rest))) : W p l e R s m args below meth c H locs cells slots Q (F0 m pc ls (.ref (a 13) :: rest)) :=
  va_get (D := D) (ci := 0) (v := .ref (a 5)) (C := RX0) (T := TX0) (N := 10) hC.1 hC.2.1 hC.2.2.2.2 inlX0 hC.2.2.2.1 hB.1 hB.2.1 0 rfl rfl 5 (by decide) (hC.2.2.2.2 _ mw_19) (fun _ h9 => h9) rfl hdg kk
theorem gB_held (hC : CallFix p m c cc nL s args wsL_law RX0) (hB : BW D cI cQ a S s H) (hdg : decode cc pc = .ok (.getfield 30, 3)) (kk : W p l e R s m args below meth c H locs cells slots Q (F0 m (pc + 3) ls (.ref (a 6) :: rest))) : W p l e R s m args below meth c H locs cells slots Q (F0 m pc ls (.ref (a 13) :: rest)) :=
  va_get (D := D) (ci := 0) (v := .ref (a 6)) (C := RX0) (T := TX0) (N := 10) hC.1 hC.2.1 hC.2.2.2.2 inlX0 hC.2.2.2.1 hB.1 hB.2.1 0 rfl rfl 6 (by decide) (hC.2.2.2.2 _ mw_21) (fun _ h9 => h9) rfl hdg kk
theorem gB_second {v : Int32} (hC : CallFix p m c cc nL s args wsL_law RX0) (hB : BW D cI cQ a S s H) (hv : S 6 0 = v) (hdg : decode cc pc = .ok (.getfield 53, 3)) (kk : W p l e R s m args below meth c H locs cells slots Q (F0 m (pc + 3) ls (.int v :: rest))) : W p l e R s m args below meth c H locs cells slots Q (F0 m pc ls (.ref (a 13) :: rest)) := by
  subst hv
  exact va_get (D := D) (ci := 0) (v := .int (S 6 0)) (C := RX0) (T := TX0) (N := 10) hC.1 hC.2.1 hC.2.2.2.2 inlX0 hC.2.2.2.1 hB.1 hB.2.1 0 rfl rfl 7 (by decide) (hC.2.2.2.2 _ mw_46) (fun _ h9 => h9) rfl hdg kk
theorem pB_second {v : Int32} (hC : CallFix p m c cc nL s args wsL_law RX0) (hB : BW D cI cQ a S s H) (hS : va_S A0 H0 H locs) (hA : ∀ q, inB a q → A0 q) (hdg : decode cc pc = .ok (.putfield 53, 3)) (kk : ∀ (H1 : Heap) (locs1 : List Loc), BW D cI cQ a (up2 S 6 0 v) s H1 → va_S A0 H0 H1 locs1 → W p l e R s m args below meth c H1 locs1 cells slots Q (F0 m (pc + 3) ls rest)) : W p l e R s m args below meth c H locs cells slots Q (F0 m pc ls (.int v :: .ref (a 13) :: rest)) :=
  va_put (D := D) (ci := 0) (v := .int v) (ty := .int) (C := RX0) (T := TX0) (N := 10) hC.1 hC.2.1 hC.2.2.2.2 inlX0 tyX0 tyX0_ok nmX0 hC.2.2.2.1 hB.1 hB.2.1 (hB.D.weaken (fun _ _ _ h => hA _ h)) hS 0 rfl rfl 7 (by decide) (hC.2.2.2.2 _ mw_46) (fun _ h9 => h9) rfl (by decide +kernel) rfl rfl (Nat.le_of_ble_eq_true rfl) hdg (fun H1 locs1 h1 _ h3 => kk H1 locs1 ⟨hB.1, h1, hB.2.2⟩ h3)
theorem gB_towerCount {v : Int32} (hC : CallFix p m c cc nL s args wsL_law RX0) (hB : BW D cI cQ a S s H) (hv : S 6 1 = v) (hdg : decode cc pc = .ok (.getfield 44, 3)) (kk : W p l e R s m args below meth c H locs cells slots Q (F0 m (pc + 3) ls (.int v :: rest))) : W p l e R s m args below meth c H locs cells slots Q (F0 m pc ls (.ref (a 13) :: rest)) := by
  subst hv
  exact va_get (D := D) (ci := 0) (v := .int (S 6 1)) (C := RX0) (T := TX0) (N := 10) hC.1 hC.2.1 hC.2.2.2.2 inlX0 hC.2.2.2.1 hB.1 hB.2.1 0 rfl rfl 8 (by decide) (hC.2.2.2.2 _ mw_45) (fun _ h9 => h9) rfl hdg kk
theorem pB_towerCount {v : Int32} (hC : CallFix p m c cc nL s args wsL_law RX0) (hB : BW D cI cQ a S s H) (hS : va_S A0 H0 H locs) (hA : ∀ q, inB a q → A0 q) (hdg : decode cc pc = .ok (.putfield 44, 3)) (kk : ∀ (H1 : Heap) (locs1 : List Loc), BW D cI cQ a (up2 S 6 1 v) s H1 → va_S A0 H0 H1 locs1 → W p l e R s m args below meth c H1 locs1 cells slots Q (F0 m (pc + 3) ls rest)) : W p l e R s m args below meth c H locs cells slots Q (F0 m pc ls (.int v :: .ref (a 13) :: rest)) :=
  va_put (D := D) (ci := 0) (v := .int v) (ty := .int) (C := RX0) (T := TX0) (N := 10) hC.1 hC.2.1 hC.2.2.2.2 inlX0 tyX0 tyX0_ok nmX0 hC.2.2.2.1 hB.1 hB.2.1 (hB.D.weaken (fun _ _ _ h => hA _ h)) hS 0 rfl rfl 8 (by decide) (hC.2.2.2.2 _ mw_45) (fun _ h9 => h9) rfl (by decide +kernel) rfl rfl (Nat.le_of_ble_eq_true rfl) hdg (fun H1 locs1 h1 _ h3 => kk H1 locs1 ⟨hB.1, h1, hB.2.2⟩ h3)
theorem gB_traderCount {v : Int32} (hC : CallFix p m c cc nL s args wsL_law RX0) (hB : BW D cI cQ a S s H) (hv : S 6 2 = v) (hdg : decode cc pc = .ok (.getfield 62, 3)) (kk : W p l e R s m args below meth c H locs cells slots Q (F0 m (pc + 3) ls (.int v :: rest))) : W p l e R s m args below meth c H locs cells slots Q (F0 m pc ls (.ref (a 13) :: rest)) := by
  subst hv
  exact va_get (D := D) (ci := 0) (v := .int (S 6 2)) (C := RX0) (T := TX0) (N := 10) hC.1 hC.2.1 hC.2.2.2.2 inlX0 hC.2.2.2.1 hB.1 hB.2.1 0 rfl rfl 9 (by decide) (hC.2.2.2.2 _ mw_75) (fun _ h9 => h9) rfl hdg kk
theorem pB_traderCount {v : Int32} (hC : CallFix p m c cc nL s args wsL_law RX0) (hB : BW D cI cQ a S s H) (hS : va_S A0 H0 H locs) (hA : ∀ q, inB a q → A0 q) (hdg : decode cc pc = .ok (.putfield 62, 3)) (kk : ∀ (H1 : Heap) (locs1 : List Loc), BW D cI cQ a (up2 S 6 2 v) s H1 → va_S A0 H0 H1 locs1 → W p l e R s m args below meth c H1 locs1 cells slots Q (F0 m (pc + 3) ls rest)) : W p l e R s m args below meth c H locs cells slots Q (F0 m pc ls (.int v :: .ref (a 13) :: rest)) :=
  va_put (D := D) (ci := 0) (v := .int v) (ty := .int) (C := RX0) (T := TX0) (N := 10) hC.1 hC.2.1 hC.2.2.2.2 inlX0 tyX0 tyX0_ok nmX0 hC.2.2.2.1 hB.1 hB.2.1 (hB.D.weaken (fun _ _ _ h => hA _ h)) hS 0 rfl rfl 9 (by decide) (hC.2.2.2.2 _ mw_75) (fun _ h9 => h9) rfl (by decide +kernel) rfl rfl (Nat.le_of_ble_eq_true rfl) hdg (fun H1 locs1 h1 _ h3 => kk H1 locs1 ⟨hB.1, h1, hB.2.2⟩ h3)
theorem gM_loud (hC : CallFix p m c cc nL s args wsL_law RX1) (hB : MW D cI b N s H) (hdg : decode cc pc = .ok (.getfield 9, 3)) (kk : W p l e R s m args below meth c H locs cells slots Q (F0 m (pc + 3) ls (.ref (b 0) :: rest))) : W p l e R s m args below meth c H locs cells slots Q (F0 m pc ls (.ref (b 5) :: rest)) :=
  va_get (D := D) (ci := 1) (v := .ref (b 0)) (C := RX1) (T := TX1) (N := 8) hC.1 hC.2.1 hC.2.2.2.2 inlX1 hC.2.2.2.1 hB.1 hB.2.1 0 rfl rfl 3 (by decide) (hC.2.2.2.2 _ mw_26) (fun _ h9 => h9) rfl hdg kk
theorem gM_period (hC : CallFix p m c cc nL s args wsL_law RX1) (hB : MW D cI b N s H) (hdg : decode cc pc = .ok (.getfield 13, 3)) (kk : W p l e R s m args below meth c H locs cells slots Q (F0 m (pc + 3) ls (.ref (b 1) :: rest))) : W p l e R s m args below meth c H locs cells slots Q (F0 m pc ls (.ref (b 5) :: rest)) :=
  va_get (D := D) (ci := 1) (v := .ref (b 1)) (C := RX1) (T := TX1) (N := 8) hC.1 hC.2.1 hC.2.2.2.2 inlX1 hC.2.2.2.1 hB.1 hB.2.1 0 rfl rfl 4 (by decide) (hC.2.2.2.2 _ mw_27) (fun _ h9 => h9) rfl hdg kk
theorem gM_beat (hC : CallFix p m c cc nL s args wsL_law RX1) (hB : MW D cI b N s H) (hdg : decode cc pc = .ok (.getfield 16, 3)) (kk : W p l e R s m args below meth c H locs cells slots Q (F0 m (pc + 3) ls (.ref (b 2) :: rest))) : W p l e R s m args below meth c H locs cells slots Q (F0 m pc ls (.ref (b 5) :: rest)) :=
  va_get (D := D) (ci := 1) (v := .ref (b 2)) (C := RX1) (T := TX1) (N := 8) hC.1 hC.2.1 hC.2.2.2.2 inlX1 hC.2.2.2.1 hB.1 hB.2.1 0 rfl rfl 5 (by decide) (hC.2.2.2.2 _ mw_28) (fun _ h9 => h9) rfl hdg kk
theorem gM_now (hC : CallFix p m c cc nL s args wsL_law RX1) (hB : MW D cI b N s H) (hdg : decode cc pc = .ok (.getfield 19, 3)) (kk : W p l e R s m args below meth c H locs cells slots Q (F0 m (pc + 3) ls (.ref (b 3) :: rest))) : W p l e R s m args below meth c H locs cells slots Q (F0 m pc ls (.ref (b 5) :: rest)) :=
  va_get (D := D) (ci := 1) (v := .ref (b 3)) (C := RX1) (T := TX1) (N := 8) hC.1 hC.2.1 hC.2.2.2.2 inlX1 hC.2.2.2.1 hB.1 hB.2.1 0 rfl rfl 6 (by decide) (hC.2.2.2.2 _ mw_29) (fun _ h9 => h9) rfl hdg kk
theorem gM_kept (hC : CallFix p m c cc nL s args wsL_law RX1) (hB : MW D cI b N s H) (hdg : decode cc pc = .ok (.getfield 22, 3)) (kk : W p l e R s m args below meth c H locs cells slots Q (F0 m (pc + 3) ls (.ref (b 4) :: rest))) : W p l e R s m args below meth c H locs cells slots Q (F0 m pc ls (.ref (b 5) :: rest)) :=
  va_get (D := D) (ci := 1) (v := .ref (b 4)) (C := RX1) (T := TX1) (N := 8) hC.1 hC.2.1 hC.2.2.2.2 inlX1 hC.2.2.2.1 hB.1 hB.2.1 0 rfl rfl 7 (by decide) (hC.2.2.2.2 _ mw_30) (fun _ h9 => h9) rfl hdg kk
theorem gM_thrown {v : Int32} (hC : CallFix p m c cc nL s args wsL_law RX1) (hB : MW D cI b N s H) (hv : N 5 0 = v) (hdg : decode cc pc = .ok (.getfield 25, 3)) (kk : W p l e R s m args below meth c H locs cells slots Q (F0 m (pc + 3) ls (.int v :: rest))) : W p l e R s m args below meth c H locs cells slots Q (F0 m pc ls (.ref (b 5) :: rest)) := by
  subst hv
  exact va_get (D := D) (ci := 1) (v := .int (N 5 0)) (C := RX1) (T := TX1) (N := 8) hC.1 hC.2.1 hC.2.2.2.2 inlX1 hC.2.2.2.1 hB.1 hB.2.1 0 rfl rfl 0 (by decide) (hC.2.2.2.2 _ mw_55) (fun _ h9 => h9) rfl hdg kk
theorem pM_thrown {v : Int32} (hC : CallFix p m c cc nL s args wsL_law RX1) (hB : MW D cI b N s H) (hS : va_S A0 H0 H locs) (hA : ∀ q, inM b q → A0 q) (hdg : decode cc pc = .ok (.putfield 25, 3)) (kk : ∀ (H1 : Heap) (locs1 : List Loc), MW D cI b (up2 N 5 0 v) s H1 → va_S A0 H0 H1 locs1 → W p l e R s m args below meth c H1 locs1 cells slots Q (F0 m (pc + 3) ls rest)) : W p l e R s m args below meth c H locs cells slots Q (F0 m pc ls (.int v :: .ref (b 5) :: rest)) :=
  va_put (D := D) (ci := 1) (v := .int v) (ty := .int) (C := RX1) (T := TX1) (N := 8) hC.1 hC.2.1 hC.2.2.2.2 inlX1 tyX1 tyX1_ok nmX1 hC.2.2.2.1 hB.1 hB.2.1 (hB.D.weaken (fun _ _ _ h => hA _ h)) hS 0 rfl rfl 0 (by decide) (hC.2.2.2.2 _ mw_55) (fun _ h9 => h9) rfl (by decide +kernel) rfl rfl (Nat.le_of_ble_eq_true rfl) hdg (fun H1 locs1 h1 _ h3 => kk H1 locs1 ⟨hB.1, h1, hB.2.2⟩ h3)
theorem gM_towers {v : Int32} (hC : CallFix p m c cc nL s args wsL_law RX1) (hB : MW D cI b N s H) (hv : N 5 1 = v) (hdg : decode cc pc = .ok (.getfield 29, 3)) (kk : W p l e R s m args below meth c H locs cells slots Q (F0 m (pc + 3) ls (.int v :: rest))) : W p l e R s m args below meth c H locs cells slots Q (F0 m pc ls (.ref (b 5) :: rest)) := by
  subst hv
  exact va_get (D := D) (ci := 1) (v := .int (N 5 1)) (C := RX1) (T := TX1) (N := 8) hC.1 hC.2.1 hC.2.2.2.2 inlX1 hC.2.2.2.1 hB.1 hB.2.1 0 rfl rfl 1 (by decide) (hC.2.2.2.2 _ mw_56) (fun _ h9 => h9) rfl hdg kk
theorem pM_towers {v : Int32} (hC : CallFix p m c cc nL s args wsL_law RX1) (hB : MW D cI b N s H) (hS : va_S A0 H0 H locs) (hA : ∀ q, inM b q → A0 q) (hdg : decode cc pc = .ok (.putfield 29, 3)) (kk : ∀ (H1 : Heap) (locs1 : List Loc), MW D cI b (up2 N 5 1 v) s H1 → va_S A0 H0 H1 locs1 → W p l e R s m args below meth c H1 locs1 cells slots Q (F0 m (pc + 3) ls rest)) : W p l e R s m args below meth c H locs cells slots Q (F0 m pc ls (.int v :: .ref (b 5) :: rest)) :=
  va_put (D := D) (ci := 1) (v := .int v) (ty := .int) (C := RX1) (T := TX1) (N := 8) hC.1 hC.2.1 hC.2.2.2.2 inlX1 tyX1 tyX1_ok nmX1 hC.2.2.2.1 hB.1 hB.2.1 (hB.D.weaken (fun _ _ _ h => hA _ h)) hS 0 rfl rfl 1 (by decide) (hC.2.2.2.2 _ mw_56) (fun _ h9 => h9) rfl (by decide +kernel) rfl rfl (Nat.le_of_ble_eq_true rfl) hdg (fun H1 locs1 h1 _ h3 => kk H1 locs1 ⟨hB.1, h1, hB.2.2⟩ h3)
theorem gM_traders {v : Int32} (hC : CallFix p m c cc nL s args wsL_law RX1) (hB : MW D cI b N s H) (hv : N 5 2 = v) (hdg : decode cc pc = .ok (.getfield 36, 3)) (kk : W p l e R s m args below meth c H locs cells slots Q (F0 m (pc + 3) ls (.int v :: rest))) : W p l e R s m args below meth c H locs cells slots Q (F0 m pc ls (.ref (b 5) :: rest)) := by
  subst hv
  exact va_get (D := D) (ci := 1) (v := .int (N 5 2)) (C := RX1) (T := TX1) (N := 8) hC.1 hC.2.1 hC.2.2.2.2 inlX1 hC.2.2.2.1 hB.1 hB.2.1 0 rfl rfl 2 (by decide) (hC.2.2.2.2 _ mw_80) (fun _ h9 => h9) rfl hdg kk
theorem pM_traders {v : Int32} (hC : CallFix p m c cc nL s args wsL_law RX1) (hB : MW D cI b N s H) (hS : va_S A0 H0 H locs) (hA : ∀ q, inM b q → A0 q) (hdg : decode cc pc = .ok (.putfield 36, 3)) (kk : ∀ (H1 : Heap) (locs1 : List Loc), MW D cI b (up2 N 5 2 v) s H1 → va_S A0 H0 H1 locs1 → W p l e R s m args below meth c H1 locs1 cells slots Q (F0 m (pc + 3) ls rest)) : W p l e R s m args below meth c H locs cells slots Q (F0 m pc ls (.int v :: .ref (b 5) :: rest)) :=
  va_put (D := D) (ci := 1) (v := .int v) (ty := .int) (C := RX1) (T := TX1) (N := 8) hC.1 hC.2.1 hC.2.2.2.2 inlX1 tyX1 tyX1_ok nmX1 hC.2.2.2.1 hB.1 hB.2.1 (hB.D.weaken (fun _ _ _ h => hA _ h)) hS 0 rfl rfl 2 (by decide) (hC.2.2.2.2 _ mw_80) (fun _ h9 => h9) rfl (by decide +kernel) rfl rfl (Nat.le_of_ble_eq_true rfl) hdg (fun H1 locs1 h1 _ h3 => kk H1 locs1 ⟨hB.1, h1, hB.2.2⟩ h3)
theorem lB_loudness (i : Nat) {x v : Int32} (hC : CallFix p m c cc nL s args wsL_law RX0) (hB : BW D cI cQ a S s H) (hx : x = nI i) (hi : i < 8) (hv : S 0 i = v) (hdg : decode cc pc = .ok (.iaload, 1)) (kk : W p l e R s m args below meth c H locs cells slots Q (F0 m (pc + 1) ls (.int v :: rest))) : W p l e R s m args below meth c H locs cells slots Q (F0 m pc ls (.int x :: .ref (a 0) :: rest)) := by
  subst hx
  subst hv
  refine va_iald hC.1 hC.2.1 hB.1 hB.2.1 1 0 (f := S 0) rfl rfl (nin hi (by decide)) hdg ?_
  rw [ncl (by omega : i < 8)]
  exact kk
theorem sB_loudness (i : Nat) {x v : Int32} (hC : CallFix p m c cc nL s args wsL_law RX0) (hB : BW D cI cQ a S s H) (hx : x = nI i) (hi : i < 8) (hS : va_S A0 H0 H locs) (hA : ∀ q, inB a q → A0 q) (hdg : decode cc pc = .ok (.iastore, 1)) (kk : ∀ (H1 : Heap) (locs1 : List Loc), BW D cI cQ a (up2 S 0 i v) s H1 → va_S A0 H0 H1 locs1 → W p l e R s m args below meth c H1 locs1 cells slots Q (F0 m (pc + 1) ls rest)) : W p l e R s m args below meth c H locs cells slots Q (F0 m pc ls (.int v :: .int x :: .ref (a 0) :: rest)) := by
  subst hx
  refine va_iast hC.1 hC.2.1 hB.1 hB.2.1 (hB.D.weaken (fun _ _ _ h => hA _ h)) hS 1 0 (f := S 0) rfl rfl (nin hi (by decide)) hdg (fun H1 locs1 h1 _ h3 => ?_)
  rw [ncl (by omega : i < 8)] at h1
  exact kk H1 locs1 ⟨hB.1, h1, hB.2.2⟩ h3
theorem lB_period (i : Nat) {x v : Int32} (hC : CallFix p m c cc nL s args wsL_law RX0) (hB : BW D cI cQ a S s H) (hx : x = nI i) (hi : i < 8) (hv : S 1 i = v) (hdg : decode cc pc = .ok (.iaload, 1)) (kk : W p l e R s m args below meth c H locs cells slots Q (F0 m (pc + 1) ls (.int v :: rest))) : W p l e R s m args below meth c H locs cells slots Q (F0 m pc ls (.int x :: .ref (a 1) :: rest)) := by
  subst hx
  subst hv
  refine va_iald hC.1 hC.2.1 hB.1 hB.2.1 2 0 (f := S 1) rfl rfl (nin hi (by decide)) hdg ?_
  rw [ncl (by omega : i < 8)]
  exact kk
theorem sB_period (i : Nat) {x v : Int32} (hC : CallFix p m c cc nL s args wsL_law RX0) (hB : BW D cI cQ a S s H) (hx : x = nI i) (hi : i < 8) (hS : va_S A0 H0 H locs) (hA : ∀ q, inB a q → A0 q) (hdg : decode cc pc = .ok (.iastore, 1)) (kk : ∀ (H1 : Heap) (locs1 : List Loc), BW D cI cQ a (up2 S 1 i v) s H1 → va_S A0 H0 H1 locs1 → W p l e R s m args below meth c H1 locs1 cells slots Q (F0 m (pc + 1) ls rest)) : W p l e R s m args below meth c H locs cells slots Q (F0 m pc ls (.int v :: .int x :: .ref (a 1) :: rest)) := by
  subst hx
  refine va_iast hC.1 hC.2.1 hB.1 hB.2.1 (hB.D.weaken (fun _ _ _ h => hA _ h)) hS 2 0 (f := S 1) rfl rfl (nin hi (by decide)) hdg (fun H1 locs1 h1 _ h3 => ?_)
  rw [ncl (by omega : i < 8)] at h1
  exact kk H1 locs1 ⟨hB.1, h1, hB.2.2⟩ h3
theorem lB_silence (i : Nat) {x v : Int32} (hC : CallFix p m c cc nL s args wsL_law RX0) (hB : BW D cI cQ a S s H) (hx : x = nI i) (hi : i < 8) (hv : S 2 i = v) (hdg : decode cc pc = .ok (.iaload, 1)) (kk : W p l e R s m args below meth c H locs cells slots Q (F0 m (pc + 1) ls (.int v :: rest))) : W p l e R s m args below meth c H locs cells slots Q (F0 m pc ls (.int x :: .ref (a 2) :: rest)) := by
  subst hx
  subst hv
  refine va_iald hC.1 hC.2.1 hB.1 hB.2.1 3 0 (f := S 2) rfl rfl (nin hi (by decide)) hdg ?_
  rw [ncl (by omega : i < 8)]
  exact kk
theorem sB_silence (i : Nat) {x v : Int32} (hC : CallFix p m c cc nL s args wsL_law RX0) (hB : BW D cI cQ a S s H) (hx : x = nI i) (hi : i < 8) (hS : va_S A0 H0 H locs) (hA : ∀ q, inB a q → A0 q) (hdg : decode cc pc = .ok (.iastore, 1)) (kk : ∀ (H1 : Heap) (locs1 : List Loc), BW D cI cQ a (up2 S 2 i v) s H1 → va_S A0 H0 H1 locs1 → W p l e R s m args below meth c H1 locs1 cells slots Q (F0 m (pc + 1) ls rest)) : W p l e R s m args below meth c H locs cells slots Q (F0 m pc ls (.int v :: .int x :: .ref (a 2) :: rest)) := by
  subst hx
  refine va_iast hC.1 hC.2.1 hB.1 hB.2.1 (hB.D.weaken (fun _ _ _ h => hA _ h)) hS 3 0 (f := S 2) rfl rfl (nin hi (by decide)) hdg (fun H1 locs1 h1 _ h3 => ?_)
  rw [ncl (by omega : i < 8)] at h1
  exact kk H1 locs1 ⟨hB.1, h1, hB.2.2⟩ h3
theorem lB_untilStroke (i : Nat) {x v : Int32} (hC : CallFix p m c cc nL s args wsL_law RX0) (hB : BW D cI cQ a S s H) (hx : x = nI i) (hi : i < 8) (hv : S 3 i = v) (hdg : decode cc pc = .ok (.iaload, 1)) (kk : W p l e R s m args below meth c H locs cells slots Q (F0 m (pc + 1) ls (.int v :: rest))) : W p l e R s m args below meth c H locs cells slots Q (F0 m pc ls (.int x :: .ref (a 3) :: rest)) := by
  subst hx
  subst hv
  refine va_iald hC.1 hC.2.1 hB.1 hB.2.1 4 0 (f := S 3) rfl rfl (nin hi (by decide)) hdg ?_
  rw [ncl (by omega : i < 8)]
  exact kk
theorem sB_untilStroke (i : Nat) {x v : Int32} (hC : CallFix p m c cc nL s args wsL_law RX0) (hB : BW D cI cQ a S s H) (hx : x = nI i) (hi : i < 8) (hS : va_S A0 H0 H locs) (hA : ∀ q, inB a q → A0 q) (hdg : decode cc pc = .ok (.iastore, 1)) (kk : ∀ (H1 : Heap) (locs1 : List Loc), BW D cI cQ a (up2 S 3 i v) s H1 → va_S A0 H0 H1 locs1 → W p l e R s m args below meth c H1 locs1 cells slots Q (F0 m (pc + 1) ls rest)) : W p l e R s m args below meth c H locs cells slots Q (F0 m pc ls (.int v :: .int x :: .ref (a 3) :: rest)) := by
  subst hx
  refine va_iast hC.1 hC.2.1 hB.1 hB.2.1 (hB.D.weaken (fun _ _ _ h => hA _ h)) hS 4 0 (f := S 3) rfl rfl (nin hi (by decide)) hdg (fun H1 locs1 h1 _ h3 => ?_)
  rw [ncl (by omega : i < 8)] at h1
  exact kk H1 locs1 ⟨hB.1, h1, hB.2.2⟩ h3
theorem lB_strokes (i : Nat) {x v : Int32} (hC : CallFix p m c cc nL s args wsL_law RX0) (hB : BW D cI cQ a S s H) (hx : x = nI i) (hi : i < 8) (hv : S 4 i = v) (hdg : decode cc pc = .ok (.iaload, 1)) (kk : W p l e R s m args below meth c H locs cells slots Q (F0 m (pc + 1) ls (.int v :: rest))) : W p l e R s m args below meth c H locs cells slots Q (F0 m pc ls (.int x :: .ref (a 4) :: rest)) := by
  subst hx
  subst hv
  refine va_iald hC.1 hC.2.1 hB.1 hB.2.1 5 0 (f := S 4) rfl rfl (nin hi (by decide)) hdg ?_
  rw [ncl (by omega : i < 8)]
  exact kk
theorem sB_strokes (i : Nat) {x v : Int32} (hC : CallFix p m c cc nL s args wsL_law RX0) (hB : BW D cI cQ a S s H) (hx : x = nI i) (hi : i < 8) (hS : va_S A0 H0 H locs) (hA : ∀ q, inB a q → A0 q) (hdg : decode cc pc = .ok (.iastore, 1)) (kk : ∀ (H1 : Heap) (locs1 : List Loc), BW D cI cQ a (up2 S 4 i v) s H1 → va_S A0 H0 H1 locs1 → W p l e R s m args below meth c H1 locs1 cells slots Q (F0 m (pc + 1) ls rest)) : W p l e R s m args below meth c H locs cells slots Q (F0 m pc ls (.int v :: .int x :: .ref (a 4) :: rest)) := by
  subst hx
  refine va_iast hC.1 hC.2.1 hB.1 hB.2.1 (hB.D.weaken (fun _ _ _ h => hA _ h)) hS 5 0 (f := S 4) rfl rfl (nin hi (by decide)) hdg (fun H1 locs1 h1 _ h3 => ?_)
  rw [ncl (by omega : i < 8)] at h1
  exact kk H1 locs1 ⟨hB.1, h1, hB.2.2⟩ h3
theorem lB_purse (i : Nat) {x v : Int32} (hC : CallFix p m c cc nL s args wsL_law RX0) (hB : BW D cI cQ a S s H) (hx : x = nI i) (hi : i < 6) (hv : S 5 i = v) (hdg : decode cc pc = .ok (.iaload, 1)) (kk : W p l e R s m args below meth c H locs cells slots Q (F0 m (pc + 1) ls (.int v :: rest))) : W p l e R s m args below meth c H locs cells slots Q (F0 m pc ls (.int x :: .ref (a 5) :: rest)) := by
  subst hx
  subst hv
  refine va_iald hC.1 hC.2.1 hB.1 hB.2.1 6 0 (f := S 5) rfl rfl (nin hi (by decide)) hdg ?_
  rw [ncl (by omega : i < 8)]
  exact kk
theorem sB_purse (i : Nat) {x v : Int32} (hC : CallFix p m c cc nL s args wsL_law RX0) (hB : BW D cI cQ a S s H) (hx : x = nI i) (hi : i < 6) (hS : va_S A0 H0 H locs) (hA : ∀ q, inB a q → A0 q) (hdg : decode cc pc = .ok (.iastore, 1)) (kk : ∀ (H1 : Heap) (locs1 : List Loc), BW D cI cQ a (up2 S 5 i v) s H1 → va_S A0 H0 H1 locs1 → W p l e R s m args below meth c H1 locs1 cells slots Q (F0 m (pc + 1) ls rest)) : W p l e R s m args below meth c H locs cells slots Q (F0 m pc ls (.int v :: .int x :: .ref (a 5) :: rest)) := by
  subst hx
  refine va_iast hC.1 hC.2.1 hB.1 hB.2.1 (hB.D.weaken (fun _ _ _ h => hA _ h)) hS 6 0 (f := S 5) rfl rfl (nin hi (by decide)) hdg (fun H1 locs1 h1 _ h3 => ?_)
  rw [ncl (by omega : i < 8)] at h1
  exact kk H1 locs1 ⟨hB.1, h1, hB.2.2⟩ h3
theorem lM_loud (i : Nat) {x v : Int32} (hC : CallFix p m c cc nL s args wsL_law RX1) (hB : MW D cI b N s H) (hx : x = nI i) (hi : i < 8) (hv : N 0 i = v) (hdg : decode cc pc = .ok (.iaload, 1)) (kk : W p l e R s m args below meth c H locs cells slots Q (F0 m (pc + 1) ls (.int v :: rest))) : W p l e R s m args below meth c H locs cells slots Q (F0 m pc ls (.int x :: .ref (b 0) :: rest)) := by
  subst hx
  subst hv
  refine va_iald hC.1 hC.2.1 hB.1 hB.2.1 1 0 (f := N 0) rfl rfl (nin hi (by decide)) hdg ?_
  rw [ncl (by omega : i < 8)]
  exact kk
theorem sM_loud (i : Nat) {x v : Int32} (hC : CallFix p m c cc nL s args wsL_law RX1) (hB : MW D cI b N s H) (hx : x = nI i) (hi : i < 8) (hS : va_S A0 H0 H locs) (hA : ∀ q, inM b q → A0 q) (hdg : decode cc pc = .ok (.iastore, 1)) (kk : ∀ (H1 : Heap) (locs1 : List Loc), MW D cI b (up2 N 0 i v) s H1 → va_S A0 H0 H1 locs1 → W p l e R s m args below meth c H1 locs1 cells slots Q (F0 m (pc + 1) ls rest)) : W p l e R s m args below meth c H locs cells slots Q (F0 m pc ls (.int v :: .int x :: .ref (b 0) :: rest)) := by
  subst hx
  refine va_iast hC.1 hC.2.1 hB.1 hB.2.1 (hB.D.weaken (fun _ _ _ h => hA _ h)) hS 1 0 (f := N 0) rfl rfl (nin hi (by decide)) hdg (fun H1 locs1 h1 _ h3 => ?_)
  rw [ncl (by omega : i < 8)] at h1
  exact kk H1 locs1 ⟨hB.1, h1, hB.2.2⟩ h3
theorem lM_period (i : Nat) {x v : Int32} (hC : CallFix p m c cc nL s args wsL_law RX1) (hB : MW D cI b N s H) (hx : x = nI i) (hi : i < 8) (hv : N 1 i = v) (hdg : decode cc pc = .ok (.iaload, 1)) (kk : W p l e R s m args below meth c H locs cells slots Q (F0 m (pc + 1) ls (.int v :: rest))) : W p l e R s m args below meth c H locs cells slots Q (F0 m pc ls (.int x :: .ref (b 1) :: rest)) := by
  subst hx
  subst hv
  refine va_iald hC.1 hC.2.1 hB.1 hB.2.1 2 0 (f := N 1) rfl rfl (nin hi (by decide)) hdg ?_
  rw [ncl (by omega : i < 8)]
  exact kk
theorem sM_period (i : Nat) {x v : Int32} (hC : CallFix p m c cc nL s args wsL_law RX1) (hB : MW D cI b N s H) (hx : x = nI i) (hi : i < 8) (hS : va_S A0 H0 H locs) (hA : ∀ q, inM b q → A0 q) (hdg : decode cc pc = .ok (.iastore, 1)) (kk : ∀ (H1 : Heap) (locs1 : List Loc), MW D cI b (up2 N 1 i v) s H1 → va_S A0 H0 H1 locs1 → W p l e R s m args below meth c H1 locs1 cells slots Q (F0 m (pc + 1) ls rest)) : W p l e R s m args below meth c H locs cells slots Q (F0 m pc ls (.int v :: .int x :: .ref (b 1) :: rest)) := by
  subst hx
  refine va_iast hC.1 hC.2.1 hB.1 hB.2.1 (hB.D.weaken (fun _ _ _ h => hA _ h)) hS 2 0 (f := N 1) rfl rfl (nin hi (by decide)) hdg (fun H1 locs1 h1 _ h3 => ?_)
  rw [ncl (by omega : i < 8)] at h1
  exact kk H1 locs1 ⟨hB.1, h1, hB.2.2⟩ h3
theorem lM_beat (i : Nat) {x v : Int32} (hC : CallFix p m c cc nL s args wsL_law RX1) (hB : MW D cI b N s H) (hx : x = nI i) (hi : i < 8) (hv : N 2 i = v) (hdg : decode cc pc = .ok (.iaload, 1)) (kk : W p l e R s m args below meth c H locs cells slots Q (F0 m (pc + 1) ls (.int v :: rest))) : W p l e R s m args below meth c H locs cells slots Q (F0 m pc ls (.int x :: .ref (b 2) :: rest)) := by
  subst hx
  subst hv
  refine va_iald hC.1 hC.2.1 hB.1 hB.2.1 3 0 (f := N 2) rfl rfl (nin hi (by decide)) hdg ?_
  rw [ncl (by omega : i < 8)]
  exact kk
theorem sM_beat (i : Nat) {x v : Int32} (hC : CallFix p m c cc nL s args wsL_law RX1) (hB : MW D cI b N s H) (hx : x = nI i) (hi : i < 8) (hS : va_S A0 H0 H locs) (hA : ∀ q, inM b q → A0 q) (hdg : decode cc pc = .ok (.iastore, 1)) (kk : ∀ (H1 : Heap) (locs1 : List Loc), MW D cI b (up2 N 2 i v) s H1 → va_S A0 H0 H1 locs1 → W p l e R s m args below meth c H1 locs1 cells slots Q (F0 m (pc + 1) ls rest)) : W p l e R s m args below meth c H locs cells slots Q (F0 m pc ls (.int v :: .int x :: .ref (b 2) :: rest)) := by
  subst hx
  refine va_iast hC.1 hC.2.1 hB.1 hB.2.1 (hB.D.weaken (fun _ _ _ h => hA _ h)) hS 3 0 (f := N 2) rfl rfl (nin hi (by decide)) hdg (fun H1 locs1 h1 _ h3 => ?_)
  rw [ncl (by omega : i < 8)] at h1
  exact kk H1 locs1 ⟨hB.1, h1, hB.2.2⟩ h3
theorem lM_now (i : Nat) {x v : Int32} (hC : CallFix p m c cc nL s args wsL_law RX1) (hB : MW D cI b N s H) (hx : x = nI i) (hi : i < 71) (hv : N 3 i = v) (hdg : decode cc pc = .ok (.iaload, 1)) (kk : W p l e R s m args below meth c H locs cells slots Q (F0 m (pc + 1) ls (.int v :: rest))) : W p l e R s m args below meth c H locs cells slots Q (F0 m pc ls (.int x :: .ref (b 3) :: rest)) := by
  subst hx
  subst hv
  refine va_iald hC.1 hC.2.1 hB.1 hB.2.1 4 0 (f := N 3) rfl rfl (nin hi (by decide)) hdg ?_
  rw [ncl71 (by omega : i < 71)]
  exact kk
theorem sM_now (i : Nat) {x v : Int32} (hC : CallFix p m c cc nL s args wsL_law RX1) (hB : MW D cI b N s H) (hx : x = nI i) (hi : i < 71) (hS : va_S A0 H0 H locs) (hA : ∀ q, inM b q → A0 q) (hdg : decode cc pc = .ok (.iastore, 1)) (kk : ∀ (H1 : Heap) (locs1 : List Loc), MW D cI b (up2 N 3 i v) s H1 → va_S A0 H0 H1 locs1 → W p l e R s m args below meth c H1 locs1 cells slots Q (F0 m (pc + 1) ls rest)) : W p l e R s m args below meth c H locs cells slots Q (F0 m pc ls (.int v :: .int x :: .ref (b 3) :: rest)) := by
  subst hx
  refine va_iast hC.1 hC.2.1 hB.1 hB.2.1 (hB.D.weaken (fun _ _ _ h => hA _ h)) hS 4 0 (f := N 3) rfl rfl (nin hi (by decide)) hdg (fun H1 locs1 h1 _ h3 => ?_)
  rw [ncl71 (by omega : i < 71)] at h1
  exact kk H1 locs1 ⟨hB.1, h1, hB.2.2⟩ h3
theorem lM_kept (i : Nat) {x v : Int32} (hC : CallFix p m c cc nL s args wsL_law RX1) (hB : MW D cI b N s H) (hx : x = nI i) (hi : i < 71) (hv : N 4 i = v) (hdg : decode cc pc = .ok (.iaload, 1)) (kk : W p l e R s m args below meth c H locs cells slots Q (F0 m (pc + 1) ls (.int v :: rest))) : W p l e R s m args below meth c H locs cells slots Q (F0 m pc ls (.int x :: .ref (b 4) :: rest)) := by
  subst hx
  subst hv
  refine va_iald hC.1 hC.2.1 hB.1 hB.2.1 5 0 (f := N 4) rfl rfl (nin hi (by decide)) hdg ?_
  rw [ncl71 (by omega : i < 71)]
  exact kk
theorem sM_kept (i : Nat) {x v : Int32} (hC : CallFix p m c cc nL s args wsL_law RX1) (hB : MW D cI b N s H) (hx : x = nI i) (hi : i < 71) (hS : va_S A0 H0 H locs) (hA : ∀ q, inM b q → A0 q) (hdg : decode cc pc = .ok (.iastore, 1)) (kk : ∀ (H1 : Heap) (locs1 : List Loc), MW D cI b (up2 N 4 i v) s H1 → va_S A0 H0 H1 locs1 → W p l e R s m args below meth c H1 locs1 cells slots Q (F0 m (pc + 1) ls rest)) : W p l e R s m args below meth c H locs cells slots Q (F0 m pc ls (.int v :: .int x :: .ref (b 4) :: rest)) := by
  subst hx
  refine va_iast hC.1 hC.2.1 hB.1 hB.2.1 (hB.D.weaken (fun _ _ _ h => hA _ h)) hS 5 0 (f := N 4) rfl rfl (nin hi (by decide)) hdg (fun H1 locs1 h1 _ h3 => ?_)
  rw [ncl71 (by omega : i < 71)] at h1
  exact kk H1 locs1 ⟨hB.1, h1, hB.2.2⟩ h3
theorem lB_row (r : Nat) {x : Int32} (hC : CallFix p m c cc nL s args wsL_law RX0) (hB : BW D cI cQ a S s H) (hx : x = nI r) (hr : r < 6) (hdg : decode cc pc = .ok (.aaload, 1)) (kk : W p l e R s m args below meth c H locs cells slots Q (F0 m (pc + 1) ls (.ref (a (7 + r)) :: rest))) : W p l e R s m args below meth c H locs cells slots Q (F0 m pc ls (.int x :: .ref (a 6) :: rest)) := by
  subst hx
  have hin : vp_in (nI r) 6 := nin hr (by decide)
  have hlt : (nI r).toNatClampNeg < 6 := Nat.not_le.mp fun q => hin (Or.inr q)
  have e1 : va_rf (if r < 6 then some (a (7 + r)) else none) = .ref (a (7 + r)) := by rw [if_pos hr]; rfl
  refine W.aald (v := .ref (a (7 + r))) (ty := .array .int) hC.1 hC.2.1 (hB.2.1 7 _ rfl) ((hB.1.2 1 _ rfl).1 6 (fun j => va_rf (if j < 6 then some (a (7 + j)) else none))) rfl (fun q => by cases q) (by show ¬ (nI r < 0 ∨ (arrV _ _ _).slots.size ≤ _); rw [arrV_size]; exact hin) (by show (arrV _ _ _).slots[_]? = _; rw [arrV_read _ _ hlt]; rw [ncl (by omega : r < 8)]; exact congrArg some e1) rfl rfl hdg kk
theorem lB_held (r i : Nat) {x v : Int32} (hC : CallFix p m c cc nL s args wsL_law RX0) (hB : BW D cI cQ a S s H) (hr : r < 6) (hx : x = nI i) (hi : i < 8) (hv : S (7 + r) i = v) (hdg : decode cc pc = .ok (.iaload, 1)) (kk : W p l e R s m args below meth c H locs cells slots Q (F0 m (pc + 1) ls (.int v :: rest))) : W p l e R s m args below meth c H locs cells slots Q (F0 m pc ls (.int x :: .ref (a (7 + r)) :: rest)) := by
  subst hx
  subst hv
  refine va_iald hC.1 hC.2.1 hB.1 hB.2.1 (8 + r) 0 (f := S (7 + r)) (vwB_row r hr) rfl (nin hi (by decide)) hdg ?_
  rw [ncl hi]
  exact kk
theorem sB_held (r i : Nat) {x v : Int32} (hC : CallFix p m c cc nL s args wsL_law RX0) (hB : BW D cI cQ a S s H) (hr : r < 6) (hx : x = nI i) (hi : i < 8) (hS : va_S A0 H0 H locs) (hA : ∀ q, inB a q → A0 q) (hdg : decode cc pc = .ok (.iastore, 1)) (kk : ∀ (H1 : Heap) (locs1 : List Loc), BW D cI cQ a (up2 S (7 + r) i v) s H1 → va_S A0 H0 H1 locs1 → W p l e R s m args below meth c H1 locs1 cells slots Q (F0 m (pc + 1) ls rest)) : W p l e R s m args below meth c H locs cells slots Q (F0 m pc ls (.int v :: .int x :: .ref (a (7 + r)) :: rest)) := by
  subst hx
  refine va_iast hC.1 hC.2.1 hB.1 hB.2.1 (hB.D.weaken (fun _ _ _ h => hA _ h)) hS (8 + r) 0 (f := S (7 + r)) (vwB_row r hr) rfl (nin hi (by decide)) hdg (fun H1 locs1 h1 _ h3 => ?_)
  rw [ncl hi, vwB_setrow r hr] at h1
  exact kk H1 locs1 ⟨hB.1, h1, hB.2.2⟩ h3
theorem k_X1_isIn {v : Value} {Wd : State → Heap → Prop} (hC : CallFix p m c cc nL s args wsL_law RX1) (hM : Rd l yX1_isIn cX1_isIn 3 (some .boolean) rm Wd As v) (hm : Mov Wd) (hB : Wd s H) (hn : As.length = 3) (hrm : rm.cells = 0 ∧ rm.slots = 0) (hR : rm.frames + 1 ≤ R.frames ∧ 8 + (3 + 11) + rm.locals ≤ R.locals) (hf : cells ≤ R.cells ∧ slots ≤ R.slots) (hls : ls.size = nL) (hst : st0 = As.reverse ++ rest) (hr8 : (rest.map fun v => v.category).sum ≤ 8) (hdg : decode cc pc = .ok (.invokestatic 32, 3)) (kk : W p l e R s m args below meth c H locs cells slots Q (F0 m (pc + 3) ls (v :: rest))) : W p l e R s m args below meth c H locs cells slots Q (F0 m pc ls st0) :=
  kS hC hM hm hB (good_S mw_57 mw_58 mw_5 mw_59) hrm.1 hrm.2 ⟨by decide +kernel, by decide +kernel, by rw [hn]; decide +kernel⟩ hR hf hls hst hr8 hdg kk
theorem k_X1_fail {v : Value} (hC : CallFix p m c cc nL s args wsL_law RX1) (hM : Rd l yX1_fail cX1_fail 2 (some .int) rm (MW D cI b N) (.ref (b 5) :: As) v) (hB : MW D cI b N s H) (hn : As.length = 1) (hrm : rm.cells = 0 ∧ rm.slots = 0) (hR : rm.frames + 1 ≤ R.frames ∧ 8 + (2 + 11) + rm.locals ≤ R.locals) (hf : cells ≤ R.cells ∧ slots ≤ R.slots) (hls : ls.size = nL) (hst : st0 = As.reverse ++ .ref (b 5) :: rest) (hr8 : (rest.map fun v => v.category).sum ≤ 8) (hdg : decode cc pc = .ok (.invokevirtual 68, 3)) (kk : W p l e R s m args below meth c H locs cells slots Q (F0 m (pc + 3) ls (v :: rest))) : W p l e R s m args below meth c H locs cells slots Q (F0 m pc ls st0) :=
  kV hC hM mov_M hB (rec_M hB) (good_V mw_60 mw_61 mw_62 mw_5 mw_63) hrm.1 hrm.2 ⟨rfl, by decide +kernel, by decide +kernel, by rw [hn]; decide +kernel⟩ hR hf hls hst hr8 hdg kk
theorem kw_X1_fail {X' : bS} {mc ms : Nat} {v : Value} (hC : CallFix p m c cc nL s args wsL_law RX1) (hM : Wr l yX1_fail cX1_fail 2 (some .int) rm (MW D cI b N) (MW D cI b X') (inM b) (.ref (b 5) :: As) (some v) mc ms) (hB : MW D cI b N s H) (hn : As.length = 1) (hrm : rm.cells = mc ∧ rm.slots = ms) (hR : rm.frames + 1 ≤ R.frames ∧ 8 + (2 + 11) + rm.locals ≤ R.locals) (hf : cells + mc ≤ R.cells ∧ slots + ms ≤ R.slots) (hS : va_S A0 H0 H locs) (hA : ∀ q, inM b q → A0 q) (hls : ls.size = nL) (hst : st0 = As.reverse ++ .ref (b 5) :: rest) (hr8 : (rest.map fun v => v.category).sum ≤ 8) (hdg : decode cc pc = .ok (.invokevirtual 68, 3)) (kk : ∀ (H1 : Heap) (locs1 : List Loc), MW D cI b X' s H1 → va_S A0 H0 H1 locs1 → W p l e R s m args below meth c H1 locs1 (cells + mc) (slots + ms) Q (F0 m (pc + 3) ls (v :: rest))) : W p l e R s m args below meth c H locs cells slots Q (F0 m pc ls st0) :=
  kVw hC hM mov_M mov_M hB (rec_M hB) (good_V mw_60 mw_61 mw_62 mw_5 mw_63) hrm.1 hrm.2 ⟨rfl, by decide +kernel, by decide +kernel, by rw [hn]; decide +kernel⟩ hR hf hS hA hls hst hr8 hdg (fun H1 locs1 h1 h2 _ _ => kk H1 locs1 h1 h2)
theorem k_X0_requireTrader {v : Value} (hC : CallFix p m c cc nL s args wsL_law RX0) (hM : Rd l yX0_requireTrader cX0_requireTrader 2 none rm (BW D cI cQ a S) (.ref (a 13) :: As) v) (hB : BW D cI cQ a S s H) (hn : As.length = 1) (hrm : rm.cells = 0 ∧ rm.slots = 0) (hR : rm.frames + 1 ≤ R.frames ∧ 8 + (2 + 11) + rm.locals ≤ R.locals) (hf : cells ≤ R.cells ∧ slots ≤ R.slots) (hls : ls.size = nL) (hst : st0 = As.reverse ++ .ref (a 13) :: rest) (hr8 : (rest.map fun v => v.category).sum ≤ 8) (hdg : decode cc pc = .ok (.invokevirtual 67, 3)) (kk : W p l e R s m args below meth c H locs cells slots Q (F0 m (pc + 3) ls (v :: rest))) : W p l e R s m args below meth c H locs cells slots Q (F0 m pc ls st0) :=
  kV hC hM mov_B hB (rec_B hB) (good_V mw_89 mw_90 mw_91 mw_2 mw_92) hrm.1 hrm.2 ⟨rfl, by decide +kernel, by decide +kernel, by rw [hn]; decide +kernel⟩ hR hf hls hst hr8 hdg kk
theorem kn_X0_requireTrader (hC : CallFix p m c cc nL s args wsL_law RX0) (hM : Rn l yX0_requireTrader cX0_requireTrader 2 none rm (BW D cI cQ a S) (.ref (a 13) :: As)) (hB : BW D cI cQ a S s H) (hn : As.length = 1) (hrm : rm.cells = 0 ∧ rm.slots = 0) (hR : rm.frames + 1 ≤ R.frames ∧ 8 + (2 + 11) + rm.locals ≤ R.locals) (hf : cells ≤ R.cells ∧ slots ≤ R.slots) (hls : ls.size = nL) (hst : st0 = As.reverse ++ .ref (a 13) :: rest) (hr8 : (rest.map fun v => v.category).sum ≤ 8) (hdg : decode cc pc = .ok (.invokevirtual 67, 3)) (kk : W p l e R s m args below meth c H locs cells slots Q (F0 m (pc + 3) ls rest)) : W p l e R s m args below meth c H locs cells slots Q (F0 m pc ls st0) :=
  kVn hC hM mov_B hB (rec_B hB) (good_V mw_89 mw_90 mw_91 mw_2 mw_92) hrm.1 hrm.2 ⟨rfl, by decide +kernel, by decide +kernel, by rw [hn]; decide +kernel⟩ hR hf hls hst hr8 hdg kk
theorem kw_X0_requireTrader {X' : bS} {mc ms : Nat} (hC : CallFix p m c cc nL s args wsL_law RX0) (hM : Wr l yX0_requireTrader cX0_requireTrader 2 none rm (BW D cI cQ a S) (BW D cI cQ a X') (inB a) (.ref (a 13) :: As) none mc ms) (hB : BW D cI cQ a S s H) (hn : As.length = 1) (hrm : rm.cells = mc ∧ rm.slots = ms) (hR : rm.frames + 1 ≤ R.frames ∧ 8 + (2 + 11) + rm.locals ≤ R.locals) (hf : cells + mc ≤ R.cells ∧ slots + ms ≤ R.slots) (hS : va_S A0 H0 H locs) (hA : ∀ q, inB a q → A0 q) (hls : ls.size = nL) (hst : st0 = As.reverse ++ .ref (a 13) :: rest) (hr8 : (rest.map fun v => v.category).sum ≤ 8) (hdg : decode cc pc = .ok (.invokevirtual 67, 3)) (kk : ∀ (H1 : Heap) (locs1 : List Loc), BW D cI cQ a X' s H1 → va_S A0 H0 H1 locs1 → W p l e R s m args below meth c H1 locs1 (cells + mc) (slots + ms) Q (F0 m (pc + 3) ls rest)) : W p l e R s m args below meth c H locs cells slots Q (F0 m pc ls st0) :=
  kVw hC hM mov_B mov_B hB (rec_B hB) (good_V mw_89 mw_90 mw_91 mw_2 mw_92) hrm.1 hrm.2 ⟨rfl, by decide +kernel, by decide +kernel, by rw [hn]; decide +kernel⟩ hR hf hS hA hls hst hr8 hdg (fun H1 locs1 h1 h2 _ _ => kk H1 locs1 h1 h2)
theorem k_X0_requireTower {v : Value} (hC : CallFix p m c cc nL s args wsL_law RX0) (hM : Rd l yX0_requireTower cX0_requireTower 2 none rm (BW D cI cQ a S) (.ref (a 13) :: As) v) (hB : BW D cI cQ a S s H) (hn : As.length = 1) (hrm : rm.cells = 0 ∧ rm.slots = 0) (hR : rm.frames + 1 ≤ R.frames ∧ 8 + (2 + 11) + rm.locals ≤ R.locals) (hf : cells ≤ R.cells ∧ slots ≤ R.slots) (hls : ls.size = nL) (hst : st0 = As.reverse ++ .ref (a 13) :: rest) (hr8 : (rest.map fun v => v.category).sum ≤ 8) (hdg : decode cc pc = .ok (.invokevirtual 71, 3)) (kk : W p l e R s m args below meth c H locs cells slots Q (F0 m (pc + 3) ls (v :: rest))) : W p l e R s m args below meth c H locs cells slots Q (F0 m pc ls st0) :=
  kV hC hM mov_B hB (rec_B hB) (good_V mw_95 mw_96 mw_97 mw_2 mw_98) hrm.1 hrm.2 ⟨rfl, by decide +kernel, by decide +kernel, by rw [hn]; decide +kernel⟩ hR hf hls hst hr8 hdg kk
theorem kn_X0_requireTower (hC : CallFix p m c cc nL s args wsL_law RX0) (hM : Rn l yX0_requireTower cX0_requireTower 2 none rm (BW D cI cQ a S) (.ref (a 13) :: As)) (hB : BW D cI cQ a S s H) (hn : As.length = 1) (hrm : rm.cells = 0 ∧ rm.slots = 0) (hR : rm.frames + 1 ≤ R.frames ∧ 8 + (2 + 11) + rm.locals ≤ R.locals) (hf : cells ≤ R.cells ∧ slots ≤ R.slots) (hls : ls.size = nL) (hst : st0 = As.reverse ++ .ref (a 13) :: rest) (hr8 : (rest.map fun v => v.category).sum ≤ 8) (hdg : decode cc pc = .ok (.invokevirtual 71, 3)) (kk : W p l e R s m args below meth c H locs cells slots Q (F0 m (pc + 3) ls rest)) : W p l e R s m args below meth c H locs cells slots Q (F0 m pc ls st0) :=
  kVn hC hM mov_B hB (rec_B hB) (good_V mw_95 mw_96 mw_97 mw_2 mw_98) hrm.1 hrm.2 ⟨rfl, by decide +kernel, by decide +kernel, by rw [hn]; decide +kernel⟩ hR hf hls hst hr8 hdg kk
theorem kw_X0_requireTower {X' : bS} {mc ms : Nat} (hC : CallFix p m c cc nL s args wsL_law RX0) (hM : Wr l yX0_requireTower cX0_requireTower 2 none rm (BW D cI cQ a S) (BW D cI cQ a X') (inB a) (.ref (a 13) :: As) none mc ms) (hB : BW D cI cQ a S s H) (hn : As.length = 1) (hrm : rm.cells = mc ∧ rm.slots = ms) (hR : rm.frames + 1 ≤ R.frames ∧ 8 + (2 + 11) + rm.locals ≤ R.locals) (hf : cells + mc ≤ R.cells ∧ slots + ms ≤ R.slots) (hS : va_S A0 H0 H locs) (hA : ∀ q, inB a q → A0 q) (hls : ls.size = nL) (hst : st0 = As.reverse ++ .ref (a 13) :: rest) (hr8 : (rest.map fun v => v.category).sum ≤ 8) (hdg : decode cc pc = .ok (.invokevirtual 71, 3)) (kk : ∀ (H1 : Heap) (locs1 : List Loc), BW D cI cQ a X' s H1 → va_S A0 H0 H1 locs1 → W p l e R s m args below meth c H1 locs1 (cells + mc) (slots + ms) Q (F0 m (pc + 3) ls rest)) : W p l e R s m args below meth c H locs cells slots Q (F0 m pc ls st0) :=
  kVw hC hM mov_B mov_B hB (rec_B hB) (good_V mw_95 mw_96 mw_97 mw_2 mw_98) hrm.1 hrm.2 ⟨rfl, by decide +kernel, by decide +kernel, by rw [hn]; decide +kernel⟩ hR hf hS hA hls hst hr8 hdg (fun H1 locs1 h1 h2 _ _ => kk H1 locs1 h1 h2)
theorem kn_X0_requireTradable {Wd : State → Heap → Prop} (hC : CallFix p m c cc nL s args wsL_law RX0) (hM : Rn l yX0_requireTradable cX0_requireTradable 1 none rm Wd As) (hm : Mov Wd) (hB : Wd s H) (hn : As.length = 1) (hrm : rm.cells = 0 ∧ rm.slots = 0) (hR : rm.frames + 1 ≤ R.frames ∧ 8 + (1 + 11) + rm.locals ≤ R.locals) (hf : cells ≤ R.cells ∧ slots ≤ R.slots) (hls : ls.size = nL) (hst : st0 = As.reverse ++ rest) (hr8 : (rest.map fun v => v.category).sum ≤ 8) (hdg : decode cc pc = .ok (.invokestatic 74, 3)) (kk : W p l e R s m args below meth c H locs cells slots Q (F0 m (pc + 3) ls rest)) : W p l e R s m args below meth c H locs cells slots Q (F0 m pc ls st0) :=
  kSn hC hM hm hB (good_S mw_99 mw_100 mw_2 mw_101) hrm.1 hrm.2 ⟨by decide +kernel, by decide +kernel, by rw [hn]; decide +kernel⟩ hR hf hls hst hr8 hdg kk
theorem k_X0_priceNow {v : Value} (hC : CallFix p m c cc nL s args wsL_law RX0) (hM : Rd l yX0_priceNow cX0_priceNow 2 (some .int) rm (BW D cI cQ a S) (.ref (a 13) :: As) v) (hB : BW D cI cQ a S s H) (hn : As.length = 1) (hrm : rm.cells = 0 ∧ rm.slots = 0) (hR : rm.frames + 1 ≤ R.frames ∧ 8 + (2 + 11) + rm.locals ≤ R.locals) (hf : cells ≤ R.cells ∧ slots ≤ R.slots) (hls : ls.size = nL) (hst : st0 = As.reverse ++ .ref (a 13) :: rest) (hr8 : (rest.map fun v => v.category).sum ≤ 8) (hdg : decode cc pc = .ok (.invokevirtual 77, 3)) (kk : W p l e R s m args below meth c H locs cells slots Q (F0 m (pc + 3) ls (v :: rest))) : W p l e R s m args below meth c H locs cells slots Q (F0 m pc ls st0) :=
  kV hC hM mov_B hB (rec_B hB) (good_V mw_102 mw_103 mw_104 mw_2 mw_105) hrm.1 hrm.2 ⟨rfl, by decide +kernel, by decide +kernel, by rw [hn]; decide +kernel⟩ hR hf hls hst hr8 hdg kk
theorem kw_X0_priceNow {X' : bS} {mc ms : Nat} {v : Value} (hC : CallFix p m c cc nL s args wsL_law RX0) (hM : Wr l yX0_priceNow cX0_priceNow 2 (some .int) rm (BW D cI cQ a S) (BW D cI cQ a X') (inB a) (.ref (a 13) :: As) (some v) mc ms) (hB : BW D cI cQ a S s H) (hn : As.length = 1) (hrm : rm.cells = mc ∧ rm.slots = ms) (hR : rm.frames + 1 ≤ R.frames ∧ 8 + (2 + 11) + rm.locals ≤ R.locals) (hf : cells + mc ≤ R.cells ∧ slots + ms ≤ R.slots) (hS : va_S A0 H0 H locs) (hA : ∀ q, inB a q → A0 q) (hls : ls.size = nL) (hst : st0 = As.reverse ++ .ref (a 13) :: rest) (hr8 : (rest.map fun v => v.category).sum ≤ 8) (hdg : decode cc pc = .ok (.invokevirtual 77, 3)) (kk : ∀ (H1 : Heap) (locs1 : List Loc), BW D cI cQ a X' s H1 → va_S A0 H0 H1 locs1 → W p l e R s m args below meth c H1 locs1 (cells + mc) (slots + ms) Q (F0 m (pc + 3) ls (v :: rest))) : W p l e R s m args below meth c H locs cells slots Q (F0 m pc ls st0) :=
  kVw hC hM mov_B mov_B hB (rec_B hB) (good_V mw_102 mw_103 mw_104 mw_2 mw_105) hrm.1 hrm.2 ⟨rfl, by decide +kernel, by decide +kernel, by rw [hn]; decide +kernel⟩ hR hf hS hA hls hst hr8 hdg (fun H1 locs1 h1 h2 _ _ => kk H1 locs1 h1 h2)
theorem k_X0_dovesNow {v : Value} (hC : CallFix p m c cc nL s args wsL_law RX0) (hM : Rd l yX0_dovesNow cX0_dovesNow 4 (some .int) rm (BW D cI cQ a S) (.ref (a 13) :: As) v) (hB : BW D cI cQ a S s H) (hn : As.length = 1) (hrm : rm.cells = 0 ∧ rm.slots = 0) (hR : rm.frames + 1 ≤ R.frames ∧ 8 + (4 + 11) + rm.locals ≤ R.locals) (hf : cells ≤ R.cells ∧ slots ≤ R.slots) (hls : ls.size = nL) (hst : st0 = As.reverse ++ .ref (a 13) :: rest) (hr8 : (rest.map fun v => v.category).sum ≤ 8) (hdg : decode cc pc = .ok (.invokevirtual 94, 3)) (kk : W p l e R s m args below meth c H locs cells slots Q (F0 m (pc + 3) ls (v :: rest))) : W p l e R s m args below meth c H locs cells slots Q (F0 m pc ls st0) :=
  kV hC hM mov_B hB (rec_B hB) (good_V mw_106 mw_107 mw_108 mw_2 mw_109) hrm.1 hrm.2 ⟨rfl, by decide +kernel, by decide +kernel, by rw [hn]; decide +kernel⟩ hR hf hls hst hr8 hdg kk
theorem kw_X0_dovesNow {X' : bS} {mc ms : Nat} {v : Value} (hC : CallFix p m c cc nL s args wsL_law RX0) (hM : Wr l yX0_dovesNow cX0_dovesNow 4 (some .int) rm (BW D cI cQ a S) (BW D cI cQ a X') (inB a) (.ref (a 13) :: As) (some v) mc ms) (hB : BW D cI cQ a S s H) (hn : As.length = 1) (hrm : rm.cells = mc ∧ rm.slots = ms) (hR : rm.frames + 1 ≤ R.frames ∧ 8 + (4 + 11) + rm.locals ≤ R.locals) (hf : cells + mc ≤ R.cells ∧ slots + ms ≤ R.slots) (hS : va_S A0 H0 H locs) (hA : ∀ q, inB a q → A0 q) (hls : ls.size = nL) (hst : st0 = As.reverse ++ .ref (a 13) :: rest) (hr8 : (rest.map fun v => v.category).sum ≤ 8) (hdg : decode cc pc = .ok (.invokevirtual 94, 3)) (kk : ∀ (H1 : Heap) (locs1 : List Loc), BW D cI cQ a X' s H1 → va_S A0 H0 H1 locs1 → W p l e R s m args below meth c H1 locs1 (cells + mc) (slots + ms) Q (F0 m (pc + 3) ls (v :: rest))) : W p l e R s m args below meth c H locs cells slots Q (F0 m pc ls st0) :=
  kVw hC hM mov_B mov_B hB (rec_B hB) (good_V mw_106 mw_107 mw_108 mw_2 mw_109) hrm.1 hrm.2 ⟨rfl, by decide +kernel, by decide +kernel, by rw [hn]; decide +kernel⟩ hR hf hS hA hls hst hr8 hdg (fun H1 locs1 h1 h2 _ _ => kk H1 locs1 h1 h2)
theorem k_X0_dovesFor {v : Value} {Wd : State → Heap → Prop} (hC : CallFix p m c cc nL s args wsL_law RX0) (hM : Rd l yX0_dovesFor cX0_dovesFor 1 (some .int) rm Wd As v) (hm : Mov Wd) (hB : Wd s H) (hn : As.length = 1) (hrm : rm.cells = 0 ∧ rm.slots = 0) (hR : rm.frames + 1 ≤ R.frames ∧ 8 + (1 + 11) + rm.locals ≤ R.locals) (hf : cells ≤ R.cells ∧ slots ≤ R.slots) (hls : ls.size = nL) (hst : st0 = As.reverse ++ rest) (hr8 : (rest.map fun v => v.category).sum ≤ 8) (hdg : decode cc pc = .ok (.invokestatic 169, 3)) (kk : W p l e R s m args below meth c H locs cells slots Q (F0 m (pc + 3) ls (v :: rest))) : W p l e R s m args below meth c H locs cells slots Q (F0 m pc ls st0) :=
  kS hC hM hm hB (good_S mw_110 mw_111 mw_2 mw_112) hrm.1 hrm.2 ⟨by decide +kernel, by decide +kernel, by rw [hn]; decide +kernel⟩ hR hf hls hst hr8 hdg kk
theorem k_X0_price {v : Value} {Wd : State → Heap → Prop} (hC : CallFix p m c cc nL s args wsL_law RX0) (hM : Rd l yX0_price cX0_price 3 (some .int) rm Wd As v) (hm : Mov Wd) (hB : Wd s H) (hn : As.length = 3) (hrm : rm.cells = 0 ∧ rm.slots = 0) (hR : rm.frames + 1 ≤ R.frames ∧ 8 + (3 + 11) + rm.locals ≤ R.locals) (hf : cells ≤ R.cells ∧ slots ≤ R.slots) (hls : ls.size = nL) (hst : st0 = As.reverse ++ rest) (hr8 : (rest.map fun v => v.category).sum ≤ 8) (hdg : decode cc pc = .ok (.invokestatic 172, 3)) (kk : W p l e R s m args below meth c H locs cells slots Q (F0 m (pc + 3) ls (v :: rest))) : W p l e R s m args below meth c H locs cells slots Q (F0 m pc ls st0) :=
  kS hC hM hm hB (good_S mw_117 mw_118 mw_2 mw_119) hrm.1 hrm.2 ⟨by decide +kernel, by decide +kernel, by rw [hn]; decide +kernel⟩ hR hf hls hst hr8 hdg kk
theorem k_X1_can {v : Value} (hC : CallFix p m c cc nL s args wsL_law RX1) (hM : Rd l yX1_can cX1_can 4 (some .boolean) rm (MW D cI b N) (.ref (b 5) :: As) v) (hB : MW D cI b N s H) (hn : As.length = 3) (hrm : rm.cells = 0 ∧ rm.slots = 0) (hR : rm.frames + 1 ≤ R.frames ∧ 8 + (4 + 11) + rm.locals ≤ R.locals) (hf : cells ≤ R.cells ∧ slots ≤ R.slots) (hls : ls.size = nL) (hst : st0 = As.reverse ++ .ref (b 5) :: rest) (hr8 : (rest.map fun v => v.category).sum ≤ 8) (hdg : decode cc pc = .ok (.invokevirtual 78, 3)) (kk : W p l e R s m args below meth c H locs cells slots Q (F0 m (pc + 3) ls (v :: rest))) : W p l e R s m args below meth c H locs cells slots Q (F0 m pc ls st0) :=
  kV hC hM mov_M hB (rec_M hB) (good_V mw_124 mw_125 mw_126 mw_5 mw_127) hrm.1 hrm.2 ⟨rfl, by decide +kernel, by decide +kernel, by rw [hn]; decide +kernel⟩ hR hf hls hst hr8 hdg kk
theorem kw_X1_can {X' : bS} {mc ms : Nat} {v : Value} (hC : CallFix p m c cc nL s args wsL_law RX1) (hM : Wr l yX1_can cX1_can 4 (some .boolean) rm (MW D cI b N) (MW D cI b X') (inM b) (.ref (b 5) :: As) (some v) mc ms) (hB : MW D cI b N s H) (hn : As.length = 3) (hrm : rm.cells = mc ∧ rm.slots = ms) (hR : rm.frames + 1 ≤ R.frames ∧ 8 + (4 + 11) + rm.locals ≤ R.locals) (hf : cells + mc ≤ R.cells ∧ slots + ms ≤ R.slots) (hS : va_S A0 H0 H locs) (hA : ∀ q, inM b q → A0 q) (hls : ls.size = nL) (hst : st0 = As.reverse ++ .ref (b 5) :: rest) (hr8 : (rest.map fun v => v.category).sum ≤ 8) (hdg : decode cc pc = .ok (.invokevirtual 78, 3)) (kk : ∀ (H1 : Heap) (locs1 : List Loc), MW D cI b X' s H1 → va_S A0 H0 H1 locs1 → W p l e R s m args below meth c H1 locs1 (cells + mc) (slots + ms) Q (F0 m (pc + 3) ls (v :: rest))) : W p l e R s m args below meth c H locs cells slots Q (F0 m pc ls st0) :=
  kVw hC hM mov_M mov_M hB (rec_M hB) (good_V mw_124 mw_125 mw_126 mw_5 mw_127) hrm.1 hrm.2 ⟨rfl, by decide +kernel, by decide +kernel, by rw [hn]; decide +kernel⟩ hR hf hS hA hls hst hr8 hdg (fun H1 locs1 h1 h2 _ _ => kk H1 locs1 h1 h2)
theorem k_X1_isTrader {v : Value} (hC : CallFix p m c cc nL s args wsL_law RX1) (hM : Rd l yX1_isTrader cX1_isTrader 2 (some .boolean) rm (MW D cI b N) (.ref (b 5) :: As) v) (hB : MW D cI b N s H) (hn : As.length = 1) (hrm : rm.cells = 0 ∧ rm.slots = 0) (hR : rm.frames + 1 ≤ R.frames ∧ 8 + (2 + 11) + rm.locals ≤ R.locals) (hf : cells ≤ R.cells ∧ slots ≤ R.slots) (hls : ls.size = nL) (hst : st0 = As.reverse ++ .ref (b 5) :: rest) (hr8 : (rest.map fun v => v.category).sum ≤ 8) (hdg : decode cc pc = .ok (.invokevirtual 71, 3)) (kk : W p l e R s m args below meth c H locs cells slots Q (F0 m (pc + 3) ls (v :: rest))) : W p l e R s m args below meth c H locs cells slots Q (F0 m pc ls st0) :=
  kV hC hM mov_M hB (rec_M hB) (good_V mw_128 mw_129 mw_130 mw_5 mw_131) hrm.1 hrm.2 ⟨rfl, by decide +kernel, by decide +kernel, by rw [hn]; decide +kernel⟩ hR hf hls hst hr8 hdg kk
theorem kw_X1_isTrader {X' : bS} {mc ms : Nat} {v : Value} (hC : CallFix p m c cc nL s args wsL_law RX1) (hM : Wr l yX1_isTrader cX1_isTrader 2 (some .boolean) rm (MW D cI b N) (MW D cI b X') (inM b) (.ref (b 5) :: As) (some v) mc ms) (hB : MW D cI b N s H) (hn : As.length = 1) (hrm : rm.cells = mc ∧ rm.slots = ms) (hR : rm.frames + 1 ≤ R.frames ∧ 8 + (2 + 11) + rm.locals ≤ R.locals) (hf : cells + mc ≤ R.cells ∧ slots + ms ≤ R.slots) (hS : va_S A0 H0 H locs) (hA : ∀ q, inM b q → A0 q) (hls : ls.size = nL) (hst : st0 = As.reverse ++ .ref (b 5) :: rest) (hr8 : (rest.map fun v => v.category).sum ≤ 8) (hdg : decode cc pc = .ok (.invokevirtual 71, 3)) (kk : ∀ (H1 : Heap) (locs1 : List Loc), MW D cI b X' s H1 → va_S A0 H0 H1 locs1 → W p l e R s m args below meth c H1 locs1 (cells + mc) (slots + ms) Q (F0 m (pc + 3) ls (v :: rest))) : W p l e R s m args below meth c H locs cells slots Q (F0 m pc ls st0) :=
  kVw hC hM mov_M mov_M hB (rec_M hB) (good_V mw_128 mw_129 mw_130 mw_5 mw_131) hrm.1 hrm.2 ⟨rfl, by decide +kernel, by decide +kernel, by rw [hn]; decide +kernel⟩ hR hf hS hA hls hst hr8 hdg (fun H1 locs1 h1 h2 _ _ => kk H1 locs1 h1 h2)
theorem k_X1_isTower {v : Value} (hC : CallFix p m c cc nL s args wsL_law RX1) (hM : Rd l yX1_isTower cX1_isTower 2 (some .boolean) rm (MW D cI b N) (.ref (b 5) :: As) v) (hB : MW D cI b N s H) (hn : As.length = 1) (hrm : rm.cells = 0 ∧ rm.slots = 0) (hR : rm.frames + 1 ≤ R.frames ∧ 8 + (2 + 11) + rm.locals ≤ R.locals) (hf : cells ≤ R.cells ∧ slots ≤ R.slots) (hls : ls.size = nL) (hst : st0 = As.reverse ++ .ref (b 5) :: rest) (hr8 : (rest.map fun v => v.category).sum ≤ 8) (hdg : decode cc pc = .ok (.invokevirtual 75, 3)) (kk : W p l e R s m args below meth c H locs cells slots Q (F0 m (pc + 3) ls (v :: rest))) : W p l e R s m args below meth c H locs cells slots Q (F0 m pc ls st0) :=
  kV hC hM mov_M hB (rec_M hB) (good_V mw_132 mw_133 mw_134 mw_5 mw_135) hrm.1 hrm.2 ⟨rfl, by decide +kernel, by decide +kernel, by rw [hn]; decide +kernel⟩ hR hf hls hst hr8 hdg kk
theorem kw_X1_isTower {X' : bS} {mc ms : Nat} {v : Value} (hC : CallFix p m c cc nL s args wsL_law RX1) (hM : Wr l yX1_isTower cX1_isTower 2 (some .boolean) rm (MW D cI b N) (MW D cI b X') (inM b) (.ref (b 5) :: As) (some v) mc ms) (hB : MW D cI b N s H) (hn : As.length = 1) (hrm : rm.cells = mc ∧ rm.slots = ms) (hR : rm.frames + 1 ≤ R.frames ∧ 8 + (2 + 11) + rm.locals ≤ R.locals) (hf : cells + mc ≤ R.cells ∧ slots + ms ≤ R.slots) (hS : va_S A0 H0 H locs) (hA : ∀ q, inM b q → A0 q) (hls : ls.size = nL) (hst : st0 = As.reverse ++ .ref (b 5) :: rest) (hr8 : (rest.map fun v => v.category).sum ≤ 8) (hdg : decode cc pc = .ok (.invokevirtual 75, 3)) (kk : ∀ (H1 : Heap) (locs1 : List Loc), MW D cI b X' s H1 → va_S A0 H0 H1 locs1 → W p l e R s m args below meth c H1 locs1 (cells + mc) (slots + ms) Q (F0 m (pc + 3) ls (v :: rest))) : W p l e R s m args below meth c H locs cells slots Q (F0 m pc ls st0) :=
  kVw hC hM mov_M mov_M hB (rec_M hB) (good_V mw_132 mw_133 mw_134 mw_5 mw_135) hrm.1 hrm.2 ⟨rfl, by decide +kernel, by decide +kernel, by rw [hn]; decide +kernel⟩ hR hf hS hA hls hst hr8 hdg (fun H1 locs1 h1 h2 _ _ => kk H1 locs1 h1 h2)
theorem k_X1_price {v : Value} (hC : CallFix p m c cc nL s args wsL_law RX1) (hM : Rd l yX1_price cX1_price 2 (some .int) rm (MW D cI b N) (.ref (b 5) :: As) v) (hB : MW D cI b N s H) (hn : As.length = 1) (hrm : rm.cells = 0 ∧ rm.slots = 0) (hR : rm.frames + 1 ≤ R.frames ∧ 8 + (2 + 11) + rm.locals ≤ R.locals) (hf : cells ≤ R.cells ∧ slots ≤ R.slots) (hls : ls.size = nL) (hst : st0 = As.reverse ++ .ref (b 5) :: rest) (hr8 : (rest.map fun v => v.category).sum ≤ 8) (hdg : decode cc pc = .ok (.invokevirtual 61, 3)) (kk : W p l e R s m args below meth c H locs cells slots Q (F0 m (pc + 3) ls (v :: rest))) : W p l e R s m args below meth c H locs cells slots Q (F0 m pc ls st0) :=
  kV hC hM mov_M hB (rec_M hB) (good_V mw_136 mw_137 mw_138 mw_5 mw_139) hrm.1 hrm.2 ⟨rfl, by decide +kernel, by decide +kernel, by rw [hn]; decide +kernel⟩ hR hf hls hst hr8 hdg kk
theorem kw_X1_price {X' : bS} {mc ms : Nat} {v : Value} (hC : CallFix p m c cc nL s args wsL_law RX1) (hM : Wr l yX1_price cX1_price 2 (some .int) rm (MW D cI b N) (MW D cI b X') (inM b) (.ref (b 5) :: As) (some v) mc ms) (hB : MW D cI b N s H) (hn : As.length = 1) (hrm : rm.cells = mc ∧ rm.slots = ms) (hR : rm.frames + 1 ≤ R.frames ∧ 8 + (2 + 11) + rm.locals ≤ R.locals) (hf : cells + mc ≤ R.cells ∧ slots + ms ≤ R.slots) (hS : va_S A0 H0 H locs) (hA : ∀ q, inM b q → A0 q) (hls : ls.size = nL) (hst : st0 = As.reverse ++ .ref (b 5) :: rest) (hr8 : (rest.map fun v => v.category).sum ≤ 8) (hdg : decode cc pc = .ok (.invokevirtual 61, 3)) (kk : ∀ (H1 : Heap) (locs1 : List Loc), MW D cI b X' s H1 → va_S A0 H0 H1 locs1 → W p l e R s m args below meth c H1 locs1 (cells + mc) (slots + ms) Q (F0 m (pc + 3) ls (v :: rest))) : W p l e R s m args below meth c H locs cells slots Q (F0 m pc ls st0) :=
  kVw hC hM mov_M mov_M hB (rec_M hB) (good_V mw_136 mw_137 mw_138 mw_5 mw_139) hrm.1 hrm.2 ⟨rfl, by decide +kernel, by decide +kernel, by rw [hn]; decide +kernel⟩ hR hf hS hA hls hst hr8 hdg (fun H1 locs1 h1 h2 _ _ => kk H1 locs1 h1 h2)
theorem k_X1_priceBehind {v : Value} (hC : CallFix p m c cc nL s args wsL_law RX1) (hM : Rd l yX1_priceBehind cX1_priceBehind 3 (some .int) rm (MW D cI b N) (.ref (b 5) :: As) v) (hB : MW D cI b N s H) (hn : As.length = 2) (hrm : rm.cells = 0 ∧ rm.slots = 0) (hR : rm.frames + 1 ≤ R.frames ∧ 8 + (3 + 11) + rm.locals ≤ R.locals) (hf : cells ≤ R.cells ∧ slots ≤ R.slots) (hls : ls.size = nL) (hst : st0 = As.reverse ++ .ref (b 5) :: rest) (hr8 : (rest.map fun v => v.category).sum ≤ 8) (hdg : decode cc pc = .ok (.invokevirtual 58, 3)) (kk : W p l e R s m args below meth c H locs cells slots Q (F0 m (pc + 3) ls (v :: rest))) : W p l e R s m args below meth c H locs cells slots Q (F0 m pc ls st0) :=
  kV hC hM mov_M hB (rec_M hB) (good_V mw_140 mw_141 mw_142 mw_5 mw_143) hrm.1 hrm.2 ⟨rfl, by decide +kernel, by decide +kernel, by rw [hn]; decide +kernel⟩ hR hf hls hst hr8 hdg kk
theorem kw_X1_priceBehind {X' : bS} {mc ms : Nat} {v : Value} (hC : CallFix p m c cc nL s args wsL_law RX1) (hM : Wr l yX1_priceBehind cX1_priceBehind 3 (some .int) rm (MW D cI b N) (MW D cI b X') (inM b) (.ref (b 5) :: As) (some v) mc ms) (hB : MW D cI b N s H) (hn : As.length = 2) (hrm : rm.cells = mc ∧ rm.slots = ms) (hR : rm.frames + 1 ≤ R.frames ∧ 8 + (3 + 11) + rm.locals ≤ R.locals) (hf : cells + mc ≤ R.cells ∧ slots + ms ≤ R.slots) (hS : va_S A0 H0 H locs) (hA : ∀ q, inM b q → A0 q) (hls : ls.size = nL) (hst : st0 = As.reverse ++ .ref (b 5) :: rest) (hr8 : (rest.map fun v => v.category).sum ≤ 8) (hdg : decode cc pc = .ok (.invokevirtual 58, 3)) (kk : ∀ (H1 : Heap) (locs1 : List Loc), MW D cI b X' s H1 → va_S A0 H0 H1 locs1 → W p l e R s m args below meth c H1 locs1 (cells + mc) (slots + ms) Q (F0 m (pc + 3) ls (v :: rest))) : W p l e R s m args below meth c H locs cells slots Q (F0 m pc ls st0) :=
  kVw hC hM mov_M mov_M hB (rec_M hB) (good_V mw_140 mw_141 mw_142 mw_5 mw_143) hrm.1 hrm.2 ⟨rfl, by decide +kernel, by decide +kernel, by rw [hn]; decide +kernel⟩ hR hf hS hA hls hst hr8 hdg (fun H1 locs1 h1 h2 _ _ => kk H1 locs1 h1 h2)
theorem k_X1_doves {v : Value} (hC : CallFix p m c cc nL s args wsL_law RX1) (hM : Rd l yX1_doves cX1_doves 4 (some .int) rm (MW D cI b N) (.ref (b 5) :: As) v) (hB : MW D cI b N s H) (hn : As.length = 1) (hrm : rm.cells = 0 ∧ rm.slots = 0) (hR : rm.frames + 1 ≤ R.frames ∧ 8 + (4 + 11) + rm.locals ≤ R.locals) (hf : cells ≤ R.cells ∧ slots ≤ R.slots) (hls : ls.size = nL) (hst : st0 = As.reverse ++ .ref (b 5) :: rest) (hr8 : (rest.map fun v => v.category).sum ≤ 8) (hdg : decode cc pc = .ok (.invokevirtual 54, 3)) (kk : W p l e R s m args below meth c H locs cells slots Q (F0 m (pc + 3) ls (v :: rest))) : W p l e R s m args below meth c H locs cells slots Q (F0 m pc ls st0) :=
  kV hC hM mov_M hB (rec_M hB) (good_V mw_145 mw_146 mw_147 mw_5 mw_148) hrm.1 hrm.2 ⟨rfl, by decide +kernel, by decide +kernel, by rw [hn]; decide +kernel⟩ hR hf hls hst hr8 hdg kk
theorem kw_X1_doves {X' : bS} {mc ms : Nat} {v : Value} (hC : CallFix p m c cc nL s args wsL_law RX1) (hM : Wr l yX1_doves cX1_doves 4 (some .int) rm (MW D cI b N) (MW D cI b X') (inM b) (.ref (b 5) :: As) (some v) mc ms) (hB : MW D cI b N s H) (hn : As.length = 1) (hrm : rm.cells = mc ∧ rm.slots = ms) (hR : rm.frames + 1 ≤ R.frames ∧ 8 + (4 + 11) + rm.locals ≤ R.locals) (hf : cells + mc ≤ R.cells ∧ slots + ms ≤ R.slots) (hS : va_S A0 H0 H locs) (hA : ∀ q, inM b q → A0 q) (hls : ls.size = nL) (hst : st0 = As.reverse ++ .ref (b 5) :: rest) (hr8 : (rest.map fun v => v.category).sum ≤ 8) (hdg : decode cc pc = .ok (.invokevirtual 54, 3)) (kk : ∀ (H1 : Heap) (locs1 : List Loc), MW D cI b X' s H1 → va_S A0 H0 H1 locs1 → W p l e R s m args below meth c H1 locs1 (cells + mc) (slots + ms) Q (F0 m (pc + 3) ls (v :: rest))) : W p l e R s m args below meth c H locs cells slots Q (F0 m pc ls st0) :=
  kVw hC hM mov_M mov_M hB (rec_M hB) (good_V mw_145 mw_146 mw_147 mw_5 mw_148) hrm.1 hrm.2 ⟨rfl, by decide +kernel, by decide +kernel, by rw [hn]; decide +kernel⟩ hR hf hS hA hls hst hr8 hdg (fun H1 locs1 h1 h2 _ _ => kk H1 locs1 h1 h2)
theorem k_X1_at {v : Value} {Wd : State → Heap → Prop} (hC : CallFix p m c cc nL s args wsL_law RX1) (hM : Rd l yX1_at cX1_at 2 (some .int) rm Wd As v) (hm : Mov Wd) (hB : Wd s H) (hn : As.length = 2) (hrm : rm.cells = 0 ∧ rm.slots = 0) (hR : rm.frames + 1 ≤ R.frames ∧ 8 + (2 + 11) + rm.locals ≤ R.locals) (hf : cells ≤ R.cells ∧ slots ≤ R.slots) (hls : ls.size = nL) (hst : st0 = As.reverse ++ rest) (hr8 : (rest.map fun v => v.category).sum ≤ 8) (hdg : decode cc pc = .ok (.invokestatic 45, 3)) (kk : W p l e R s m args below meth c H locs cells slots Q (F0 m (pc + 3) ls (v :: rest))) : W p l e R s m args below meth c H locs cells slots Q (F0 m pc ls st0) :=
  kS hC hM hm hB (good_S mw_149 mw_150 mw_5 mw_151) hrm.1 hrm.2 ⟨by decide +kernel, by decide +kernel, by rw [hn]; decide +kernel⟩ hR hf hls hst hr8 hdg kk
theorem k_X1_sold {v : Value} (hC : CallFix p m c cc nL s args wsL_law RX1) (hM : Rd l yX1_sold cX1_sold 5 (some .int) rm (MW D cI b N) (.ref (b 5) :: As) v) (hB : MW D cI b N s H) (hn : As.length = 3) (hrm : rm.cells = 0 ∧ rm.slots = 0) (hR : rm.frames + 1 ≤ R.frames ∧ 8 + (5 + 11) + rm.locals ≤ R.locals) (hf : cells ≤ R.cells ∧ slots ≤ R.slots) (hls : ls.size = nL) (hst : st0 = As.reverse ++ .ref (b 5) :: rest) (hr8 : (rest.map fun v => v.category).sum ≤ 8) (hdg : decode cc pc = .ok (.invokevirtual 81, 3)) (kk : W p l e R s m args below meth c H locs cells slots Q (F0 m (pc + 3) ls (v :: rest))) : W p l e R s m args below meth c H locs cells slots Q (F0 m pc ls st0) :=
  kV hC hM mov_M hB (rec_M hB) (good_V mw_163 mw_164 mw_165 mw_5 mw_166) hrm.1 hrm.2 ⟨rfl, by decide +kernel, by decide +kernel, by rw [hn]; decide +kernel⟩ hR hf hls hst hr8 hdg kk
theorem kw_X1_sold {X' : bS} {mc ms : Nat} {v : Value} (hC : CallFix p m c cc nL s args wsL_law RX1) (hM : Wr l yX1_sold cX1_sold 5 (some .int) rm (MW D cI b N) (MW D cI b X') (inM b) (.ref (b 5) :: As) (some v) mc ms) (hB : MW D cI b N s H) (hn : As.length = 3) (hrm : rm.cells = mc ∧ rm.slots = ms) (hR : rm.frames + 1 ≤ R.frames ∧ 8 + (5 + 11) + rm.locals ≤ R.locals) (hf : cells + mc ≤ R.cells ∧ slots + ms ≤ R.slots) (hS : va_S A0 H0 H locs) (hA : ∀ q, inM b q → A0 q) (hls : ls.size = nL) (hst : st0 = As.reverse ++ .ref (b 5) :: rest) (hr8 : (rest.map fun v => v.category).sum ≤ 8) (hdg : decode cc pc = .ok (.invokevirtual 81, 3)) (kk : ∀ (H1 : Heap) (locs1 : List Loc), MW D cI b X' s H1 → va_S A0 H0 H1 locs1 → W p l e R s m args below meth c H1 locs1 (cells + mc) (slots + ms) Q (F0 m (pc + 3) ls (v :: rest))) : W p l e R s m args below meth c H locs cells slots Q (F0 m pc ls st0) :=
  kVw hC hM mov_M mov_M hB (rec_M hB) (good_V mw_163 mw_164 mw_165 mw_5 mw_166) hrm.1 hrm.2 ⟨rfl, by decide +kernel, by decide +kernel, by rw [hn]; decide +kernel⟩ hR hf hS hA hls hst hr8 hdg (fun H1 locs1 h1 h2 _ _ => kk H1 locs1 h1 h2)
theorem kn_X0_requirePassable {Wd : State → Heap → Prop} (hC : CallFix p m c cc nL s args wsL_law RX0) (hM : Rn l yX0_requirePassable cX0_requirePassable 1 none rm Wd As) (hm : Mov Wd) (hB : Wd s H) (hn : As.length = 1) (hrm : rm.cells = 0 ∧ rm.slots = 0) (hR : rm.frames + 1 ≤ R.frames ∧ 8 + (1 + 11) + rm.locals ≤ R.locals) (hf : cells ≤ R.cells ∧ slots ≤ R.slots) (hls : ls.size = nL) (hst : st0 = As.reverse ++ rest) (hr8 : (rest.map fun v => v.category).sum ≤ 8) (hdg : decode cc pc = .ok (.invokestatic 87, 3)) (kk : W p l e R s m args below meth c H locs cells slots Q (F0 m (pc + 3) ls rest)) : W p l e R s m args below meth c H locs cells slots Q (F0 m pc ls st0) :=
  kSn hC hM hm hB (good_S mw_174 mw_175 mw_2 mw_176) hrm.1 hrm.2 ⟨by decide +kernel, by decide +kernel, by rw [hn]; decide +kernel⟩ hR hf hls hst hr8 hdg kk
theorem k_X0_goOneSecond {v : Value} (hC : CallFix p m c cc nL s args wsL_law RX0) (hM : Rd l yX0_goOneSecond cX0_goOneSecond 3 (some .int) rm (BW D cI cQ a S) (.ref (a 13) :: As) v) (hB : BW D cI cQ a S s H) (hn : As.length = 0) (hrm : rm.cells = 0 ∧ rm.slots = 0) (hR : rm.frames + 1 ≤ R.frames ∧ 8 + (3 + 11) + rm.locals ≤ R.locals) (hf : cells ≤ R.cells ∧ slots ≤ R.slots) (hls : ls.size = nL) (hst : st0 = As.reverse ++ .ref (a 13) :: rest) (hr8 : (rest.map fun v => v.category).sum ≤ 8) (hdg : decode cc pc = .ok (.invokevirtual 90, 3)) (kk : W p l e R s m args below meth c H locs cells slots Q (F0 m (pc + 3) ls (v :: rest))) : W p l e R s m args below meth c H locs cells slots Q (F0 m pc ls st0) :=
  kV hC hM mov_B hB (rec_B hB) (good_V mw_177 mw_178 mw_179 mw_2 mw_180) hrm.1 hrm.2 ⟨rfl, by decide +kernel, by decide +kernel, by rw [hn]; decide +kernel⟩ hR hf hls hst hr8 hdg kk
theorem kw_X0_goOneSecond {X' : bS} {mc ms : Nat} {v : Value} (hC : CallFix p m c cc nL s args wsL_law RX0) (hM : Wr l yX0_goOneSecond cX0_goOneSecond 3 (some .int) rm (BW D cI cQ a S) (BW D cI cQ a X') (inB a) (.ref (a 13) :: As) (some v) mc ms) (hB : BW D cI cQ a S s H) (hn : As.length = 0) (hrm : rm.cells = mc ∧ rm.slots = ms) (hR : rm.frames + 1 ≤ R.frames ∧ 8 + (3 + 11) + rm.locals ≤ R.locals) (hf : cells + mc ≤ R.cells ∧ slots + ms ≤ R.slots) (hS : va_S A0 H0 H locs) (hA : ∀ q, inB a q → A0 q) (hls : ls.size = nL) (hst : st0 = As.reverse ++ .ref (a 13) :: rest) (hr8 : (rest.map fun v => v.category).sum ≤ 8) (hdg : decode cc pc = .ok (.invokevirtual 90, 3)) (kk : ∀ (H1 : Heap) (locs1 : List Loc), BW D cI cQ a X' s H1 → va_S A0 H0 H1 locs1 → W p l e R s m args below meth c H1 locs1 (cells + mc) (slots + ms) Q (F0 m (pc + 3) ls (v :: rest))) : W p l e R s m args below meth c H locs cells slots Q (F0 m pc ls st0) :=
  kVw hC hM mov_B mov_B hB (rec_B hB) (good_V mw_177 mw_178 mw_179 mw_2 mw_180) hrm.1 hrm.2 ⟨rfl, by decide +kernel, by decide +kernel, by rw [hn]; decide +kernel⟩ hR hf hS hA hls hst hr8 hdg (fun H1 locs1 h1 h2 _ _ => kk H1 locs1 h1 h2)
theorem k_X0_strike {v : Value} (hC : CallFix p m c cc nL s args wsL_law RX0) (hM : Rd l yX0_strike cX0_strike 4 none rm (BW D cI cQ a S) (.ref (a 13) :: As) v) (hB : BW D cI cQ a S s H) (hn : As.length = 1) (hrm : rm.cells = 0 ∧ rm.slots = 0) (hR : rm.frames + 1 ≤ R.frames ∧ 8 + (4 + 11) + rm.locals ≤ R.locals) (hf : cells ≤ R.cells ∧ slots ≤ R.slots) (hls : ls.size = nL) (hst : st0 = As.reverse ++ .ref (a 13) :: rest) (hr8 : (rest.map fun v => v.category).sum ≤ 8) (hdg : decode cc pc = .ok (.invokevirtual 163, 3)) (kk : W p l e R s m args below meth c H locs cells slots Q (F0 m (pc + 3) ls (v :: rest))) : W p l e R s m args below meth c H locs cells slots Q (F0 m pc ls st0) :=
  kV hC hM mov_B hB (rec_B hB) (good_V mw_181 mw_182 mw_183 mw_2 mw_184) hrm.1 hrm.2 ⟨rfl, by decide +kernel, by decide +kernel, by rw [hn]; decide +kernel⟩ hR hf hls hst hr8 hdg kk
theorem kn_X0_strike (hC : CallFix p m c cc nL s args wsL_law RX0) (hM : Rn l yX0_strike cX0_strike 4 none rm (BW D cI cQ a S) (.ref (a 13) :: As)) (hB : BW D cI cQ a S s H) (hn : As.length = 1) (hrm : rm.cells = 0 ∧ rm.slots = 0) (hR : rm.frames + 1 ≤ R.frames ∧ 8 + (4 + 11) + rm.locals ≤ R.locals) (hf : cells ≤ R.cells ∧ slots ≤ R.slots) (hls : ls.size = nL) (hst : st0 = As.reverse ++ .ref (a 13) :: rest) (hr8 : (rest.map fun v => v.category).sum ≤ 8) (hdg : decode cc pc = .ok (.invokevirtual 163, 3)) (kk : W p l e R s m args below meth c H locs cells slots Q (F0 m (pc + 3) ls rest)) : W p l e R s m args below meth c H locs cells slots Q (F0 m pc ls st0) :=
  kVn hC hM mov_B hB (rec_B hB) (good_V mw_181 mw_182 mw_183 mw_2 mw_184) hrm.1 hrm.2 ⟨rfl, by decide +kernel, by decide +kernel, by rw [hn]; decide +kernel⟩ hR hf hls hst hr8 hdg kk
theorem kw_X0_strike {X' : bS} {mc ms : Nat} (hC : CallFix p m c cc nL s args wsL_law RX0) (hM : Wr l yX0_strike cX0_strike 4 none rm (BW D cI cQ a S) (BW D cI cQ a X') (inB a) (.ref (a 13) :: As) none mc ms) (hB : BW D cI cQ a S s H) (hn : As.length = 1) (hrm : rm.cells = mc ∧ rm.slots = ms) (hR : rm.frames + 1 ≤ R.frames ∧ 8 + (4 + 11) + rm.locals ≤ R.locals) (hf : cells + mc ≤ R.cells ∧ slots + ms ≤ R.slots) (hS : va_S A0 H0 H locs) (hA : ∀ q, inB a q → A0 q) (hls : ls.size = nL) (hst : st0 = As.reverse ++ .ref (a 13) :: rest) (hr8 : (rest.map fun v => v.category).sum ≤ 8) (hdg : decode cc pc = .ok (.invokevirtual 163, 3)) (kk : ∀ (H1 : Heap) (locs1 : List Loc), BW D cI cQ a X' s H1 → va_S A0 H0 H1 locs1 → W p l e R s m args below meth c H1 locs1 (cells + mc) (slots + ms) Q (F0 m (pc + 3) ls rest)) : W p l e R s m args below meth c H locs cells slots Q (F0 m pc ls st0) :=
  kVw hC hM mov_B mov_B hB (rec_B hB) (good_V mw_181 mw_182 mw_183 mw_2 mw_184) hrm.1 hrm.2 ⟨rfl, by decide +kernel, by decide +kernel, by rw [hn]; decide +kernel⟩ hR hf hS hA hls hst hr8 hdg (fun H1 locs1 h1 h2 _ _ => kk H1 locs1 h1 h2)
theorem k_X1_secondsOn {v : Value} (hC : CallFix p m c cc nL s args wsL_law RX1) (hM : Rd l yX1_secondsOn cX1_secondsOn 4 (some .int) rm (MW D cI b N) (.ref (b 5) :: As) v) (hB : MW D cI b N s H) (hn : As.length = 1) (hrm : rm.cells = 0 ∧ rm.slots = 0) (hR : rm.frames + 1 ≤ R.frames ∧ 8 + (4 + 11) + rm.locals ≤ R.locals) (hf : cells ≤ R.cells ∧ slots ≤ R.slots) (hls : ls.size = nL) (hst : st0 = As.reverse ++ .ref (b 5) :: rest) (hr8 : (rest.map fun v => v.category).sum ≤ 8) (hdg : decode cc pc = .ok (.invokevirtual 85, 3)) (kk : W p l e R s m args below meth c H locs cells slots Q (F0 m (pc + 3) ls (v :: rest))) : W p l e R s m args below meth c H locs cells slots Q (F0 m pc ls st0) :=
  kV hC hM mov_M hB (rec_M hB) (good_V mw_189 mw_190 mw_191 mw_5 mw_192) hrm.1 hrm.2 ⟨rfl, by decide +kernel, by decide +kernel, by rw [hn]; decide +kernel⟩ hR hf hls hst hr8 hdg kk
theorem kw_X1_secondsOn {X' : bS} {mc ms : Nat} {v : Value} (hC : CallFix p m c cc nL s args wsL_law RX1) (hM : Wr l yX1_secondsOn cX1_secondsOn 4 (some .int) rm (MW D cI b N) (MW D cI b X') (inM b) (.ref (b 5) :: As) (some v) mc ms) (hB : MW D cI b N s H) (hn : As.length = 1) (hrm : rm.cells = mc ∧ rm.slots = ms) (hR : rm.frames + 1 ≤ R.frames ∧ 8 + (4 + 11) + rm.locals ≤ R.locals) (hf : cells + mc ≤ R.cells ∧ slots + ms ≤ R.slots) (hS : va_S A0 H0 H locs) (hA : ∀ q, inM b q → A0 q) (hls : ls.size = nL) (hst : st0 = As.reverse ++ .ref (b 5) :: rest) (hr8 : (rest.map fun v => v.category).sum ≤ 8) (hdg : decode cc pc = .ok (.invokevirtual 85, 3)) (kk : ∀ (H1 : Heap) (locs1 : List Loc), MW D cI b X' s H1 → va_S A0 H0 H1 locs1 → W p l e R s m args below meth c H1 locs1 (cells + mc) (slots + ms) Q (F0 m (pc + 3) ls (v :: rest))) : W p l e R s m args below meth c H locs cells slots Q (F0 m pc ls st0) :=
  kVw hC hM mov_M mov_M hB (rec_M hB) (good_V mw_189 mw_190 mw_191 mw_5 mw_192) hrm.1 hrm.2 ⟨rfl, by decide +kernel, by decide +kernel, by rw [hn]; decide +kernel⟩ hR hf hS hA hls hst hr8 hdg (fun H1 locs1 h1 h2 _ _ => kk H1 locs1 h1 h2)
theorem k_X1_secondOn {v : Value} (hC : CallFix p m c cc nL s args wsL_law RX1) (hM : Rd l yX1_secondOn cX1_secondOn 5 (some .int) rm (MW D cI b N) (.ref (b 5) :: As) v) (hB : MW D cI b N s H) (hn : As.length = 0) (hrm : rm.cells = 0 ∧ rm.slots = 0) (hR : rm.frames + 1 ≤ R.frames ∧ 8 + (5 + 11) + rm.locals ≤ R.locals) (hf : cells ≤ R.cells ∧ slots ≤ R.slots) (hls : ls.size = nL) (hst : st0 = As.reverse ++ .ref (b 5) :: rest) (hr8 : (rest.map fun v => v.category).sum ≤ 8) (hdg : decode cc pc = .ok (.invokevirtual 64, 3)) (kk : W p l e R s m args below meth c H locs cells slots Q (F0 m (pc + 3) ls (v :: rest))) : W p l e R s m args below meth c H locs cells slots Q (F0 m pc ls st0) :=
  kV hC hM mov_M hB (rec_M hB) (good_V mw_193 mw_194 mw_195 mw_5 mw_196) hrm.1 hrm.2 ⟨rfl, by decide +kernel, by decide +kernel, by rw [hn]; decide +kernel⟩ hR hf hls hst hr8 hdg kk
theorem kw_X1_secondOn {X' : bS} {mc ms : Nat} {v : Value} (hC : CallFix p m c cc nL s args wsL_law RX1) (hM : Wr l yX1_secondOn cX1_secondOn 5 (some .int) rm (MW D cI b N) (MW D cI b X') (inM b) (.ref (b 5) :: As) (some v) mc ms) (hB : MW D cI b N s H) (hn : As.length = 0) (hrm : rm.cells = mc ∧ rm.slots = ms) (hR : rm.frames + 1 ≤ R.frames ∧ 8 + (5 + 11) + rm.locals ≤ R.locals) (hf : cells + mc ≤ R.cells ∧ slots + ms ≤ R.slots) (hS : va_S A0 H0 H locs) (hA : ∀ q, inM b q → A0 q) (hls : ls.size = nL) (hst : st0 = As.reverse ++ .ref (b 5) :: rest) (hr8 : (rest.map fun v => v.category).sum ≤ 8) (hdg : decode cc pc = .ok (.invokevirtual 64, 3)) (kk : ∀ (H1 : Heap) (locs1 : List Loc), MW D cI b X' s H1 → va_S A0 H0 H1 locs1 → W p l e R s m args below meth c H1 locs1 (cells + mc) (slots + ms) Q (F0 m (pc + 3) ls (v :: rest))) : W p l e R s m args below meth c H locs cells slots Q (F0 m pc ls st0) :=
  kVw hC hM mov_M mov_M hB (rec_M hB) (good_V mw_193 mw_194 mw_195 mw_5 mw_196) hrm.1 hrm.2 ⟨rfl, by decide +kernel, by decide +kernel, by rw [hn]; decide +kernel⟩ hR hf hS hA hls hst hr8 hdg (fun H1 locs1 h1 h2 _ _ => kk H1 locs1 h1 h2)
theorem k_X1_told {v : Value} (hC : CallFix p m c cc nL s args wsL_law RX1) (hM : Rd l yX1_told cX1_told 2 (some .int) rm (MW D cI b N) (.ref (b 5) :: As) v) (hB : MW D cI b N s H) (hn : As.length = 1) (hrm : rm.cells = 0 ∧ rm.slots = 0) (hR : rm.frames + 1 ≤ R.frames ∧ 8 + (2 + 11) + rm.locals ≤ R.locals) (hf : cells ≤ R.cells ∧ slots ≤ R.slots) (hls : ls.size = nL) (hst : st0 = As.reverse ++ .ref (b 5) :: rest) (hr8 : (rest.map fun v => v.category).sum ≤ 8) (hdg : decode cc pc = .ok (.invokevirtual 88, 3)) (kk : W p l e R s m args below meth c H locs cells slots Q (F0 m (pc + 3) ls (v :: rest))) : W p l e R s m args below meth c H locs cells slots Q (F0 m pc ls st0) :=
  kV hC hM mov_M hB (rec_M hB) (good_V mw_205 mw_206 mw_207 mw_5 mw_208) hrm.1 hrm.2 ⟨rfl, by decide +kernel, by decide +kernel, by rw [hn]; decide +kernel⟩ hR hf hls hst hr8 hdg kk
theorem kw_X1_told {X' : bS} {mc ms : Nat} {v : Value} (hC : CallFix p m c cc nL s args wsL_law RX1) (hM : Wr l yX1_told cX1_told 2 (some .int) rm (MW D cI b N) (MW D cI b X') (inM b) (.ref (b 5) :: As) (some v) mc ms) (hB : MW D cI b N s H) (hn : As.length = 1) (hrm : rm.cells = mc ∧ rm.slots = ms) (hR : rm.frames + 1 ≤ R.frames ∧ 8 + (2 + 11) + rm.locals ≤ R.locals) (hf : cells + mc ≤ R.cells ∧ slots + ms ≤ R.slots) (hS : va_S A0 H0 H locs) (hA : ∀ q, inM b q → A0 q) (hls : ls.size = nL) (hst : st0 = As.reverse ++ .ref (b 5) :: rest) (hr8 : (rest.map fun v => v.category).sum ≤ 8) (hdg : decode cc pc = .ok (.invokevirtual 88, 3)) (kk : ∀ (H1 : Heap) (locs1 : List Loc), MW D cI b X' s H1 → va_S A0 H0 H1 locs1 → W p l e R s m args below meth c H1 locs1 (cells + mc) (slots + ms) Q (F0 m (pc + 3) ls (v :: rest))) : W p l e R s m args below meth c H locs cells slots Q (F0 m pc ls st0) :=
  kVw hC hM mov_M mov_M hB (rec_M hB) (good_V mw_205 mw_206 mw_207 mw_5 mw_208) hrm.1 hrm.2 ⟨rfl, by decide +kernel, by decide +kernel, by rw [hn]; decide +kernel⟩ hR hf hS hA hls hst hr8 hdg (fun H1 locs1 h1 h2 _ _ => kk H1 locs1 h1 h2)
theorem k_X1_until {v : Value} (hC : CallFix p m c cc nL s args wsL_law RX1) (hM : Rd l yX1_until cX1_until 3 (some .int) rm (MW D cI b N) (.ref (b 5) :: As) v) (hB : MW D cI b N s H) (hn : As.length = 1) (hrm : rm.cells = 0 ∧ rm.slots = 0) (hR : rm.frames + 1 ≤ R.frames ∧ 8 + (3 + 11) + rm.locals ≤ R.locals) (hf : cells ≤ R.cells ∧ slots ≤ R.slots) (hls : ls.size = nL) (hst : st0 = As.reverse ++ .ref (b 5) :: rest) (hr8 : (rest.map fun v => v.category).sum ≤ 8) (hdg : decode cc pc = .ok (.invokevirtual 91, 3)) (kk : W p l e R s m args below meth c H locs cells slots Q (F0 m (pc + 3) ls (v :: rest))) : W p l e R s m args below meth c H locs cells slots Q (F0 m pc ls st0) :=
  kV hC hM mov_M hB (rec_M hB) (good_V mw_261 mw_262 mw_263 mw_5 mw_264) hrm.1 hrm.2 ⟨rfl, by decide +kernel, by decide +kernel, by rw [hn]; decide +kernel⟩ hR hf hls hst hr8 hdg kk
theorem kw_X1_until {X' : bS} {mc ms : Nat} {v : Value} (hC : CallFix p m c cc nL s args wsL_law RX1) (hM : Wr l yX1_until cX1_until 3 (some .int) rm (MW D cI b N) (MW D cI b X') (inM b) (.ref (b 5) :: As) (some v) mc ms) (hB : MW D cI b N s H) (hn : As.length = 1) (hrm : rm.cells = mc ∧ rm.slots = ms) (hR : rm.frames + 1 ≤ R.frames ∧ 8 + (3 + 11) + rm.locals ≤ R.locals) (hf : cells + mc ≤ R.cells ∧ slots + ms ≤ R.slots) (hS : va_S A0 H0 H locs) (hA : ∀ q, inM b q → A0 q) (hls : ls.size = nL) (hst : st0 = As.reverse ++ .ref (b 5) :: rest) (hr8 : (rest.map fun v => v.category).sum ≤ 8) (hdg : decode cc pc = .ok (.invokevirtual 91, 3)) (kk : ∀ (H1 : Heap) (locs1 : List Loc), MW D cI b X' s H1 → va_S A0 H0 H1 locs1 → W p l e R s m args below meth c H1 locs1 (cells + mc) (slots + ms) Q (F0 m (pc + 3) ls (v :: rest))) : W p l e R s m args below meth c H locs cells slots Q (F0 m pc ls st0) :=
  kVw hC hM mov_M mov_M hB (rec_M hB) (good_V mw_261 mw_262 mw_263 mw_5 mw_264) hrm.1 hrm.2 ⟨rfl, by decide +kernel, by decide +kernel, by rw [hn]; decide +kernel⟩ hR hf hS hA hls hst hr8 hdg (fun H1 locs1 h1 h2 _ _ => kk H1 locs1 h1 h2)
theorem k_X0_heldByAll {v : Value} (hC : CallFix p m c cc nL s args wsL_law RX0) (hM : Rd l yX0_heldByAll cX0_heldByAll 4 (some .int) rm (BW D cI cQ a S) (.ref (a 13) :: As) v) (hB : BW D cI cQ a S s H) (hn : As.length = 1) (hrm : rm.cells = 0 ∧ rm.slots = 0) (hR : rm.frames + 1 ≤ R.frames ∧ 8 + (4 + 11) + rm.locals ≤ R.locals) (hf : cells ≤ R.cells ∧ slots ≤ R.slots) (hls : ls.size = nL) (hst : st0 = As.reverse ++ .ref (a 13) :: rest) (hr8 : (rest.map fun v => v.category).sum ≤ 8) (hdg : decode cc pc = .ok (.invokevirtual 97, 3)) (kk : W p l e R s m args below meth c H locs cells slots Q (F0 m (pc + 3) ls (v :: rest))) : W p l e R s m args below meth c H locs cells slots Q (F0 m pc ls st0) :=
  kV hC hM mov_B hB (rec_B hB) (good_V mw_283 mw_284 mw_285 mw_2 mw_286) hrm.1 hrm.2 ⟨rfl, by decide +kernel, by decide +kernel, by rw [hn]; decide +kernel⟩ hR hf hls hst hr8 hdg kk
theorem kw_X0_heldByAll {X' : bS} {mc ms : Nat} {v : Value} (hC : CallFix p m c cc nL s args wsL_law RX0) (hM : Wr l yX0_heldByAll cX0_heldByAll 4 (some .int) rm (BW D cI cQ a S) (BW D cI cQ a X') (inB a) (.ref (a 13) :: As) (some v) mc ms) (hB : BW D cI cQ a S s H) (hn : As.length = 1) (hrm : rm.cells = mc ∧ rm.slots = ms) (hR : rm.frames + 1 ≤ R.frames ∧ 8 + (4 + 11) + rm.locals ≤ R.locals) (hf : cells + mc ≤ R.cells ∧ slots + ms ≤ R.slots) (hS : va_S A0 H0 H locs) (hA : ∀ q, inB a q → A0 q) (hls : ls.size = nL) (hst : st0 = As.reverse ++ .ref (a 13) :: rest) (hr8 : (rest.map fun v => v.category).sum ≤ 8) (hdg : decode cc pc = .ok (.invokevirtual 97, 3)) (kk : ∀ (H1 : Heap) (locs1 : List Loc), BW D cI cQ a X' s H1 → va_S A0 H0 H1 locs1 → W p l e R s m args below meth c H1 locs1 (cells + mc) (slots + ms) Q (F0 m (pc + 3) ls (v :: rest))) : W p l e R s m args below meth c H locs cells slots Q (F0 m pc ls st0) :=
  kVw hC hM mov_B mov_B hB (rec_B hB) (good_V mw_283 mw_284 mw_285 mw_2 mw_286) hrm.1 hrm.2 ⟨rfl, by decide +kernel, by decide +kernel, by rw [hn]; decide +kernel⟩ hR hf hS hA hls hst hr8 hdg (fun H1 locs1 h1 h2 _ _ => kk H1 locs1 h1 h2)
theorem k_X1_open {v : Value} (hC : CallFix p m c cc nL s args wsL_law RX1) (hM : Rd l yX1_open cX1_open 4 (some .int) rm (MW D cI b N) (.ref (b 5) :: As) v) (hB : MW D cI b N s H) (hn : As.length = 1) (hrm : rm.cells = 0 ∧ rm.slots = 0) (hR : rm.frames + 1 ≤ R.frames ∧ 8 + (4 + 11) + rm.locals ≤ R.locals) (hf : cells ≤ R.cells ∧ slots ≤ R.slots) (hls : ls.size = nL) (hst : st0 = As.reverse ++ .ref (b 5) :: rest) (hr8 : (rest.map fun v => v.category).sum ≤ 8) (hdg : decode cc pc = .ok (.invokevirtual 94, 3)) (kk : W p l e R s m args below meth c H locs cells slots Q (F0 m (pc + 3) ls (v :: rest))) : W p l e R s m args below meth c H locs cells slots Q (F0 m pc ls st0) :=
  kV hC hM mov_M hB (rec_M hB) (good_V mw_291 mw_292 mw_293 mw_5 mw_294) hrm.1 hrm.2 ⟨rfl, by decide +kernel, by decide +kernel, by rw [hn]; decide +kernel⟩ hR hf hls hst hr8 hdg kk
theorem kw_X1_open {X' : bS} {mc ms : Nat} {v : Value} (hC : CallFix p m c cc nL s args wsL_law RX1) (hM : Wr l yX1_open cX1_open 4 (some .int) rm (MW D cI b N) (MW D cI b X') (inM b) (.ref (b 5) :: As) (some v) mc ms) (hB : MW D cI b N s H) (hn : As.length = 1) (hrm : rm.cells = mc ∧ rm.slots = ms) (hR : rm.frames + 1 ≤ R.frames ∧ 8 + (4 + 11) + rm.locals ≤ R.locals) (hf : cells + mc ≤ R.cells ∧ slots + ms ≤ R.slots) (hS : va_S A0 H0 H locs) (hA : ∀ q, inM b q → A0 q) (hls : ls.size = nL) (hst : st0 = As.reverse ++ .ref (b 5) :: rest) (hr8 : (rest.map fun v => v.category).sum ≤ 8) (hdg : decode cc pc = .ok (.invokevirtual 94, 3)) (kk : ∀ (H1 : Heap) (locs1 : List Loc), MW D cI b X' s H1 → va_S A0 H0 H1 locs1 → W p l e R s m args below meth c H1 locs1 (cells + mc) (slots + ms) Q (F0 m (pc + 3) ls (v :: rest))) : W p l e R s m args below meth c H locs cells slots Q (F0 m pc ls st0) :=
  kVw hC hM mov_M mov_M hB (rec_M hB) (good_V mw_291 mw_292 mw_293 mw_5 mw_294) hrm.1 hrm.2 ⟨rfl, by decide +kernel, by decide +kernel, by rw [hn]; decide +kernel⟩ hR hf hS hA hls hst hr8 hdg (fun H1 locs1 h1 h2 _ _ => kk H1 locs1 h1 h2)
theorem k_X1_dear {v : Value} (hC : CallFix p m c cc nL s args wsL_law RX1) (hM : Rd l yX1_dear cX1_dear 3 (some .int) rm (MW D cI b N) (.ref (b 5) :: As) v) (hB : MW D cI b N s H) (hn : As.length = 0) (hrm : rm.cells = 0 ∧ rm.slots = 0) (hR : rm.frames + 1 ≤ R.frames ∧ 8 + (3 + 11) + rm.locals ≤ R.locals) (hf : cells ≤ R.cells ∧ slots ≤ R.slots) (hls : ls.size = nL) (hst : st0 = As.reverse ++ .ref (b 5) :: rest) (hr8 : (rest.map fun v => v.category).sum ≤ 8) (hdg : decode cc pc = .ok (.invokevirtual 97, 3)) (kk : W p l e R s m args below meth c H locs cells slots Q (F0 m (pc + 3) ls (v :: rest))) : W p l e R s m args below meth c H locs cells slots Q (F0 m pc ls st0) :=
  kV hC hM mov_M hB (rec_M hB) (good_V mw_303 mw_304 mw_305 mw_5 mw_306) hrm.1 hrm.2 ⟨rfl, by decide +kernel, by decide +kernel, by rw [hn]; decide +kernel⟩ hR hf hls hst hr8 hdg kk
theorem kw_X1_dear {X' : bS} {mc ms : Nat} {v : Value} (hC : CallFix p m c cc nL s args wsL_law RX1) (hM : Wr l yX1_dear cX1_dear 3 (some .int) rm (MW D cI b N) (MW D cI b X') (inM b) (.ref (b 5) :: As) (some v) mc ms) (hB : MW D cI b N s H) (hn : As.length = 0) (hrm : rm.cells = mc ∧ rm.slots = ms) (hR : rm.frames + 1 ≤ R.frames ∧ 8 + (3 + 11) + rm.locals ≤ R.locals) (hf : cells + mc ≤ R.cells ∧ slots + ms ≤ R.slots) (hS : va_S A0 H0 H locs) (hA : ∀ q, inM b q → A0 q) (hls : ls.size = nL) (hst : st0 = As.reverse ++ .ref (b 5) :: rest) (hr8 : (rest.map fun v => v.category).sum ≤ 8) (hdg : decode cc pc = .ok (.invokevirtual 97, 3)) (kk : ∀ (H1 : Heap) (locs1 : List Loc), MW D cI b X' s H1 → va_S A0 H0 H1 locs1 → W p l e R s m args below meth c H1 locs1 (cells + mc) (slots + ms) Q (F0 m (pc + 3) ls (v :: rest))) : W p l e R s m args below meth c H locs cells slots Q (F0 m pc ls st0) :=
  kVw hC hM mov_M mov_M hB (rec_M hB) (good_V mw_303 mw_304 mw_305 mw_5 mw_306) hrm.1 hrm.2 ⟨rfl, by decide +kernel, by decide +kernel, by rw [hn]; decide +kernel⟩ hR hf hS hA hls hst hr8 hdg (fun H1 locs1 h1 h2 _ _ => kk H1 locs1 h1 h2)
theorem k_X1_next {v : Value} (hC : CallFix p m c cc nL s args wsL_law RX1) (hM : Rd l yX1_next cX1_next 3 (some .int) rm (MW D cI b N) (.ref (b 5) :: As) v) (hB : MW D cI b N s H) (hn : As.length = 0) (hrm : rm.cells = 0 ∧ rm.slots = 0) (hR : rm.frames + 1 ≤ R.frames ∧ 8 + (3 + 11) + rm.locals ≤ R.locals) (hf : cells ≤ R.cells ∧ slots ≤ R.slots) (hls : ls.size = nL) (hst : st0 = As.reverse ++ .ref (b 5) :: rest) (hr8 : (rest.map fun v => v.category).sum ≤ 8) (hdg : decode cc pc = .ok (.invokevirtual 100, 3)) (kk : W p l e R s m args below meth c H locs cells slots Q (F0 m (pc + 3) ls (v :: rest))) : W p l e R s m args below meth c H locs cells slots Q (F0 m pc ls st0) :=
  kV hC hM mov_M hB (rec_M hB) (good_V mw_315 mw_316 mw_317 mw_5 mw_318) hrm.1 hrm.2 ⟨rfl, by decide +kernel, by decide +kernel, by rw [hn]; decide +kernel⟩ hR hf hls hst hr8 hdg kk
theorem kw_X1_next {X' : bS} {mc ms : Nat} {v : Value} (hC : CallFix p m c cc nL s args wsL_law RX1) (hM : Wr l yX1_next cX1_next 3 (some .int) rm (MW D cI b N) (MW D cI b X') (inM b) (.ref (b 5) :: As) (some v) mc ms) (hB : MW D cI b N s H) (hn : As.length = 0) (hrm : rm.cells = mc ∧ rm.slots = ms) (hR : rm.frames + 1 ≤ R.frames ∧ 8 + (3 + 11) + rm.locals ≤ R.locals) (hf : cells + mc ≤ R.cells ∧ slots + ms ≤ R.slots) (hS : va_S A0 H0 H locs) (hA : ∀ q, inM b q → A0 q) (hls : ls.size = nL) (hst : st0 = As.reverse ++ .ref (b 5) :: rest) (hr8 : (rest.map fun v => v.category).sum ≤ 8) (hdg : decode cc pc = .ok (.invokevirtual 100, 3)) (kk : ∀ (H1 : Heap) (locs1 : List Loc), MW D cI b X' s H1 → va_S A0 H0 H1 locs1 → W p l e R s m args below meth c H1 locs1 (cells + mc) (slots + ms) Q (F0 m (pc + 3) ls (v :: rest))) : W p l e R s m args below meth c H locs cells slots Q (F0 m pc ls st0) :=
  kVw hC hM mov_M mov_M hB (rec_M hB) (good_V mw_315 mw_316 mw_317 mw_5 mw_318) hrm.1 hrm.2 ⟨rfl, by decide +kernel, by decide +kernel, by rw [hn]; decide +kernel⟩ hR hf hS hA hls hst hr8 hdg (fun H1 locs1 h1 h2 _ _ => kk H1 locs1 h1 h2)
theorem k_X0_worthBehind {v : Value} (hC : CallFix p m c cc nL s args wsL_law RX0) (hM : Rd l yX0_worthBehind cX0_worthBehind 7 (some .int) rm (BW D cI cQ a S) (.ref (a 13) :: As) v) (hB : BW D cI cQ a S s H) (hn : As.length = 2) (hrm : rm.cells = 0 ∧ rm.slots = 0) (hR : rm.frames + 1 ≤ R.frames ∧ 8 + (7 + 11) + rm.locals ≤ R.locals) (hf : cells ≤ R.cells ∧ slots ≤ R.slots) (hls : ls.size = nL) (hst : st0 = As.reverse ++ .ref (a 13) :: rest) (hr8 : (rest.map fun v => v.category).sum ≤ 8) (hdg : decode cc pc = .ok (.invokevirtual 100, 3)) (kk : W p l e R s m args below meth c H locs cells slots Q (F0 m (pc + 3) ls (v :: rest))) : W p l e R s m args below meth c H locs cells slots Q (F0 m pc ls st0) :=
  kV hC hM mov_B hB (rec_B hB) (good_V mw_356 mw_357 mw_358 mw_2 mw_359) hrm.1 hrm.2 ⟨rfl, by decide +kernel, by decide +kernel, by rw [hn]; decide +kernel⟩ hR hf hls hst hr8 hdg kk
theorem kw_X0_worthBehind {X' : bS} {mc ms : Nat} {v : Value} (hC : CallFix p m c cc nL s args wsL_law RX0) (hM : Wr l yX0_worthBehind cX0_worthBehind 7 (some .int) rm (BW D cI cQ a S) (BW D cI cQ a X') (inB a) (.ref (a 13) :: As) (some v) mc ms) (hB : BW D cI cQ a S s H) (hn : As.length = 2) (hrm : rm.cells = mc ∧ rm.slots = ms) (hR : rm.frames + 1 ≤ R.frames ∧ 8 + (7 + 11) + rm.locals ≤ R.locals) (hf : cells + mc ≤ R.cells ∧ slots + ms ≤ R.slots) (hS : va_S A0 H0 H locs) (hA : ∀ q, inB a q → A0 q) (hls : ls.size = nL) (hst : st0 = As.reverse ++ .ref (a 13) :: rest) (hr8 : (rest.map fun v => v.category).sum ≤ 8) (hdg : decode cc pc = .ok (.invokevirtual 100, 3)) (kk : ∀ (H1 : Heap) (locs1 : List Loc), BW D cI cQ a X' s H1 → va_S A0 H0 H1 locs1 → W p l e R s m args below meth c H1 locs1 (cells + mc) (slots + ms) Q (F0 m (pc + 3) ls (v :: rest))) : W p l e R s m args below meth c H locs cells slots Q (F0 m pc ls st0) :=
  kVw hC hM mov_B mov_B hB (rec_B hB) (good_V mw_356 mw_357 mw_358 mw_2 mw_359) hrm.1 hrm.2 ⟨rfl, by decide +kernel, by decide +kernel, by rw [hn]; decide +kernel⟩ hR hf hS hA hls hst hr8 hdg (fun H1 locs1 h1 h2 _ _ => kk H1 locs1 h1 h2)
theorem k_X0_closing {v : Value} (hC : CallFix p m c cc nL s args wsL_law RX0) (hM : Rd l yX0_closing cX0_closing 2 (some .int) rm (BW D cI cQ a S) (.ref (a 13) :: As) v) (hB : BW D cI cQ a S s H) (hn : As.length = 1) (hrm : rm.cells = 0 ∧ rm.slots = 0) (hR : rm.frames + 1 ≤ R.frames ∧ 8 + (2 + 11) + rm.locals ≤ R.locals) (hf : cells ≤ R.cells ∧ slots ≤ R.slots) (hls : ls.size = nL) (hst : st0 = As.reverse ++ .ref (a 13) :: rest) (hr8 : (rest.map fun v => v.category).sum ≤ 8) (hdg : decode cc pc = .ok (.invokevirtual 106, 3)) (kk : W p l e R s m args below meth c H locs cells slots Q (F0 m (pc + 3) ls (v :: rest))) : W p l e R s m args below meth c H locs cells slots Q (F0 m pc ls st0) :=
  kV hC hM mov_B hB (rec_B hB) (good_V mw_360 mw_361 mw_362 mw_2 mw_363) hrm.1 hrm.2 ⟨rfl, by decide +kernel, by decide +kernel, by rw [hn]; decide +kernel⟩ hR hf hls hst hr8 hdg kk
theorem kw_X0_closing {X' : bS} {mc ms : Nat} {v : Value} (hC : CallFix p m c cc nL s args wsL_law RX0) (hM : Wr l yX0_closing cX0_closing 2 (some .int) rm (BW D cI cQ a S) (BW D cI cQ a X') (inB a) (.ref (a 13) :: As) (some v) mc ms) (hB : BW D cI cQ a S s H) (hn : As.length = 1) (hrm : rm.cells = mc ∧ rm.slots = ms) (hR : rm.frames + 1 ≤ R.frames ∧ 8 + (2 + 11) + rm.locals ≤ R.locals) (hf : cells + mc ≤ R.cells ∧ slots + ms ≤ R.slots) (hS : va_S A0 H0 H locs) (hA : ∀ q, inB a q → A0 q) (hls : ls.size = nL) (hst : st0 = As.reverse ++ .ref (a 13) :: rest) (hr8 : (rest.map fun v => v.category).sum ≤ 8) (hdg : decode cc pc = .ok (.invokevirtual 106, 3)) (kk : ∀ (H1 : Heap) (locs1 : List Loc), BW D cI cQ a X' s H1 → va_S A0 H0 H1 locs1 → W p l e R s m args below meth c H1 locs1 (cells + mc) (slots + ms) Q (F0 m (pc + 3) ls (v :: rest))) : W p l e R s m args below meth c H locs cells slots Q (F0 m pc ls st0) :=
  kVw hC hM mov_B mov_B hB (rec_B hB) (good_V mw_360 mw_361 mw_362 mw_2 mw_363) hrm.1 hrm.2 ⟨rfl, by decide +kernel, by decide +kernel, by rw [hn]; decide +kernel⟩ hR hf hS hA hls hst hr8 hdg (fun H1 locs1 h1 h2 _ _ => kk H1 locs1 h1 h2)
theorem k_X0_closingWith {v : Value} (hC : CallFix p m c cc nL s args wsL_law RX0) (hM : Rd l yX0_closingWith cX0_closingWith 3 (some .int) rm (BW D cI cQ a S) (.ref (a 13) :: As) v) (hB : BW D cI cQ a S s H) (hn : As.length = 2) (hrm : rm.cells = 0 ∧ rm.slots = 0) (hR : rm.frames + 1 ≤ R.frames ∧ 8 + (3 + 11) + rm.locals ≤ R.locals) (hf : cells ≤ R.cells ∧ slots ≤ R.slots) (hls : ls.size = nL) (hst : st0 = As.reverse ++ .ref (a 13) :: rest) (hr8 : (rest.map fun v => v.category).sum ≤ 8) (hdg : decode cc pc = .ok (.invokevirtual 175, 3)) (kk : W p l e R s m args below meth c H locs cells slots Q (F0 m (pc + 3) ls (v :: rest))) : W p l e R s m args below meth c H locs cells slots Q (F0 m pc ls st0) :=
  kV hC hM mov_B hB (rec_B hB) (good_V mw_364 mw_365 mw_366 mw_2 mw_367) hrm.1 hrm.2 ⟨rfl, by decide +kernel, by decide +kernel, by rw [hn]; decide +kernel⟩ hR hf hls hst hr8 hdg kk
theorem kw_X0_closingWith {X' : bS} {mc ms : Nat} {v : Value} (hC : CallFix p m c cc nL s args wsL_law RX0) (hM : Wr l yX0_closingWith cX0_closingWith 3 (some .int) rm (BW D cI cQ a S) (BW D cI cQ a X') (inB a) (.ref (a 13) :: As) (some v) mc ms) (hB : BW D cI cQ a S s H) (hn : As.length = 2) (hrm : rm.cells = mc ∧ rm.slots = ms) (hR : rm.frames + 1 ≤ R.frames ∧ 8 + (3 + 11) + rm.locals ≤ R.locals) (hf : cells + mc ≤ R.cells ∧ slots + ms ≤ R.slots) (hS : va_S A0 H0 H locs) (hA : ∀ q, inB a q → A0 q) (hls : ls.size = nL) (hst : st0 = As.reverse ++ .ref (a 13) :: rest) (hr8 : (rest.map fun v => v.category).sum ≤ 8) (hdg : decode cc pc = .ok (.invokevirtual 175, 3)) (kk : ∀ (H1 : Heap) (locs1 : List Loc), BW D cI cQ a X' s H1 → va_S A0 H0 H1 locs1 → W p l e R s m args below meth c H1 locs1 (cells + mc) (slots + ms) Q (F0 m (pc + 3) ls (v :: rest))) : W p l e R s m args below meth c H locs cells slots Q (F0 m pc ls st0) :=
  kVw hC hM mov_B mov_B hB (rec_B hB) (good_V mw_364 mw_365 mw_366 mw_2 mw_367) hrm.1 hrm.2 ⟨rfl, by decide +kernel, by decide +kernel, by rw [hn]; decide +kernel⟩ hR hf hS hA hls hst hr8 hdg (fun H1 locs1 h1 h2 _ _ => kk H1 locs1 h1 h2)
theorem k_X0_priceBehind {v : Value} (hC : CallFix p m c cc nL s args wsL_law RX0) (hM : Rd l yX0_priceBehind cX0_priceBehind 6 (some .int) rm (BW D cI cQ a S) (.ref (a 13) :: As) v) (hB : BW D cI cQ a S s H) (hn : As.length = 2) (hrm : rm.cells = 0 ∧ rm.slots = 0) (hR : rm.frames + 1 ≤ R.frames ∧ 8 + (6 + 11) + rm.locals ≤ R.locals) (hf : cells ≤ R.cells ∧ slots ≤ R.slots) (hls : ls.size = nL) (hst : st0 = As.reverse ++ .ref (a 13) :: rest) (hr8 : (rest.map fun v => v.category).sum ≤ 8) (hdg : decode cc pc = .ok (.invokevirtual 109, 3)) (kk : W p l e R s m args below meth c H locs cells slots Q (F0 m (pc + 3) ls (v :: rest))) : W p l e R s m args below meth c H locs cells slots Q (F0 m pc ls st0) :=
  kV hC hM mov_B hB (rec_B hB) (good_V mw_368 mw_369 mw_370 mw_2 mw_371) hrm.1 hrm.2 ⟨rfl, by decide +kernel, by decide +kernel, by rw [hn]; decide +kernel⟩ hR hf hls hst hr8 hdg kk
theorem kw_X0_priceBehind {X' : bS} {mc ms : Nat} {v : Value} (hC : CallFix p m c cc nL s args wsL_law RX0) (hM : Wr l yX0_priceBehind cX0_priceBehind 6 (some .int) rm (BW D cI cQ a S) (BW D cI cQ a X') (inB a) (.ref (a 13) :: As) (some v) mc ms) (hB : BW D cI cQ a S s H) (hn : As.length = 2) (hrm : rm.cells = mc ∧ rm.slots = ms) (hR : rm.frames + 1 ≤ R.frames ∧ 8 + (6 + 11) + rm.locals ≤ R.locals) (hf : cells + mc ≤ R.cells ∧ slots + ms ≤ R.slots) (hS : va_S A0 H0 H locs) (hA : ∀ q, inB a q → A0 q) (hls : ls.size = nL) (hst : st0 = As.reverse ++ .ref (a 13) :: rest) (hr8 : (rest.map fun v => v.category).sum ≤ 8) (hdg : decode cc pc = .ok (.invokevirtual 109, 3)) (kk : ∀ (H1 : Heap) (locs1 : List Loc), BW D cI cQ a X' s H1 → va_S A0 H0 H1 locs1 → W p l e R s m args below meth c H1 locs1 (cells + mc) (slots + ms) Q (F0 m (pc + 3) ls (v :: rest))) : W p l e R s m args below meth c H locs cells slots Q (F0 m pc ls st0) :=
  kVw hC hM mov_B mov_B hB (rec_B hB) (good_V mw_368 mw_369 mw_370 mw_2 mw_371) hrm.1 hrm.2 ⟨rfl, by decide +kernel, by decide +kernel, by rw [hn]; decide +kernel⟩ hR hf hS hA hls hst hr8 hdg (fun H1 locs1 h1 h2 _ _ => kk H1 locs1 h1 h2)
theorem k_X1_worth {v : Value} (hC : CallFix p m c cc nL s args wsL_law RX1) (hM : Rd l yX1_worth cX1_worth 4 (some .int) rm (MW D cI b N) (.ref (b 5) :: As) v) (hB : MW D cI b N s H) (hn : As.length = 1) (hrm : rm.cells = 0 ∧ rm.slots = 0) (hR : rm.frames + 1 ≤ R.frames ∧ 8 + (4 + 11) + rm.locals ≤ R.locals) (hf : cells ≤ R.cells ∧ slots ≤ R.slots) (hls : ls.size = nL) (hst : st0 = As.reverse ++ .ref (b 5) :: rest) (hr8 : (rest.map fun v => v.category).sum ≤ 8) (hdg : decode cc pc = .ok (.invokevirtual 103, 3)) (kk : W p l e R s m args below meth c H locs cells slots Q (F0 m (pc + 3) ls (v :: rest))) : W p l e R s m args below meth c H locs cells slots Q (F0 m pc ls st0) :=
  kV hC hM mov_M hB (rec_M hB) (good_V mw_376 mw_377 mw_378 mw_5 mw_379) hrm.1 hrm.2 ⟨rfl, by decide +kernel, by decide +kernel, by rw [hn]; decide +kernel⟩ hR hf hls hst hr8 hdg kk
theorem kw_X1_worth {X' : bS} {mc ms : Nat} {v : Value} (hC : CallFix p m c cc nL s args wsL_law RX1) (hM : Wr l yX1_worth cX1_worth 4 (some .int) rm (MW D cI b N) (MW D cI b X') (inM b) (.ref (b 5) :: As) (some v) mc ms) (hB : MW D cI b N s H) (hn : As.length = 1) (hrm : rm.cells = mc ∧ rm.slots = ms) (hR : rm.frames + 1 ≤ R.frames ∧ 8 + (4 + 11) + rm.locals ≤ R.locals) (hf : cells + mc ≤ R.cells ∧ slots + ms ≤ R.slots) (hS : va_S A0 H0 H locs) (hA : ∀ q, inM b q → A0 q) (hls : ls.size = nL) (hst : st0 = As.reverse ++ .ref (b 5) :: rest) (hr8 : (rest.map fun v => v.category).sum ≤ 8) (hdg : decode cc pc = .ok (.invokevirtual 103, 3)) (kk : ∀ (H1 : Heap) (locs1 : List Loc), MW D cI b X' s H1 → va_S A0 H0 H1 locs1 → W p l e R s m args below meth c H1 locs1 (cells + mc) (slots + ms) Q (F0 m (pc + 3) ls (v :: rest))) : W p l e R s m args below meth c H locs cells slots Q (F0 m pc ls st0) :=
  kVw hC hM mov_M mov_M hB (rec_M hB) (good_V mw_376 mw_377 mw_378 mw_5 mw_379) hrm.1 hrm.2 ⟨rfl, by decide +kernel, by decide +kernel, by rw [hn]; decide +kernel⟩ hR hf hS hA hls hst hr8 hdg (fun H1 locs1 h1 h2 _ _ => kk H1 locs1 h1 h2)
theorem k_X1_rich {v : Value} (hC : CallFix p m c cc nL s args wsL_law RX1) (hM : Rd l yX1_rich cX1_rich 3 (some .int) rm (MW D cI b N) (.ref (b 5) :: As) v) (hB : MW D cI b N s H) (hn : As.length = 0) (hrm : rm.cells = 0 ∧ rm.slots = 0) (hR : rm.frames + 1 ≤ R.frames ∧ 8 + (3 + 11) + rm.locals ≤ R.locals) (hf : cells ≤ R.cells ∧ slots ≤ R.slots) (hls : ls.size = nL) (hst : st0 = As.reverse ++ .ref (b 5) :: rest) (hr8 : (rest.map fun v => v.category).sum ≤ 8) (hdg : decode cc pc = .ok (.invokevirtual 106, 3)) (kk : W p l e R s m args below meth c H locs cells slots Q (F0 m (pc + 3) ls (v :: rest))) : W p l e R s m args below meth c H locs cells slots Q (F0 m pc ls st0) :=
  kV hC hM mov_M hB (rec_M hB) (good_V mw_388 mw_389 mw_390 mw_5 mw_391) hrm.1 hrm.2 ⟨rfl, by decide +kernel, by decide +kernel, by rw [hn]; decide +kernel⟩ hR hf hls hst hr8 hdg kk
theorem kw_X1_rich {X' : bS} {mc ms : Nat} {v : Value} (hC : CallFix p m c cc nL s args wsL_law RX1) (hM : Wr l yX1_rich cX1_rich 3 (some .int) rm (MW D cI b N) (MW D cI b X') (inM b) (.ref (b 5) :: As) (some v) mc ms) (hB : MW D cI b N s H) (hn : As.length = 0) (hrm : rm.cells = mc ∧ rm.slots = ms) (hR : rm.frames + 1 ≤ R.frames ∧ 8 + (3 + 11) + rm.locals ≤ R.locals) (hf : cells + mc ≤ R.cells ∧ slots + ms ≤ R.slots) (hS : va_S A0 H0 H locs) (hA : ∀ q, inM b q → A0 q) (hls : ls.size = nL) (hst : st0 = As.reverse ++ .ref (b 5) :: rest) (hr8 : (rest.map fun v => v.category).sum ≤ 8) (hdg : decode cc pc = .ok (.invokevirtual 106, 3)) (kk : ∀ (H1 : Heap) (locs1 : List Loc), MW D cI b X' s H1 → va_S A0 H0 H1 locs1 → W p l e R s m args below meth c H1 locs1 (cells + mc) (slots + ms) Q (F0 m (pc + 3) ls (v :: rest))) : W p l e R s m args below meth c H locs cells slots Q (F0 m pc ls st0) :=
  kVw hC hM mov_M mov_M hB (rec_M hB) (good_V mw_388 mw_389 mw_390 mw_5 mw_391) hrm.1 hrm.2 ⟨rfl, by decide +kernel, by decide +kernel, by rw [hn]; decide +kernel⟩ hR hf hS hA hls hst hr8 hdg (fun H1 locs1 h1 h2 _ _ => kk H1 locs1 h1 h2)
theorem k_X0_shortTowers {v : Value} (hC : CallFix p m c cc nL s args wsL_law RX0) (hM : Rd l yX0_shortTowers cX0_shortTowers 4 (some .int) rm (BW D cI cQ a S) (.ref (a 13) :: As) v) (hB : BW D cI cQ a S s H) (hn : As.length = 1) (hrm : rm.cells = 0 ∧ rm.slots = 0) (hR : rm.frames + 1 ≤ R.frames ∧ 8 + (4 + 11) + rm.locals ≤ R.locals) (hf : cells ≤ R.cells ∧ slots ≤ R.slots) (hls : ls.size = nL) (hst : st0 = As.reverse ++ .ref (a 13) :: rest) (hr8 : (rest.map fun v => v.category).sum ≤ 8) (hdg : decode cc pc = .ok (.invokevirtual 103, 3)) (kk : W p l e R s m args below meth c H locs cells slots Q (F0 m (pc + 3) ls (v :: rest))) : W p l e R s m args below meth c H locs cells slots Q (F0 m pc ls st0) :=
  kV hC hM mov_B hB (rec_B hB) (good_V mw_399 mw_400 mw_401 mw_2 mw_402) hrm.1 hrm.2 ⟨rfl, by decide +kernel, by decide +kernel, by rw [hn]; decide +kernel⟩ hR hf hls hst hr8 hdg kk
theorem kw_X0_shortTowers {X' : bS} {mc ms : Nat} {v : Value} (hC : CallFix p m c cc nL s args wsL_law RX0) (hM : Wr l yX0_shortTowers cX0_shortTowers 4 (some .int) rm (BW D cI cQ a S) (BW D cI cQ a X') (inB a) (.ref (a 13) :: As) (some v) mc ms) (hB : BW D cI cQ a S s H) (hn : As.length = 1) (hrm : rm.cells = mc ∧ rm.slots = ms) (hR : rm.frames + 1 ≤ R.frames ∧ 8 + (4 + 11) + rm.locals ≤ R.locals) (hf : cells + mc ≤ R.cells ∧ slots + ms ≤ R.slots) (hS : va_S A0 H0 H locs) (hA : ∀ q, inB a q → A0 q) (hls : ls.size = nL) (hst : st0 = As.reverse ++ .ref (a 13) :: rest) (hr8 : (rest.map fun v => v.category).sum ≤ 8) (hdg : decode cc pc = .ok (.invokevirtual 103, 3)) (kk : ∀ (H1 : Heap) (locs1 : List Loc), BW D cI cQ a X' s H1 → va_S A0 H0 H1 locs1 → W p l e R s m args below meth c H1 locs1 (cells + mc) (slots + ms) Q (F0 m (pc + 3) ls (v :: rest))) : W p l e R s m args below meth c H locs cells slots Q (F0 m pc ls st0) :=
  kVw hC hM mov_B mov_B hB (rec_B hB) (good_V mw_399 mw_400 mw_401 mw_2 mw_402) hrm.1 hrm.2 ⟨rfl, by decide +kernel, by decide +kernel, by rw [hn]; decide +kernel⟩ hR hf hS hA hls hst hr8 hdg (fun H1 locs1 h1 h2 _ _ => kk H1 locs1 h1 h2)
theorem k_X1_shorts {v : Value} (hC : CallFix p m c cc nL s args wsL_law RX1) (hM : Rd l yX1_shorts cX1_shorts 4 (some .int) rm (MW D cI b N) (.ref (b 5) :: As) v) (hB : MW D cI b N s H) (hn : As.length = 1) (hrm : rm.cells = 0 ∧ rm.slots = 0) (hR : rm.frames + 1 ≤ R.frames ∧ 8 + (4 + 11) + rm.locals ≤ R.locals) (hf : cells ≤ R.cells ∧ slots ≤ R.slots) (hls : ls.size = nL) (hst : st0 = As.reverse ++ .ref (b 5) :: rest) (hr8 : (rest.map fun v => v.category).sum ≤ 8) (hdg : decode cc pc = .ok (.invokevirtual 109, 3)) (kk : W p l e R s m args below meth c H locs cells slots Q (F0 m (pc + 3) ls (v :: rest))) : W p l e R s m args below meth c H locs cells slots Q (F0 m pc ls st0) :=
  kV hC hM mov_M hB (rec_M hB) (good_V mw_407 mw_408 mw_409 mw_5 mw_410) hrm.1 hrm.2 ⟨rfl, by decide +kernel, by decide +kernel, by rw [hn]; decide +kernel⟩ hR hf hls hst hr8 hdg kk
theorem kw_X1_shorts {X' : bS} {mc ms : Nat} {v : Value} (hC : CallFix p m c cc nL s args wsL_law RX1) (hM : Wr l yX1_shorts cX1_shorts 4 (some .int) rm (MW D cI b N) (MW D cI b X') (inM b) (.ref (b 5) :: As) (some v) mc ms) (hB : MW D cI b N s H) (hn : As.length = 1) (hrm : rm.cells = mc ∧ rm.slots = ms) (hR : rm.frames + 1 ≤ R.frames ∧ 8 + (4 + 11) + rm.locals ≤ R.locals) (hf : cells + mc ≤ R.cells ∧ slots + ms ≤ R.slots) (hS : va_S A0 H0 H locs) (hA : ∀ q, inM b q → A0 q) (hls : ls.size = nL) (hst : st0 = As.reverse ++ .ref (b 5) :: rest) (hr8 : (rest.map fun v => v.category).sum ≤ 8) (hdg : decode cc pc = .ok (.invokevirtual 109, 3)) (kk : ∀ (H1 : Heap) (locs1 : List Loc), MW D cI b X' s H1 → va_S A0 H0 H1 locs1 → W p l e R s m args below meth c H1 locs1 (cells + mc) (slots + ms) Q (F0 m (pc + 3) ls (v :: rest))) : W p l e R s m args below meth c H locs cells slots Q (F0 m pc ls st0) :=
  kVw hC hM mov_M mov_M hB (rec_M hB) (good_V mw_407 mw_408 mw_409 mw_5 mw_410) hrm.1 hrm.2 ⟨rfl, by decide +kernel, by decide +kernel, by rw [hn]; decide +kernel⟩ hR hf hS hA hls hst hr8 hdg (fun H1 locs1 h1 h2 _ _ => kk H1 locs1 h1 h2)
theorem k_X1_owing {v : Value} (hC : CallFix p m c cc nL s args wsL_law RX1) (hM : Rd l yX1_owing cX1_owing 3 (some .int) rm (MW D cI b N) (.ref (b 5) :: As) v) (hB : MW D cI b N s H) (hn : As.length = 0) (hrm : rm.cells = 0 ∧ rm.slots = 0) (hR : rm.frames + 1 ≤ R.frames ∧ 8 + (3 + 11) + rm.locals ≤ R.locals) (hf : cells ≤ R.cells ∧ slots ≤ R.slots) (hls : ls.size = nL) (hst : st0 = As.reverse ++ .ref (b 5) :: rest) (hr8 : (rest.map fun v => v.category).sum ≤ 8) (hdg : decode cc pc = .ok (.invokevirtual 112, 3)) (kk : W p l e R s m args below meth c H locs cells slots Q (F0 m (pc + 3) ls (v :: rest))) : W p l e R s m args below meth c H locs cells slots Q (F0 m pc ls st0) :=
  kV hC hM mov_M hB (rec_M hB) (good_V mw_419 mw_420 mw_421 mw_5 mw_422) hrm.1 hrm.2 ⟨rfl, by decide +kernel, by decide +kernel, by rw [hn]; decide +kernel⟩ hR hf hls hst hr8 hdg kk
theorem kw_X1_owing {X' : bS} {mc ms : Nat} {v : Value} (hC : CallFix p m c cc nL s args wsL_law RX1) (hM : Wr l yX1_owing cX1_owing 3 (some .int) rm (MW D cI b N) (MW D cI b X') (inM b) (.ref (b 5) :: As) (some v) mc ms) (hB : MW D cI b N s H) (hn : As.length = 0) (hrm : rm.cells = mc ∧ rm.slots = ms) (hR : rm.frames + 1 ≤ R.frames ∧ 8 + (3 + 11) + rm.locals ≤ R.locals) (hf : cells + mc ≤ R.cells ∧ slots + ms ≤ R.slots) (hS : va_S A0 H0 H locs) (hA : ∀ q, inM b q → A0 q) (hls : ls.size = nL) (hst : st0 = As.reverse ++ .ref (b 5) :: rest) (hr8 : (rest.map fun v => v.category).sum ≤ 8) (hdg : decode cc pc = .ok (.invokevirtual 112, 3)) (kk : ∀ (H1 : Heap) (locs1 : List Loc), MW D cI b X' s H1 → va_S A0 H0 H1 locs1 → W p l e R s m args below meth c H1 locs1 (cells + mc) (slots + ms) Q (F0 m (pc + 3) ls (v :: rest))) : W p l e R s m args below meth c H locs cells slots Q (F0 m pc ls st0) :=
  kVw hC hM mov_M mov_M hB (rec_M hB) (good_V mw_419 mw_420 mw_421 mw_5 mw_422) hrm.1 hrm.2 ⟨rfl, by decide +kernel, by decide +kernel, by rw [hn]; decide +kernel⟩ hR hf hS hA hls hst hr8 hdg (fun H1 locs1 h1 h2 _ _ => kk H1 locs1 h1 h2)
theorem k_X1_closing {v : Value} (hC : CallFix p m c cc nL s args wsL_law RX1) (hM : Rd l yX1_closing cX1_closing 2 (some .int) rm (MW D cI b N) (.ref (b 5) :: As) v) (hB : MW D cI b N s H) (hn : As.length = 1) (hrm : rm.cells = 0 ∧ rm.slots = 0) (hR : rm.frames + 1 ≤ R.frames ∧ 8 + (2 + 11) + rm.locals ≤ R.locals) (hf : cells ≤ R.cells ∧ slots ≤ R.slots) (hls : ls.size = nL) (hst : st0 = As.reverse ++ .ref (b 5) :: rest) (hr8 : (rest.map fun v => v.category).sum ≤ 8) (hdg : decode cc pc = .ok (.invokevirtual 115, 3)) (kk : W p l e R s m args below meth c H locs cells slots Q (F0 m (pc + 3) ls (v :: rest))) : W p l e R s m args below meth c H locs cells slots Q (F0 m pc ls st0) :=
  kV hC hM mov_M hB (rec_M hB) (good_V mw_434 mw_435 mw_436 mw_5 mw_437) hrm.1 hrm.2 ⟨rfl, by decide +kernel, by decide +kernel, by rw [hn]; decide +kernel⟩ hR hf hls hst hr8 hdg kk
theorem kw_X1_closing {X' : bS} {mc ms : Nat} {v : Value} (hC : CallFix p m c cc nL s args wsL_law RX1) (hM : Wr l yX1_closing cX1_closing 2 (some .int) rm (MW D cI b N) (MW D cI b X') (inM b) (.ref (b 5) :: As) (some v) mc ms) (hB : MW D cI b N s H) (hn : As.length = 1) (hrm : rm.cells = mc ∧ rm.slots = ms) (hR : rm.frames + 1 ≤ R.frames ∧ 8 + (2 + 11) + rm.locals ≤ R.locals) (hf : cells + mc ≤ R.cells ∧ slots + ms ≤ R.slots) (hS : va_S A0 H0 H locs) (hA : ∀ q, inM b q → A0 q) (hls : ls.size = nL) (hst : st0 = As.reverse ++ .ref (b 5) :: rest) (hr8 : (rest.map fun v => v.category).sum ≤ 8) (hdg : decode cc pc = .ok (.invokevirtual 115, 3)) (kk : ∀ (H1 : Heap) (locs1 : List Loc), MW D cI b X' s H1 → va_S A0 H0 H1 locs1 → W p l e R s m args below meth c H1 locs1 (cells + mc) (slots + ms) Q (F0 m (pc + 3) ls (v :: rest))) : W p l e R s m args below meth c H locs cells slots Q (F0 m pc ls st0) :=
  kVw hC hM mov_M mov_M hB (rec_M hB) (good_V mw_434 mw_435 mw_436 mw_5 mw_437) hrm.1 hrm.2 ⟨rfl, by decide +kernel, by decide +kernel, by rw [hn]; decide +kernel⟩ hR hf hS hA hls hst hr8 hdg (fun H1 locs1 h1 h2 _ _ => kk H1 locs1 h1 h2)
theorem k_X1_keep {v : Value} (hC : CallFix p m c cc nL s args wsL_law RX1) (hM : Rd l yX1_keep cX1_keep 1 none rm (MW D cI b N) (.ref (b 5) :: As) v) (hB : MW D cI b N s H) (hn : As.length = 0) (hrm : rm.cells = 0 ∧ rm.slots = 0) (hR : rm.frames + 1 ≤ R.frames ∧ 8 + (1 + 11) + rm.locals ≤ R.locals) (hf : cells ≤ R.cells ∧ slots ≤ R.slots) (hls : ls.size = nL) (hst : st0 = As.reverse ++ .ref (b 5) :: rest) (hr8 : (rest.map fun v => v.category).sum ≤ 8) (hdg : decode cc pc = .ok (.invokevirtual 118, 3)) (kk : W p l e R s m args below meth c H locs cells slots Q (F0 m (pc + 3) ls (v :: rest))) : W p l e R s m args below meth c H locs cells slots Q (F0 m pc ls st0) :=
  kV hC hM mov_M hB (rec_M hB) (good_V mw_449 mw_450 mw_451 mw_5 mw_452) hrm.1 hrm.2 ⟨rfl, by decide +kernel, by decide +kernel, by rw [hn]; decide +kernel⟩ hR hf hls hst hr8 hdg kk
theorem kn_X1_keep (hC : CallFix p m c cc nL s args wsL_law RX1) (hM : Rn l yX1_keep cX1_keep 1 none rm (MW D cI b N) (.ref (b 5) :: As)) (hB : MW D cI b N s H) (hn : As.length = 0) (hrm : rm.cells = 0 ∧ rm.slots = 0) (hR : rm.frames + 1 ≤ R.frames ∧ 8 + (1 + 11) + rm.locals ≤ R.locals) (hf : cells ≤ R.cells ∧ slots ≤ R.slots) (hls : ls.size = nL) (hst : st0 = As.reverse ++ .ref (b 5) :: rest) (hr8 : (rest.map fun v => v.category).sum ≤ 8) (hdg : decode cc pc = .ok (.invokevirtual 118, 3)) (kk : W p l e R s m args below meth c H locs cells slots Q (F0 m (pc + 3) ls rest)) : W p l e R s m args below meth c H locs cells slots Q (F0 m pc ls st0) :=
  kVn hC hM mov_M hB (rec_M hB) (good_V mw_449 mw_450 mw_451 mw_5 mw_452) hrm.1 hrm.2 ⟨rfl, by decide +kernel, by decide +kernel, by rw [hn]; decide +kernel⟩ hR hf hls hst hr8 hdg kk
theorem kw_X1_keep {X' : bS} {mc ms : Nat} (hC : CallFix p m c cc nL s args wsL_law RX1) (hM : Wr l yX1_keep cX1_keep 1 none rm (MW D cI b N) (MW D cI b X') (inM b) (.ref (b 5) :: As) none mc ms) (hB : MW D cI b N s H) (hn : As.length = 0) (hrm : rm.cells = mc ∧ rm.slots = ms) (hR : rm.frames + 1 ≤ R.frames ∧ 8 + (1 + 11) + rm.locals ≤ R.locals) (hf : cells + mc ≤ R.cells ∧ slots + ms ≤ R.slots) (hS : va_S A0 H0 H locs) (hA : ∀ q, inM b q → A0 q) (hls : ls.size = nL) (hst : st0 = As.reverse ++ .ref (b 5) :: rest) (hr8 : (rest.map fun v => v.category).sum ≤ 8) (hdg : decode cc pc = .ok (.invokevirtual 118, 3)) (kk : ∀ (H1 : Heap) (locs1 : List Loc), MW D cI b X' s H1 → va_S A0 H0 H1 locs1 → W p l e R s m args below meth c H1 locs1 (cells + mc) (slots + ms) Q (F0 m (pc + 3) ls rest)) : W p l e R s m args below meth c H locs cells slots Q (F0 m pc ls st0) :=
  kVw hC hM mov_M mov_M hB (rec_M hB) (good_V mw_449 mw_450 mw_451 mw_5 mw_452) hrm.1 hrm.2 ⟨rfl, by decide +kernel, by decide +kernel, by rw [hn]; decide +kernel⟩ hR hf hS hA hls hst hr8 hdg (fun H1 locs1 h1 h2 _ _ => kk H1 locs1 h1 h2)
theorem k_X1_bringBack {v : Value} (hC : CallFix p m c cc nL s args wsL_law RX1) (hM : Rd l yX1_bringBack cX1_bringBack 1 none rm (MW D cI b N) (.ref (b 5) :: As) v) (hB : MW D cI b N s H) (hn : As.length = 0) (hrm : rm.cells = 0 ∧ rm.slots = 0) (hR : rm.frames + 1 ≤ R.frames ∧ 8 + (1 + 11) + rm.locals ≤ R.locals) (hf : cells ≤ R.cells ∧ slots ≤ R.slots) (hls : ls.size = nL) (hst : st0 = As.reverse ++ .ref (b 5) :: rest) (hr8 : (rest.map fun v => v.category).sum ≤ 8) (hdg : decode cc pc = .ok (.invokevirtual 121, 3)) (kk : W p l e R s m args below meth c H locs cells slots Q (F0 m (pc + 3) ls (v :: rest))) : W p l e R s m args below meth c H locs cells slots Q (F0 m pc ls st0) :=
  kV hC hM mov_M hB (rec_M hB) (good_V mw_457 mw_458 mw_459 mw_5 mw_460) hrm.1 hrm.2 ⟨rfl, by decide +kernel, by decide +kernel, by rw [hn]; decide +kernel⟩ hR hf hls hst hr8 hdg kk
theorem kn_X1_bringBack (hC : CallFix p m c cc nL s args wsL_law RX1) (hM : Rn l yX1_bringBack cX1_bringBack 1 none rm (MW D cI b N) (.ref (b 5) :: As)) (hB : MW D cI b N s H) (hn : As.length = 0) (hrm : rm.cells = 0 ∧ rm.slots = 0) (hR : rm.frames + 1 ≤ R.frames ∧ 8 + (1 + 11) + rm.locals ≤ R.locals) (hf : cells ≤ R.cells ∧ slots ≤ R.slots) (hls : ls.size = nL) (hst : st0 = As.reverse ++ .ref (b 5) :: rest) (hr8 : (rest.map fun v => v.category).sum ≤ 8) (hdg : decode cc pc = .ok (.invokevirtual 121, 3)) (kk : W p l e R s m args below meth c H locs cells slots Q (F0 m (pc + 3) ls rest)) : W p l e R s m args below meth c H locs cells slots Q (F0 m pc ls st0) :=
  kVn hC hM mov_M hB (rec_M hB) (good_V mw_457 mw_458 mw_459 mw_5 mw_460) hrm.1 hrm.2 ⟨rfl, by decide +kernel, by decide +kernel, by rw [hn]; decide +kernel⟩ hR hf hls hst hr8 hdg kk
theorem kw_X1_bringBack {X' : bS} {mc ms : Nat} (hC : CallFix p m c cc nL s args wsL_law RX1) (hM : Wr l yX1_bringBack cX1_bringBack 1 none rm (MW D cI b N) (MW D cI b X') (inM b) (.ref (b 5) :: As) none mc ms) (hB : MW D cI b N s H) (hn : As.length = 0) (hrm : rm.cells = mc ∧ rm.slots = ms) (hR : rm.frames + 1 ≤ R.frames ∧ 8 + (1 + 11) + rm.locals ≤ R.locals) (hf : cells + mc ≤ R.cells ∧ slots + ms ≤ R.slots) (hS : va_S A0 H0 H locs) (hA : ∀ q, inM b q → A0 q) (hls : ls.size = nL) (hst : st0 = As.reverse ++ .ref (b 5) :: rest) (hr8 : (rest.map fun v => v.category).sum ≤ 8) (hdg : decode cc pc = .ok (.invokevirtual 121, 3)) (kk : ∀ (H1 : Heap) (locs1 : List Loc), MW D cI b X' s H1 → va_S A0 H0 H1 locs1 → W p l e R s m args below meth c H1 locs1 (cells + mc) (slots + ms) Q (F0 m (pc + 3) ls rest)) : W p l e R s m args below meth c H locs cells slots Q (F0 m pc ls st0) :=
  kVw hC hM mov_M mov_M hB (rec_M hB) (good_V mw_457 mw_458 mw_459 mw_5 mw_460) hrm.1 hrm.2 ⟨rfl, by decide +kernel, by decide +kernel, by rw [hn]; decide +kernel⟩ hR hf hS hA hls hst hr8 hdg (fun H1 locs1 h1 h2 _ _ => kk H1 locs1 h1 h2)
theorem k_X0_riseUntilStroke {v : Value} (hC : CallFix p m c cc nL s args wsL_law RX0) (hM : Rd l yX0_riseUntilStroke cX0_riseUntilStroke 2 (some .int) rm (BW D cI cQ a S) (.ref (a 13) :: As) v) (hB : BW D cI cQ a S s H) (hn : As.length = 1) (hrm : rm.cells = 0 ∧ rm.slots = 0) (hR : rm.frames + 1 ≤ R.frames ∧ 8 + (2 + 11) + rm.locals ≤ R.locals) (hf : cells ≤ R.cells ∧ slots ≤ R.slots) (hls : ls.size = nL) (hst : st0 = As.reverse ++ .ref (a 13) :: rest) (hr8 : (rest.map fun v => v.category).sum ≤ 8) (hdg : decode cc pc = .ok (.invokevirtual 112, 3)) (kk : W p l e R s m args below meth c H locs cells slots Q (F0 m (pc + 3) ls (v :: rest))) : W p l e R s m args below meth c H locs cells slots Q (F0 m pc ls st0) :=
  kV hC hM mov_B hB (rec_B hB) (good_V mw_476 mw_477 mw_478 mw_2 mw_479) hrm.1 hrm.2 ⟨rfl, by decide +kernel, by decide +kernel, by rw [hn]; decide +kernel⟩ hR hf hls hst hr8 hdg kk
theorem kw_X0_riseUntilStroke {X' : bS} {mc ms : Nat} {v : Value} (hC : CallFix p m c cc nL s args wsL_law RX0) (hM : Wr l yX0_riseUntilStroke cX0_riseUntilStroke 2 (some .int) rm (BW D cI cQ a S) (BW D cI cQ a X') (inB a) (.ref (a 13) :: As) (some v) mc ms) (hB : BW D cI cQ a S s H) (hn : As.length = 1) (hrm : rm.cells = mc ∧ rm.slots = ms) (hR : rm.frames + 1 ≤ R.frames ∧ 8 + (2 + 11) + rm.locals ≤ R.locals) (hf : cells + mc ≤ R.cells ∧ slots + ms ≤ R.slots) (hS : va_S A0 H0 H locs) (hA : ∀ q, inB a q → A0 q) (hls : ls.size = nL) (hst : st0 = As.reverse ++ .ref (a 13) :: rest) (hr8 : (rest.map fun v => v.category).sum ≤ 8) (hdg : decode cc pc = .ok (.invokevirtual 112, 3)) (kk : ∀ (H1 : Heap) (locs1 : List Loc), BW D cI cQ a X' s H1 → va_S A0 H0 H1 locs1 → W p l e R s m args below meth c H1 locs1 (cells + mc) (slots + ms) Q (F0 m (pc + 3) ls (v :: rest))) : W p l e R s m args below meth c H locs cells slots Q (F0 m pc ls st0) :=
  kVw hC hM mov_B mov_B hB (rec_B hB) (good_V mw_476 mw_477 mw_478 mw_2 mw_479) hrm.1 hrm.2 ⟨rfl, by decide +kernel, by decide +kernel, by rw [hn]; decide +kernel⟩ hR hf hS hA hls hst hr8 hdg (fun H1 locs1 h1 h2 _ _ => kk H1 locs1 h1 h2)
theorem k_X1_toBuy {v : Value} (hC : CallFix p m c cc nL s args wsL_law RX1) (hM : Rd l yX1_toBuy cX1_toBuy 5 (some .int) rm (MW D cI b N) (.ref (b 5) :: As) v) (hB : MW D cI b N s H) (hn : As.length = 0) (hrm : rm.cells = 0 ∧ rm.slots = 0) (hR : rm.frames + 1 ≤ R.frames ∧ 8 + (5 + 11) + rm.locals ≤ R.locals) (hf : cells ≤ R.cells ∧ slots ≤ R.slots) (hls : ls.size = nL) (hst : st0 = As.reverse ++ .ref (b 5) :: rest) (hr8 : (rest.map fun v => v.category).sum ≤ 8) (hdg : decode cc pc = .ok (.invokevirtual 124, 3)) (kk : W p l e R s m args below meth c H locs cells slots Q (F0 m (pc + 3) ls (v :: rest))) : W p l e R s m args below meth c H locs cells slots Q (F0 m pc ls st0) :=
  kV hC hM mov_M hB (rec_M hB) (good_V mw_484 mw_485 mw_486 mw_5 mw_487) hrm.1 hrm.2 ⟨rfl, by decide +kernel, by decide +kernel, by rw [hn]; decide +kernel⟩ hR hf hls hst hr8 hdg kk
theorem kw_X1_toBuy {X' : bS} {mc ms : Nat} {v : Value} (hC : CallFix p m c cc nL s args wsL_law RX1) (hM : Wr l yX1_toBuy cX1_toBuy 5 (some .int) rm (MW D cI b N) (MW D cI b X') (inM b) (.ref (b 5) :: As) (some v) mc ms) (hB : MW D cI b N s H) (hn : As.length = 0) (hrm : rm.cells = mc ∧ rm.slots = ms) (hR : rm.frames + 1 ≤ R.frames ∧ 8 + (5 + 11) + rm.locals ≤ R.locals) (hf : cells + mc ≤ R.cells ∧ slots + ms ≤ R.slots) (hS : va_S A0 H0 H locs) (hA : ∀ q, inM b q → A0 q) (hls : ls.size = nL) (hst : st0 = As.reverse ++ .ref (b 5) :: rest) (hr8 : (rest.map fun v => v.category).sum ≤ 8) (hdg : decode cc pc = .ok (.invokevirtual 124, 3)) (kk : ∀ (H1 : Heap) (locs1 : List Loc), MW D cI b X' s H1 → va_S A0 H0 H1 locs1 → W p l e R s m args below meth c H1 locs1 (cells + mc) (slots + ms) Q (F0 m (pc + 3) ls (v :: rest))) : W p l e R s m args below meth c H locs cells slots Q (F0 m pc ls st0) :=
  kVw hC hM mov_M mov_M hB (rec_M hB) (good_V mw_484 mw_485 mw_486 mw_5 mw_487) hrm.1 hrm.2 ⟨rfl, by decide +kernel, by decide +kernel, by rw [hn]; decide +kernel⟩ hR hf hS hA hls hst hr8 hdg (fun H1 locs1 h1 h2 _ _ => kk H1 locs1 h1 h2)
theorem k_X0_yieldOfSelling {v : Value} (hC : CallFix p m c cc nL s args wsL_law RX0) (hM : Rd l yX0_yieldOfSelling cX0_yieldOfSelling 7 (some .int) rm (BW D cI cQ a S) (.ref (a 13) :: As) v) (hB : BW D cI cQ a S s H) (hn : As.length = 3) (hrm : rm.cells = 0 ∧ rm.slots = 0) (hR : rm.frames + 1 ≤ R.frames ∧ 8 + (7 + 11) + rm.locals ≤ R.locals) (hf : cells ≤ R.cells ∧ slots ≤ R.slots) (hls : ls.size = nL) (hst : st0 = As.reverse ++ .ref (a 13) :: rest) (hr8 : (rest.map fun v => v.category).sum ≤ 8) (hdg : decode cc pc = .ok (.invokevirtual 118, 3)) (kk : W p l e R s m args below meth c H locs cells slots Q (F0 m (pc + 3) ls (v :: rest))) : W p l e R s m args below meth c H locs cells slots Q (F0 m pc ls st0) :=
  kV hC hM mov_B hB (rec_B hB) (good_V mw_498 mw_499 mw_500 mw_2 mw_501) hrm.1 hrm.2 ⟨rfl, by decide +kernel, by decide +kernel, by rw [hn]; decide +kernel⟩ hR hf hls hst hr8 hdg kk
theorem kw_X0_yieldOfSelling {X' : bS} {mc ms : Nat} {v : Value} (hC : CallFix p m c cc nL s args wsL_law RX0) (hM : Wr l yX0_yieldOfSelling cX0_yieldOfSelling 7 (some .int) rm (BW D cI cQ a S) (BW D cI cQ a X') (inB a) (.ref (a 13) :: As) (some v) mc ms) (hB : BW D cI cQ a S s H) (hn : As.length = 3) (hrm : rm.cells = mc ∧ rm.slots = ms) (hR : rm.frames + 1 ≤ R.frames ∧ 8 + (7 + 11) + rm.locals ≤ R.locals) (hf : cells + mc ≤ R.cells ∧ slots + ms ≤ R.slots) (hS : va_S A0 H0 H locs) (hA : ∀ q, inB a q → A0 q) (hls : ls.size = nL) (hst : st0 = As.reverse ++ .ref (a 13) :: rest) (hr8 : (rest.map fun v => v.category).sum ≤ 8) (hdg : decode cc pc = .ok (.invokevirtual 118, 3)) (kk : ∀ (H1 : Heap) (locs1 : List Loc), BW D cI cQ a X' s H1 → va_S A0 H0 H1 locs1 → W p l e R s m args below meth c H1 locs1 (cells + mc) (slots + ms) Q (F0 m (pc + 3) ls (v :: rest))) : W p l e R s m args below meth c H locs cells slots Q (F0 m pc ls st0) :=
  kVw hC hM mov_B mov_B hB (rec_B hB) (good_V mw_498 mw_499 mw_500 mw_2 mw_501) hrm.1 hrm.2 ⟨rfl, by decide +kernel, by decide +kernel, by rw [hn]; decide +kernel⟩ hR hf hS hA hls hst hr8 hdg (fun H1 locs1 h1 h2 _ _ => kk H1 locs1 h1 h2)
theorem k_X0_closedIn {v : Value} (hC : CallFix p m c cc nL s args wsL_law RX0) (hM : Rd l yX0_closedIn cX0_closedIn 5 (some .int) rm (BW D cI cQ a S) (.ref (a 13) :: As) v) (hB : BW D cI cQ a S s H) (hn : As.length = 2) (hrm : rm.cells = 0 ∧ rm.slots = 0) (hR : rm.frames + 1 ≤ R.frames ∧ 8 + (5 + 11) + rm.locals ≤ R.locals) (hf : cells ≤ R.cells ∧ slots ≤ R.slots) (hls : ls.size = nL) (hst : st0 = As.reverse ++ .ref (a 13) :: rest) (hr8 : (rest.map fun v => v.category).sum ≤ 8) (hdg : decode cc pc = .ok (.invokevirtual 122, 3)) (kk : W p l e R s m args below meth c H locs cells slots Q (F0 m (pc + 3) ls (v :: rest))) : W p l e R s m args below meth c H locs cells slots Q (F0 m pc ls st0) :=
  kV hC hM mov_B hB (rec_B hB) (good_V mw_514 mw_515 mw_516 mw_2 mw_517) hrm.1 hrm.2 ⟨rfl, by decide +kernel, by decide +kernel, by rw [hn]; decide +kernel⟩ hR hf hls hst hr8 hdg kk
theorem kw_X0_closedIn {X' : bS} {mc ms : Nat} {v : Value} (hC : CallFix p m c cc nL s args wsL_law RX0) (hM : Wr l yX0_closedIn cX0_closedIn 5 (some .int) rm (BW D cI cQ a S) (BW D cI cQ a X') (inB a) (.ref (a 13) :: As) (some v) mc ms) (hB : BW D cI cQ a S s H) (hn : As.length = 2) (hrm : rm.cells = mc ∧ rm.slots = ms) (hR : rm.frames + 1 ≤ R.frames ∧ 8 + (5 + 11) + rm.locals ≤ R.locals) (hf : cells + mc ≤ R.cells ∧ slots + ms ≤ R.slots) (hS : va_S A0 H0 H locs) (hA : ∀ q, inB a q → A0 q) (hls : ls.size = nL) (hst : st0 = As.reverse ++ .ref (a 13) :: rest) (hr8 : (rest.map fun v => v.category).sum ≤ 8) (hdg : decode cc pc = .ok (.invokevirtual 122, 3)) (kk : ∀ (H1 : Heap) (locs1 : List Loc), BW D cI cQ a X' s H1 → va_S A0 H0 H1 locs1 → W p l e R s m args below meth c H1 locs1 (cells + mc) (slots + ms) Q (F0 m (pc + 3) ls (v :: rest))) : W p l e R s m args below meth c H locs cells slots Q (F0 m pc ls st0) :=
  kVw hC hM mov_B mov_B hB (rec_B hB) (good_V mw_514 mw_515 mw_516 mw_2 mw_517) hrm.1 hrm.2 ⟨rfl, by decide +kernel, by decide +kernel, by rw [hn]; decide +kernel⟩ hR hf hS hA hls hst hr8 hdg (fun H1 locs1 h1 h2 _ _ => kk H1 locs1 h1 h2)
theorem k_X0_mixed {v : Value} {Wd : State → Heap → Prop} (hC : CallFix p m c cc nL s args wsL_law RX0) (hM : Rd l yX0_mixed cX0_mixed 3 (some .long) rm Wd As v) (hm : Mov Wd) (hB : Wd s H) (hn : As.length = 2) (hrm : rm.cells = 0 ∧ rm.slots = 0) (hR : rm.frames + 1 ≤ R.frames ∧ 8 + (3 + 11) + rm.locals ≤ R.locals) (hf : cells ≤ R.cells ∧ slots ≤ R.slots) (hls : ls.size = nL) (hst : st0 = As.reverse ++ rest) (hr8 : (rest.map fun v => v.category).sum ≤ 8) (hdg : decode cc pc = .ok (.invokestatic 127, 3)) (kk : W p l e R s m args below meth c H locs cells slots Q (F0 m (pc + 3) ls (v :: rest))) : W p l e R s m args below meth c H locs cells slots Q (F0 m pc ls st0) :=
  kS hC hM hm hB (good_S mw_535 mw_536 mw_2 mw_537) hrm.1 hrm.2 ⟨by decide +kernel, by decide +kernel, by rw [hn]; decide +kernel⟩ hR hf hls hst hr8 hdg kk
theorem k_X0_dearest {v : Value} (hC : CallFix p m c cc nL s args wsL_law RX0) (hM : Rd l yX0_dearest cX0_dearest 3 (some .int) rm (BW D cI cQ a S) (.ref (a 13) :: As) v) (hB : BW D cI cQ a S s H) (hn : As.length = 0) (hrm : rm.cells = 0 ∧ rm.slots = 0) (hR : rm.frames + 1 ≤ R.frames ∧ 8 + (3 + 11) + rm.locals ≤ R.locals) (hf : cells ≤ R.cells ∧ slots ≤ R.slots) (hls : ls.size = nL) (hst : st0 = As.reverse ++ .ref (a 13) :: rest) (hr8 : (rest.map fun v => v.category).sum ≤ 8) (hdg : decode cc pc = .ok (.invokevirtual 131, 3)) (kk : W p l e R s m args below meth c H locs cells slots Q (F0 m (pc + 3) ls (v :: rest))) : W p l e R s m args below meth c H locs cells slots Q (F0 m pc ls st0) :=
  kV hC hM mov_B hB (rec_B hB) (good_V mw_539 mw_296 mw_297 mw_2 mw_298) hrm.1 hrm.2 ⟨rfl, by decide +kernel, by decide +kernel, by rw [hn]; decide +kernel⟩ hR hf hls hst hr8 hdg kk
theorem kw_X0_dearest {X' : bS} {mc ms : Nat} {v : Value} (hC : CallFix p m c cc nL s args wsL_law RX0) (hM : Wr l yX0_dearest cX0_dearest 3 (some .int) rm (BW D cI cQ a S) (BW D cI cQ a X') (inB a) (.ref (a 13) :: As) (some v) mc ms) (hB : BW D cI cQ a S s H) (hn : As.length = 0) (hrm : rm.cells = mc ∧ rm.slots = ms) (hR : rm.frames + 1 ≤ R.frames ∧ 8 + (3 + 11) + rm.locals ≤ R.locals) (hf : cells + mc ≤ R.cells ∧ slots + ms ≤ R.slots) (hS : va_S A0 H0 H locs) (hA : ∀ q, inB a q → A0 q) (hls : ls.size = nL) (hst : st0 = As.reverse ++ .ref (a 13) :: rest) (hr8 : (rest.map fun v => v.category).sum ≤ 8) (hdg : decode cc pc = .ok (.invokevirtual 131, 3)) (kk : ∀ (H1 : Heap) (locs1 : List Loc), BW D cI cQ a X' s H1 → va_S A0 H0 H1 locs1 → W p l e R s m args below meth c H1 locs1 (cells + mc) (slots + ms) Q (F0 m (pc + 3) ls (v :: rest))) : W p l e R s m args below meth c H locs cells slots Q (F0 m pc ls st0) :=
  kVw hC hM mov_B mov_B hB (rec_B hB) (good_V mw_539 mw_296 mw_297 mw_2 mw_298) hrm.1 hrm.2 ⟨rfl, by decide +kernel, by decide +kernel, by rw [hn]; decide +kernel⟩ hR hf hS hA hls hst hr8 hdg (fun H1 locs1 h1 h2 _ _ => kk H1 locs1 h1 h2)
theorem k_X0_nextToStrike {v : Value} (hC : CallFix p m c cc nL s args wsL_law RX0) (hM : Rd l yX0_nextToStrike cX0_nextToStrike 3 (some .int) rm (BW D cI cQ a S) (.ref (a 13) :: As) v) (hB : BW D cI cQ a S s H) (hn : As.length = 0) (hrm : rm.cells = 0 ∧ rm.slots = 0) (hR : rm.frames + 1 ≤ R.frames ∧ 8 + (3 + 11) + rm.locals ≤ R.locals) (hf : cells ≤ R.cells ∧ slots ≤ R.slots) (hls : ls.size = nL) (hst : st0 = As.reverse ++ .ref (a 13) :: rest) (hr8 : (rest.map fun v => v.category).sum ≤ 8) (hdg : decode cc pc = .ok (.invokevirtual 134, 3)) (kk : W p l e R s m args below meth c H locs cells slots Q (F0 m (pc + 3) ls (v :: rest))) : W p l e R s m args below meth c H locs cells slots Q (F0 m pc ls st0) :=
  kV hC hM mov_B hB (rec_B hB) (good_V mw_540 mw_308 mw_309 mw_2 mw_310) hrm.1 hrm.2 ⟨rfl, by decide +kernel, by decide +kernel, by rw [hn]; decide +kernel⟩ hR hf hls hst hr8 hdg kk
theorem kw_X0_nextToStrike {X' : bS} {mc ms : Nat} {v : Value} (hC : CallFix p m c cc nL s args wsL_law RX0) (hM : Wr l yX0_nextToStrike cX0_nextToStrike 3 (some .int) rm (BW D cI cQ a S) (BW D cI cQ a X') (inB a) (.ref (a 13) :: As) (some v) mc ms) (hB : BW D cI cQ a S s H) (hn : As.length = 0) (hrm : rm.cells = mc ∧ rm.slots = ms) (hR : rm.frames + 1 ≤ R.frames ∧ 8 + (3 + 11) + rm.locals ≤ R.locals) (hf : cells + mc ≤ R.cells ∧ slots + ms ≤ R.slots) (hS : va_S A0 H0 H locs) (hA : ∀ q, inB a q → A0 q) (hls : ls.size = nL) (hst : st0 = As.reverse ++ .ref (a 13) :: rest) (hr8 : (rest.map fun v => v.category).sum ≤ 8) (hdg : decode cc pc = .ok (.invokevirtual 134, 3)) (kk : ∀ (H1 : Heap) (locs1 : List Loc), BW D cI cQ a X' s H1 → va_S A0 H0 H1 locs1 → W p l e R s m args below meth c H1 locs1 (cells + mc) (slots + ms) Q (F0 m (pc + 3) ls (v :: rest))) : W p l e R s m args below meth c H locs cells slots Q (F0 m pc ls st0) :=
  kVw hC hM mov_B mov_B hB (rec_B hB) (good_V mw_540 mw_308 mw_309 mw_2 mw_310) hrm.1 hrm.2 ⟨rfl, by decide +kernel, by decide +kernel, by rw [hn]; decide +kernel⟩ hR hf hS hA hls hst hr8 hdg (fun H1 locs1 h1 h2 _ _ => kk H1 locs1 h1 h2)
theorem k_X0_richest {v : Value} (hC : CallFix p m c cc nL s args wsL_law RX0) (hM : Rd l yX0_richest cX0_richest 3 (some .int) rm (BW D cI cQ a S) (.ref (a 13) :: As) v) (hB : BW D cI cQ a S s H) (hn : As.length = 0) (hrm : rm.cells = 0 ∧ rm.slots = 0) (hR : rm.frames + 1 ≤ R.frames ∧ 8 + (3 + 11) + rm.locals ≤ R.locals) (hf : cells ≤ R.cells ∧ slots ≤ R.slots) (hls : ls.size = nL) (hst : st0 = As.reverse ++ .ref (a 13) :: rest) (hr8 : (rest.map fun v => v.category).sum ≤ 8) (hdg : decode cc pc = .ok (.invokevirtual 137, 3)) (kk : W p l e R s m args below meth c H locs cells slots Q (F0 m (pc + 3) ls (v :: rest))) : W p l e R s m args below meth c H locs cells slots Q (F0 m pc ls st0) :=
  kV hC hM mov_B hB (rec_B hB) (good_V mw_541 mw_381 mw_382 mw_2 mw_383) hrm.1 hrm.2 ⟨rfl, by decide +kernel, by decide +kernel, by rw [hn]; decide +kernel⟩ hR hf hls hst hr8 hdg kk
theorem kw_X0_richest {X' : bS} {mc ms : Nat} {v : Value} (hC : CallFix p m c cc nL s args wsL_law RX0) (hM : Wr l yX0_richest cX0_richest 3 (some .int) rm (BW D cI cQ a S) (BW D cI cQ a X') (inB a) (.ref (a 13) :: As) (some v) mc ms) (hB : BW D cI cQ a S s H) (hn : As.length = 0) (hrm : rm.cells = mc ∧ rm.slots = ms) (hR : rm.frames + 1 ≤ R.frames ∧ 8 + (3 + 11) + rm.locals ≤ R.locals) (hf : cells + mc ≤ R.cells ∧ slots + ms ≤ R.slots) (hS : va_S A0 H0 H locs) (hA : ∀ q, inB a q → A0 q) (hls : ls.size = nL) (hst : st0 = As.reverse ++ .ref (a 13) :: rest) (hr8 : (rest.map fun v => v.category).sum ≤ 8) (hdg : decode cc pc = .ok (.invokevirtual 137, 3)) (kk : ∀ (H1 : Heap) (locs1 : List Loc), BW D cI cQ a X' s H1 → va_S A0 H0 H1 locs1 → W p l e R s m args below meth c H1 locs1 (cells + mc) (slots + ms) Q (F0 m (pc + 3) ls (v :: rest))) : W p l e R s m args below meth c H locs cells slots Q (F0 m pc ls st0) :=
  kVw hC hM mov_B mov_B hB (rec_B hB) (good_V mw_541 mw_381 mw_382 mw_2 mw_383) hrm.1 hrm.2 ⟨rfl, by decide +kernel, by decide +kernel, by rw [hn]; decide +kernel⟩ hR hf hS hA hls hst hr8 hdg (fun H1 locs1 h1 h2 _ _ => kk H1 locs1 h1 h2)
theorem k_X0_inDebt {v : Value} (hC : CallFix p m c cc nL s args wsL_law RX0) (hM : Rd l yX0_inDebt cX0_inDebt 3 (some .int) rm (BW D cI cQ a S) (.ref (a 13) :: As) v) (hB : BW D cI cQ a S s H) (hn : As.length = 0) (hrm : rm.cells = 0 ∧ rm.slots = 0) (hR : rm.frames + 1 ≤ R.frames ∧ 8 + (3 + 11) + rm.locals ≤ R.locals) (hf : cells ≤ R.cells ∧ slots ≤ R.slots) (hls : ls.size = nL) (hst : st0 = As.reverse ++ .ref (a 13) :: rest) (hr8 : (rest.map fun v => v.category).sum ≤ 8) (hdg : decode cc pc = .ok (.invokevirtual 140, 3)) (kk : W p l e R s m args below meth c H locs cells slots Q (F0 m (pc + 3) ls (v :: rest))) : W p l e R s m args below meth c H locs cells slots Q (F0 m pc ls st0) :=
  kV hC hM mov_B hB (rec_B hB) (good_V mw_542 mw_412 mw_413 mw_2 mw_414) hrm.1 hrm.2 ⟨rfl, by decide +kernel, by decide +kernel, by rw [hn]; decide +kernel⟩ hR hf hls hst hr8 hdg kk
theorem kw_X0_inDebt {X' : bS} {mc ms : Nat} {v : Value} (hC : CallFix p m c cc nL s args wsL_law RX0) (hM : Wr l yX0_inDebt cX0_inDebt 3 (some .int) rm (BW D cI cQ a S) (BW D cI cQ a X') (inB a) (.ref (a 13) :: As) (some v) mc ms) (hB : BW D cI cQ a S s H) (hn : As.length = 0) (hrm : rm.cells = mc ∧ rm.slots = ms) (hR : rm.frames + 1 ≤ R.frames ∧ 8 + (3 + 11) + rm.locals ≤ R.locals) (hf : cells + mc ≤ R.cells ∧ slots + ms ≤ R.slots) (hS : va_S A0 H0 H locs) (hA : ∀ q, inB a q → A0 q) (hls : ls.size = nL) (hst : st0 = As.reverse ++ .ref (a 13) :: rest) (hr8 : (rest.map fun v => v.category).sum ≤ 8) (hdg : decode cc pc = .ok (.invokevirtual 140, 3)) (kk : ∀ (H1 : Heap) (locs1 : List Loc), BW D cI cQ a X' s H1 → va_S A0 H0 H1 locs1 → W p l e R s m args below meth c H1 locs1 (cells + mc) (slots + ms) Q (F0 m (pc + 3) ls (v :: rest))) : W p l e R s m args below meth c H locs cells slots Q (F0 m pc ls st0) :=
  kVw hC hM mov_B mov_B hB (rec_B hB) (good_V mw_542 mw_412 mw_413 mw_2 mw_414) hrm.1 hrm.2 ⟨rfl, by decide +kernel, by decide +kernel, by rw [hn]; decide +kernel⟩ hR hf hS hA hls hst hr8 hdg (fun H1 locs1 h1 h2 _ _ => kk H1 locs1 h1 h2)
theorem k_X0_bestToBuy {v : Value} (hC : CallFix p m c cc nL s args wsL_law RX0) (hM : Rd l yX0_bestToBuy cX0_bestToBuy 4 (some .int) rm (BW D cI cQ a S) (.ref (a 13) :: As) v) (hB : BW D cI cQ a S s H) (hn : As.length = 0) (hrm : rm.cells = 0 ∧ rm.slots = 0) (hR : rm.frames + 1 ≤ R.frames ∧ 8 + (4 + 11) + rm.locals ≤ R.locals) (hf : cells ≤ R.cells ∧ slots ≤ R.slots) (hls : ls.size = nL) (hst : st0 = As.reverse ++ .ref (a 13) :: rest) (hr8 : (rest.map fun v => v.category).sum ≤ 8) (hdg : decode cc pc = .ok (.invokevirtual 143, 3)) (kk : W p l e R s m args below meth c H locs cells slots Q (F0 m (pc + 3) ls (v :: rest))) : W p l e R s m args below meth c H locs cells slots Q (F0 m pc ls st0) :=
  kV hC hM mov_B hB (rec_B hB) (good_V mw_543 mw_473 mw_474 mw_2 mw_475) hrm.1 hrm.2 ⟨rfl, by decide +kernel, by decide +kernel, by rw [hn]; decide +kernel⟩ hR hf hls hst hr8 hdg kk
theorem kw_X0_bestToBuy {X' : bS} {mc ms : Nat} {v : Value} (hC : CallFix p m c cc nL s args wsL_law RX0) (hM : Wr l yX0_bestToBuy cX0_bestToBuy 4 (some .int) rm (BW D cI cQ a S) (BW D cI cQ a X') (inB a) (.ref (a 13) :: As) (some v) mc ms) (hB : BW D cI cQ a S s H) (hn : As.length = 0) (hrm : rm.cells = mc ∧ rm.slots = ms) (hR : rm.frames + 1 ≤ R.frames ∧ 8 + (4 + 11) + rm.locals ≤ R.locals) (hf : cells + mc ≤ R.cells ∧ slots + ms ≤ R.slots) (hS : va_S A0 H0 H locs) (hA : ∀ q, inB a q → A0 q) (hls : ls.size = nL) (hst : st0 = As.reverse ++ .ref (a 13) :: rest) (hr8 : (rest.map fun v => v.category).sum ≤ 8) (hdg : decode cc pc = .ok (.invokevirtual 143, 3)) (kk : ∀ (H1 : Heap) (locs1 : List Loc), BW D cI cQ a X' s H1 → va_S A0 H0 H1 locs1 → W p l e R s m args below meth c H1 locs1 (cells + mc) (slots + ms) Q (F0 m (pc + 3) ls (v :: rest))) : W p l e R s m args below meth c H locs cells slots Q (F0 m pc ls st0) :=
  kVw hC hM mov_B mov_B hB (rec_B hB) (good_V mw_543 mw_473 mw_474 mw_2 mw_475) hrm.1 hrm.2 ⟨rfl, by decide +kernel, by decide +kernel, by rw [hn]; decide +kernel⟩ hR hf hS hA hls hst hr8 hdg (fun H1 locs1 h1 h2 _ _ => kk H1 locs1 h1 h2)
theorem k_X0_mixedTower {v : Value} (hC : CallFix p m c cc nL s args wsL_law RX0) (hM : Rd l yX0_mixedTower cX0_mixedTower 6 (some .long) rm (BW D cI cQ a S) (.ref (a 13) :: As) v) (hB : BW D cI cQ a S s H) (hn : As.length = 2) (hrm : rm.cells = 0 ∧ rm.slots = 0) (hR : rm.frames + 1 ≤ R.frames ∧ 8 + (6 + 11) + rm.locals ≤ R.locals) (hf : cells ≤ R.cells ∧ slots ≤ R.slots) (hls : ls.size = nL) (hst : st0 = As.reverse ++ .ref (a 13) :: rest) (hr8 : (rest.map fun v => v.category).sum ≤ 8) (hdg : decode cc pc = .ok (.invokevirtual 146, 3)) (kk : W p l e R s m args below meth c H locs cells slots Q (F0 m (pc + 3) ls (v :: rest))) : W p l e R s m args below meth c H locs cells slots Q (F0 m pc ls st0) :=
  kV hC hM mov_B hB (rec_B hB) (good_V mw_544 mw_545 mw_546 mw_2 mw_547) hrm.1 hrm.2 ⟨rfl, by decide +kernel, by decide +kernel, by rw [hn]; decide +kernel⟩ hR hf hls hst hr8 hdg kk
theorem kw_X0_mixedTower {X' : bS} {mc ms : Nat} {v : Value} (hC : CallFix p m c cc nL s args wsL_law RX0) (hM : Wr l yX0_mixedTower cX0_mixedTower 6 (some .long) rm (BW D cI cQ a S) (BW D cI cQ a X') (inB a) (.ref (a 13) :: As) (some v) mc ms) (hB : BW D cI cQ a S s H) (hn : As.length = 2) (hrm : rm.cells = mc ∧ rm.slots = ms) (hR : rm.frames + 1 ≤ R.frames ∧ 8 + (6 + 11) + rm.locals ≤ R.locals) (hf : cells + mc ≤ R.cells ∧ slots + ms ≤ R.slots) (hS : va_S A0 H0 H locs) (hA : ∀ q, inB a q → A0 q) (hls : ls.size = nL) (hst : st0 = As.reverse ++ .ref (a 13) :: rest) (hr8 : (rest.map fun v => v.category).sum ≤ 8) (hdg : decode cc pc = .ok (.invokevirtual 146, 3)) (kk : ∀ (H1 : Heap) (locs1 : List Loc), BW D cI cQ a X' s H1 → va_S A0 H0 H1 locs1 → W p l e R s m args below meth c H1 locs1 (cells + mc) (slots + ms) Q (F0 m (pc + 3) ls (v :: rest))) : W p l e R s m args below meth c H locs cells slots Q (F0 m pc ls st0) :=
  kVw hC hM mov_B mov_B hB (rec_B hB) (good_V mw_544 mw_545 mw_546 mw_2 mw_547) hrm.1 hrm.2 ⟨rfl, by decide +kernel, by decide +kernel, by rw [hn]; decide +kernel⟩ hR hf hS hA hls hst hr8 hdg (fun H1 locs1 h1 h2 _ _ => kk H1 locs1 h1 h2)
theorem k_X0_mixedTrader {v : Value} (hC : CallFix p m c cc nL s args wsL_law RX0) (hM : Rd l yX0_mixedTrader cX0_mixedTrader 7 (some .long) rm (BW D cI cQ a S) (.ref (a 13) :: As) v) (hB : BW D cI cQ a S s H) (hn : As.length = 2) (hrm : rm.cells = 0 ∧ rm.slots = 0) (hR : rm.frames + 1 ≤ R.frames ∧ 8 + (7 + 11) + rm.locals ≤ R.locals) (hf : cells ≤ R.cells ∧ slots ≤ R.slots) (hls : ls.size = nL) (hst : st0 = As.reverse ++ .ref (a 13) :: rest) (hr8 : (rest.map fun v => v.category).sum ≤ 8) (hdg : decode cc pc = .ok (.invokevirtual 149, 3)) (kk : W p l e R s m args below meth c H locs cells slots Q (F0 m (pc + 3) ls (v :: rest))) : W p l e R s m args below meth c H locs cells slots Q (F0 m pc ls st0) :=
  kV hC hM mov_B hB (rec_B hB) (good_V mw_548 mw_549 mw_550 mw_2 mw_551) hrm.1 hrm.2 ⟨rfl, by decide +kernel, by decide +kernel, by rw [hn]; decide +kernel⟩ hR hf hls hst hr8 hdg kk
theorem kw_X0_mixedTrader {X' : bS} {mc ms : Nat} {v : Value} (hC : CallFix p m c cc nL s args wsL_law RX0) (hM : Wr l yX0_mixedTrader cX0_mixedTrader 7 (some .long) rm (BW D cI cQ a S) (BW D cI cQ a X') (inB a) (.ref (a 13) :: As) (some v) mc ms) (hB : BW D cI cQ a S s H) (hn : As.length = 2) (hrm : rm.cells = mc ∧ rm.slots = ms) (hR : rm.frames + 1 ≤ R.frames ∧ 8 + (7 + 11) + rm.locals ≤ R.locals) (hf : cells + mc ≤ R.cells ∧ slots + ms ≤ R.slots) (hS : va_S A0 H0 H locs) (hA : ∀ q, inB a q → A0 q) (hls : ls.size = nL) (hst : st0 = As.reverse ++ .ref (a 13) :: rest) (hr8 : (rest.map fun v => v.category).sum ≤ 8) (hdg : decode cc pc = .ok (.invokevirtual 149, 3)) (kk : ∀ (H1 : Heap) (locs1 : List Loc), BW D cI cQ a X' s H1 → va_S A0 H0 H1 locs1 → W p l e R s m args below meth c H1 locs1 (cells + mc) (slots + ms) Q (F0 m (pc + 3) ls (v :: rest))) : W p l e R s m args below meth c H locs cells slots Q (F0 m pc ls st0) :=
  kVw hC hM mov_B mov_B hB (rec_B hB) (good_V mw_548 mw_549 mw_550 mw_2 mw_551) hrm.1 hrm.2 ⟨rfl, by decide +kernel, by decide +kernel, by rw [hn]; decide +kernel⟩ hR hf hS hA hls hst hr8 hdg (fun H1 locs1 h1 h2 _ _ => kk H1 locs1 h1 h2)
theorem k_J9_floorMod_7cf53 {v : Value} {Wd : State → Heap → Prop} (hC : CallFix p m c cc nL s args wsL_law RX0) (hM : Rd l yJ9_floorMod_7cf53 cJ9_floorMod_7cf53 3 (some .int) rm Wd As v) (hm : Mov Wd) (hB : Wd s H) (hn : As.length = 2) (hrm : rm.cells = 0 ∧ rm.slots = 0) (hR : rm.frames + 1 ≤ R.frames ∧ 8 + (3 + 11) + rm.locals ≤ R.locals) (hf : cells ≤ R.cells ∧ slots ≤ R.slots) (hls : ls.size = nL) (hst : st0 = As.reverse ++ rest) (hr8 : (rest.map fun v => v.category).sum ≤ 8) (hdg : decode cc pc = .ok (.invokestatic 56, 3)) (kk : W p l e R s m args below meth c H locs cells slots Q (F0 m (pc + 3) ls (v :: rest))) : W p l e R s m args below meth c H locs cells slots Q (F0 m pc ls st0) :=
  kS hC hM hm hB (good_S mw_47 mw_48 mw_49 mw_50) hrm.1 hrm.2 ⟨by decide +kernel, by decide +kernel, by rw [hn]; decide +kernel⟩ hR hf hls hst hr8 hdg kk
theorem k_X0_max {x y : Int32} (hC : CallFix p m c cc nL s args wsL_law RX0) (hls : ls.size = nL) (hR : 1 ≤ R.frames ∧ (rest.map fun v => v.category).sum + 13 ≤ R.locals) (hf : cells ≤ R.cells ∧ slots ≤ R.slots) (hdg : decode cc pc = .ok (.invokestatic 166, 3)) (kk : W p l e R s m args below meth c H locs cells slots Q (F0 m (pc + 3) ls (.int (mx x y) :: rest))) : W p l e R s m args below meth c H locs cells slots Q (F0 m pc ls (.int y :: .int x :: rest)) :=
  va_mmax hC.1 hC.2.1 (hC.2.2.1.trans hls.symm) hC.2.2.2.1 (hC.2.2.2.2 _ mw_113) (hC.2.2.2.2 _ mw_114) (hC.2.2.2.2 _ mw_115) (hC.2.2.2.2 _ mw_116) hR.1 hR.2 hf.1 hf.2 hdg kk
theorem k_X1_max {x y : Int32} (hC : CallFix p m c cc nL s args wsL_law RX1) (hls : ls.size = nL) (hR : 1 ≤ R.frames ∧ (rest.map fun v => v.category).sum + 13 ≤ R.locals) (hf : cells ≤ R.cells ∧ slots ≤ R.slots) (hdg : decode cc pc = .ok (.invokestatic 49, 3)) (kk : W p l e R s m args below meth c H locs cells slots Q (F0 m (pc + 3) ls (.int (mx x y) :: rest))) : W p l e R s m args below meth c H locs cells slots Q (F0 m pc ls (.int y :: .int x :: rest)) :=
  va_mmax hC.1 hC.2.1 (hC.2.2.1.trans hls.symm) hC.2.2.2.1 (hC.2.2.2.2 _ mw_144) (hC.2.2.2.2 _ mw_114) (hC.2.2.2.2 _ mw_115) (hC.2.2.2.2 _ mw_116) hR.1 hR.2 hf.1 hf.2 hdg kk
theorem k_X0_min {x y : Int32} (hC : CallFix p m c cc nL s args wsL_law RX0) (hls : ls.size = nL) (hR : 1 ≤ R.frames ∧ (rest.map fun v => v.category).sum + 13 ≤ R.locals) (hf : cells ≤ R.cells ∧ slots ≤ R.slots) (hdg : decode cc pc = .ok (.invokestatic 115, 3)) (kk : W p l e R s m args below meth c H locs cells slots Q (F0 m (pc + 3) ls (.int (mn x y) :: rest))) : W p l e R s m args below meth c H locs cells slots Q (F0 m pc ls (.int y :: .int x :: rest)) :=
  va_mmin hC.1 hC.2.1 (hC.2.2.1.trans hls.symm) hC.2.2.2.1 (hC.2.2.2.2 _ mw_495) (hC.2.2.2.2 _ mw_496) (hC.2.2.2.2 _ mw_115) (hC.2.2.2.2 _ mw_497) hR.1 hR.2 hf.1 hf.2 hdg kk
theorem k_X1_min {x y : Int32} (hC : CallFix p m c cc nL s args wsL_law RX1) (hls : ls.size = nL) (hR : 1 ≤ R.frames ∧ (rest.map fun v => v.category).sum + 13 ≤ R.locals) (hf : cells ≤ R.cells ∧ slots ≤ R.slots) (hdg : decode cc pc = .ok (.invokestatic 127, 3)) (kk : W p l e R s m args below meth c H locs cells slots Q (F0 m (pc + 3) ls (.int (mn x y) :: rest))) : W p l e R s m args below meth c H locs cells slots Q (F0 m pc ls (.int y :: .int x :: rest)) :=
  va_mmin hC.1 hC.2.1 (hC.2.2.1.trans hls.symm) hC.2.2.2.1 (hC.2.2.2.2 _ mw_506) (hC.2.2.2.2 _ mw_496) (hC.2.2.2.2 _ mw_115) (hC.2.2.2.2 _ mw_497) hR.1 hR.2 hf.1 hf.2 hdg kk
end BR
end
section
/-! ===== pure words: what the methods answer ===== -/
def sma (a0 : Int32) (f : Nat → Int32) : Nat → Int32
  | 0 => a0
  | n + 1 => sma a0 f n + f n
def amx (f : Nat → Int32) : Nat → Option Nat
  | 0 => none
  | n + 1 => match amx f n with
    | none => some n
    | some b => if f n ≤ f b then some b else some n
def amn (f : Nat → Int32) : Nat → Option Nat
  | 0 => none
  | n + 1 => match amn f n with
    | none => some n
    | some b => if f b ≤ f n then some b else some n
def ab (f : Nat → Int32) : Nat → Option Nat
  | 0 => none
  | n + 1 => if f n ≤ 0 then ab f n else match ab f n with
    | none => some n
    | some b => if f n ≤ f b then some b else some n
def oI : Option Nat → Int32
  | none => -1
  | some k => nI k
def bsl (y : Nat → Int32) : Nat → Nat
  | 0 => 0
  | n + 1 => if y (n + 1) ≤ y (bsl y n) then bsl y n else n + 1
def dbl (g : Nat → Int32) : Nat → Nat → Int32
  | 0, _ => -1
  | n + 1, k => if 0 ≤ g k then dbl g n (k + 1) else nI k
def lfo (f : Int64 → Nat → Int64) (d : Int64) : Nat → Int64
  | 0 => d
  | n + 1 => f (lfo f d n) n
def rmi (x y : Int32) : Int32 := x - x / y * y
theorem amx_lt {f : Nat → Int32} {b : Nat} : ∀ n : Nat, amx f n = some b → b < n
  | 0, h => by cases h
  | n + 1, h => by
    unfold amx at h
    cases e : amx f n with
    | none => rw [e] at h; cases h; exact Nat.lt_succ_self _
    | some q =>
      rw [e] at h
      have := amx_lt (f := f) (b := q) n e
      dsimp only at h
      split at h <;> cases h <;> omega
theorem amn_lt {f : Nat → Int32} {b : Nat} : ∀ n : Nat, amn f n = some b → b < n
  | 0, h => by cases h
  | n + 1, h => by
    unfold amn at h
    cases e : amn f n with
    | none => rw [e] at h; cases h; exact Nat.lt_succ_self _
    | some q =>
      rw [e] at h
      have := amn_lt (f := f) (b := q) n e
      dsimp only at h
      split at h <;> cases h <;> omega
theorem ab_lt {f : Nat → Int32} {b : Nat} : ∀ n : Nat, ab f n = some b → b < n
  | 0, h => by cases h
  | n + 1, h => by
    unfold ab at h
    split at h
    · have := ab_lt (f := f) (b := b) n h
      omega
    · cases e : ab f n with
      | none => rw [e] at h; cases h; exact Nat.lt_succ_self _
      | some q =>
        rw [e] at h
        have := ab_lt (f := f) (b := q) n e
        dsimp only at h
        split at h <;> cases h <;> omega
theorem bsl_le (y : Nat → Int32) : ∀ n : Nat, bsl y n ≤ n
  | 0 => Nat.le_refl 0
  | n + 1 => by
    have := bsl_le y n
    unfold bsl
    split <;> omega
theorem loopU {P : Nat → Prop} (n : Nat) (hend : P n) (hstep : ∀ i : Nat, i < n → P (i + 1) → P i) (i : Nat) (hi : i ≤ n) : P i := by
  have key : ∀ d i : Nat, i + d = n → P i := by
    intro d
    induction d with
    | zero => intro i h; rw [show i = n by omega]; exact hend
    | succ d ih => intro i h; exact hstep i (by omega) (ih (i + 1) (by omega))
  exact key (n - i) i (by omega)
theorem amx_none {f : Nat → Int32} {i : Nat} (h : amx f i = none) : amx f (i + 1) = some i := by unfold amx; rw [h]
theorem amx_keep {f : Nat → Int32} {i b : Nat} (h : amx f i = some b) (c : f i ≤ f b) : amx f (i + 1) = some b := by unfold amx; rw [h]; exact if_pos c
theorem amx_new {f : Nat → Int32} {i b : Nat} (h : amx f i = some b) (c : ¬ f i ≤ f b) : amx f (i + 1) = some i := by unfold amx; rw [h]; exact if_neg c
theorem amn_none {f : Nat → Int32} {i : Nat} (h : amn f i = none) : amn f (i + 1) = some i := by unfold amn; rw [h]
theorem amn_keep {f : Nat → Int32} {i b : Nat} (h : amn f i = some b) (c : f b ≤ f i) : amn f (i + 1) = some b := by unfold amn; rw [h]; exact if_pos c
theorem amn_new {f : Nat → Int32} {i b : Nat} (h : amn f i = some b) (c : ¬ f b ≤ f i) : amn f (i + 1) = some i := by unfold amn; rw [h]; exact if_neg c
theorem ab_skip {f : Nat → Int32} {i : Nat} (c : f i ≤ 0) : ab f (i + 1) = ab f i := by
  have e : ab f (i + 1) = if f i ≤ 0 then ab f i else match ab f i with | none => some i | some b => if f i ≤ f b then some b else some i := rfl
  rw [e, if_pos c]
theorem ab_none {f : Nat → Int32} {i : Nat} (c : ¬ f i ≤ 0) (h : ab f i = none) : ab f (i + 1) = some i := by
  have e : ab f (i + 1) = if f i ≤ 0 then ab f i else match ab f i with | none => some i | some b => if f i ≤ f b then some b else some i := rfl
  rw [e, if_neg c, h]
theorem ab_keep {f : Nat → Int32} {i b : Nat} (c : ¬ f i ≤ 0) (h : ab f i = some b) (c2 : f i ≤ f b) : ab f (i + 1) = some b := by
  have e : ab f (i + 1) = if f i ≤ 0 then ab f i else match ab f i with | none => some i | some b => if f i ≤ f b then some b else some i := rfl
  rw [e, if_neg c, h]
  exact if_pos c2
theorem ab_new {f : Nat → Int32} {i b : Nat} (c : ¬ f i ≤ 0) (h : ab f i = some b) (c2 : ¬ f i ≤ f b) : ab f (i + 1) = some i := by
  have e : ab f (i + 1) = if f i ≤ 0 then ab f i else match ab f i with | none => some i | some b => if f i ≤ f b then some b else some i := rfl
  rw [e, if_neg c, h]
  exact if_neg c2
theorem dbl_hit {g : Nat → Int32} {i : Nat} (hi : ¬ 0 ≤ g i) : ∀ n k : Nat, k ≤ i → i < k + n → (∀ j, k ≤ j → j < i → 0 ≤ g j) → dbl g n k = nI i
  | 0, k, h1, h2, _ => absurd h2 (by omega)
  | n + 1, k, h1, h2, h3 => by
    unfold dbl
    by_cases e : k = i
    · subst e
      exact if_neg hi
    · rw [if_pos (h3 k (Nat.le_refl k) (by omega))]
      exact dbl_hit hi n (k + 1) (by omega) (by omega) (fun j h4 h5 => h3 j (by omega) h5)
theorem dbl_miss {g : Nat → Int32} : ∀ n k : Nat, (∀ j, k ≤ j → j < k + n → 0 ≤ g j) → dbl g n k = -1
  | 0, k, _ => rfl
  | n + 1, k, h => by
    unfold dbl
    rw [if_pos (h k (Nat.le_refl k) (by omega))]
    exact dbl_miss n (k + 1) (fun j h1 h2 => h j (by omega) (by omega))
theorem nI_m1 {n : Nat} (h : n < 2 ^ 31) : ¬ nI n = -1 := by
  intro e
  have h1 := nI_toInt h
  rw [e] at h1
  have h2 : (-1 : Int32).toInt = -1 := by decide
  omega
/-- BellHush: how many towers and traders -/
def BI (S : bS) (T R : Nat) : Prop := S 6 1 = nI T ∧ S 6 2 = nI R ∧ T ≤ 8 ∧ R ≤ 6
def MI (N : bS) (T R : Nat) : Prop := N 5 1 = nI T ∧ N 5 2 = nI R ∧ T ≤ 8 ∧ R ≤ 6
def pr (x y z : Int32) : Int32 := mx 0 (x * y - 2 * z)
def bDv (S : bS) (R t : Nat) : Int32 := sma 0 (fun r => mx 0 (-(S (7 + r) t))) R
def bPr (S : bS) (R t : Nat) : Int32 := pr (S 2 t) (S 0 t) (bDv S R t)
def bCw (S : bS) (t : Nat) (dv : Int32) : Int32 := pr (S 2 t + S 3 t - 1) (S 0 t) dv
def bCl (S : bS) (R t : Nat) : Int32 := bCw S t (bDv S R t)
def bRi (S : bS) (R t : Nat) : Int32 := bCl S R t - bPr S R t
def bPb (S : bS) (R t k : Nat) : Int32 := if 0 ≤ nI k - S 3 t then pr (if 2 ≤ S 1 t then rmi (nI k - S 3 t) (S 1 t) else 0) (S 0 t) 0 else pr (S 2 t + nI k) (S 0 t) (bDv S R t)
def bOp (S : bS) (R t : Nat) : Int32 := sma 0 (fun r => S (7 + r) t) R
def bSh (S : bS) (T r : Nat) : Int32 := sma 0 (fun t => if 0 ≤ S (7 + r) t then 0 else 1) T
def bWt (S : bS) (R r k t : Nat) : Int32 := (if nI k < S 3 t then bPb S R t k else bCl S R t) * S (7 + r) t
def bWb (S : bS) (T R r k : Nat) : Int32 := sma (S 5 r) (bWt S R r k) T
def bCt (S : bS) (R r k t : Nat) : Int32 := if S 3 t = nI k then bCl S R t * S (7 + r) t else 0
def bCi (S : bS) (T R r k : Nat) : Int32 := sma 0 (bCt S R r k) T
def bYi (S : bS) (R r t k : Nat) : Int32 := nI k * bPr S R t + (S (7 + r) t - nI k) * bCw S t (bDv S R t - mx 0 (-(S (7 + r) t)) + mx 0 (-(S (7 + r) t - nI k)))
def bDe (S : bS) (T R : Nat) : Option Nat := amx (bPr S R) T
def bNx (S : bS) (T : Nat) : Option Nat := amn (S 3) T
def bRc (S : bS) (T R : Nat) : Option Nat := amx (fun r => bWb S T R r 0) R
def bOw (S : bS) (R : Nat) : Int32 := sma 0 (fun r => if 0 ≤ S 5 r then 0 else 1) R
def bBu (S : bS) (T R : Nat) : Option Nat := ab (bRi S R) T
def bDb (S : bS) (T R r : Nat) : Int32 := dbl (fun k => sma (S 5 r) (bCi S T R r) (k + 1)) 101 0
def mi (d : Int64) (x : Int32) : Int64 := d * 31 + x.toInt64
def bMt (S : bS) (R : Nat) (d : Int64) (t : Nat) : Int64 := mi (mi (mi (mi (mi (mi (mi d (S 2 t)) (bDv S R t)) (bPr S R t)) (S 3 t)) (S 4 t)) (bOp S R t)) (bCl S R t)
def bMr (S : bS) (T R : Nat) (d : Int64) (r : Nat) : Int64 := lfo (fun d t => mi d (S (7 + r) t)) (mi (mi (mi d (S 5 r)) (bWb S T R r 0)) (bSh S T r)) T
def bDg (S : bS) (T R : Nat) : Int64 := lfo (bMr S T R) (lfo (bMt S R) (mi (mi (mi (mi (mi (mi (mi (mi 2081 (S 6 0)) (nI T)) (nI R)) (oI (bDe S T R))) (oI (bNx S T))) (oI (bRc S T R))) (bOw S R)) (oI (bBu S T R))) T) R
/-! BellHush's changes -/
def flm (x y : Int32) : Int32 := if 0 ≤ x ^^^ y then rmi x y else if rmi x y = 0 then rmi x y else rmi x y + y
def bSt1 (S : bS) (p : Int32) (t : Nat) : Nat → bS
  | 0 => S
  | i + 1 => up2 (up2 (bSt1 S p t i) 5 i (bSt1 S p t i 5 i + p * bSt1 S p t i (7 + i) t)) (7 + i) t 0
def bStr (S : bS) (R t : Nat) : bS := up2 (up2 (up2 (bSt1 S (bPr S R t) t R) 2 t 0) 4 t (bSt1 S (bPr S R t) t R 4 t + 1)) 3 t (bSt1 S (bPr S R t) t R 1 t)
def bGo (S : bS) (R : Nat) : Nat → bS
  | 0 => up2 S 6 0 (S 6 0 + 1)
  | t + 1 => if 1 < bGo S R t 3 t then up2 (up2 (bGo S R t) 3 t (bGo S R t 3 t - 1)) 2 t (bGo S R t 2 t + 1) else bStr (bGo S R t) R t
def bGc (S : bS) (R : Nat) : Nat → Int32
  | 0 => 0
  | t + 1 => if 1 < bGo S R t 3 t then bGc S R t else bGc S R t + 1
def bPa (S : bS) (T R : Nat) : Nat → bS
  | 0 => S
  | i + 1 => bGo (bPa S T R i) R T
def bPc (S : bS) (T R : Nat) : Nat → Int32
  | 0 => 0
  | i + 1 => bPc S T R i + bGc (bPa S T R i) R T
theorem bSt1_row (S : bS) (p : Int32) (t : Nat) {k : Nat} (j : Nat) (h5 : k ≠ 5) (h7 : k < 7) : ∀ i : Nat, bSt1 S p t i k j = S k j
  | 0 => rfl
  | i + 1 => by
    unfold bSt1
    rw [up2_ne _ _ (Or.inl (by omega)), up2_ne _ _ (Or.inl (by omega))]
    exact bSt1_row S p t j h5 h7 i
theorem bStr_6 (S : bS) (R t j : Nat) : bStr S R t 6 j = S 6 j := by
  unfold bStr
  rw [up2_ne _ _ (Or.inl (by omega)), up2_ne _ _ (Or.inl (by omega)), up2_ne _ _ (Or.inl (by omega))]
  exact bSt1_row S _ t j (by decide) (by decide) R
theorem bGo_keep {S : bS} {R t : Nat} (c : 1 < bGo S R t 3 t) : bGo S R (t + 1) = up2 (up2 (bGo S R t) 3 t (bGo S R t 3 t - 1)) 2 t (bGo S R t 2 t + 1) := if_pos c
theorem bGo_str {S : bS} {R t : Nat} (c : ¬ 1 < bGo S R t 3 t) : bGo S R (t + 1) = bStr (bGo S R t) R t := if_neg c
theorem bGc_keep {S : bS} {R t : Nat} (c : 1 < bGo S R t 3 t) : bGc S R (t + 1) = bGc S R t := if_pos c
theorem bGc_str {S : bS} {R t : Nat} (c : ¬ 1 < bGo S R t 3 t) : bGc S R (t + 1) = bGc S R t + 1 := if_neg c
theorem bGo_6 {S : bS} {R j : Nat} (hj : j ≠ 0) : ∀ t : Nat, bGo S R t 6 j = S 6 j
  | 0 => up2_ne _ _ (Or.inr hj)
  | t + 1 => by
    by_cases c : 1 < bGo S R t 3 t
    · rw [bGo_keep c, up2_ne _ _ (Or.inl (by omega)), up2_ne _ _ (Or.inl (by omega))]
      exact bGo_6 hj t
    · rw [bGo_str c, bStr_6]
      exact bGo_6 hj t
theorem BI_go {S : bS} {T R t : Nat} (h : BI S T R) : BI (bGo S R t) T R := ⟨(bGo_6 (by decide) t).trans h.1, (bGo_6 (by decide) t).trans h.2.1, h.2.2⟩
theorem BI_pa {S : bS} {T R : Nat} (h : BI S T R) : ∀ i : Nat, BI (bPa S T R i) T R
  | 0 => h
  | i + 1 => BI_go (BI_pa h i)
end
section
set_option maxHeartbeats 4000000 in
set_option maxRecDepth 100000 in
theorem c_X0_price (l : Launch) (x y z : Int32)  : Rd l yX0_price cX0_price 3 (some .int) ({ frames := 1, cells := 0, slots := 0, locals := 24 } : Room) (fun _ _ => True) [.int (x), .int (y), .int (z)] (.int (pr x y z)) := by
  refine Rd.of (by decide) (Nat.le_of_ble_eq_true rfl) ?_
  intro p e s m args below meth c ls hC hr hlocks hB hl
  have hx := hC.1
  have hb := hC.2.1
  have hl : lv_has ls 3 [(0, .int (x)), (1, .int (y)), (2, .int (z))] := hl
  refine lv_iconst (v := 0) hx hb dX0_price_0 (by decide) ?_
  refine lv_iload_n hx hb dX0_price_1 rfl (lv_at hl 0 rfl) ?_
  refine lv_iload_n hx hb dX0_price_2 rfl (lv_at hl 1 rfl) ?_
  refine lv_imul hx hb dX0_price_3 ?_
  refine lv_iconst (v := 2) hx hb dX0_price_4 (by decide) ?_
  refine lv_iload_n hx hb dX0_price_5 rfl (lv_at hl 2 rfl) ?_
  refine lv_imul hx hb dX0_price_6 ?_
  refine lv_isub hx hb dX0_price_7 ?_
  refine k_X0_max hC hl.1 ⟨Nat.le_of_ble_eq_true rfl, Nat.le_of_ble_eq_true rfl⟩ ⟨Nat.le_of_ble_eq_true rfl, Nat.le_of_ble_eq_true rfl⟩ dX0_price_8 ?_
  exact rd_i hC hr hlocks dX0_price_11 (by rfl)
set_option maxHeartbeats 4000000 in
set_option maxRecDepth 100000 in
theorem c_X0_dovesFor (l : Launch) (x : Int32)  : Rd l yX0_dovesFor cX0_dovesFor 1 (some .int) ({ frames := 1, cells := 0, slots := 0, locals := 24 } : Room) (fun _ _ => True) [.int (x)] (.int (mx 0 (-x))) := by
  refine Rd.of (by decide) (Nat.le_of_ble_eq_true rfl) ?_
  intro p e s m args below meth c ls hC hr hlocks hB hl
  have hx := hC.1
  have hb := hC.2.1
  have hl : lv_has ls 1 [(0, .int (x))] := hl
  refine lv_iconst (v := 0) hx hb dX0_dovesFor_0 (by decide) ?_
  refine lv_iload_n hx hb dX0_dovesFor_1 rfl (lv_at hl 0 rfl) ?_
  refine lv_ineg hx hb dX0_dovesFor_2 ?_
  refine k_X0_max hC hl.1 ⟨Nat.le_of_ble_eq_true rfl, Nat.le_of_ble_eq_true rfl⟩ ⟨Nat.le_of_ble_eq_true rfl, Nat.le_of_ble_eq_true rfl⟩ dX0_dovesFor_3 ?_
  exact rd_i hC hr hlocks dX0_dovesFor_6 (by rfl)
set_option maxHeartbeats 4000000 in
set_option maxRecDepth 100000 in
theorem c_X0_mixed (l : Launch) (d : Int64) (x : Int32)  : Rd l yX0_mixed cX0_mixed 3 (some .long) ({ frames := 0, cells := 0, slots := 0, locals := 0 } : Room) (fun _ _ => True) [.long (d), .int (x)] (.long (mi d x)) := by
  refine Rd.of (by decide) (Nat.le_of_ble_eq_true rfl) ?_
  intro p e s m args below meth c ls hC hr hlocks hB hl
  have hx := hC.1
  have hb := hC.2.1
  have hl : lv_has ls 3 [(0, .long (d)), (2, .int (x))] := hl
  refine lv_lload_n hx hb dX0_mixed_0 rfl (lv_at hl 0 rfl) ?_
  refine lv_ldc2 hx hb hC.2.2.2.1 (v := 31) (hC.2.2.2.2 _ (List.mem_of_getElem? (i := 538) (by decide +kernel))) dX0_mixed_1 ?_
  refine lv_lmul hx hb dX0_mixed_4 ?_
  refine lv_iload_n hx hb dX0_mixed_5 rfl (lv_at hl 1 rfl) ?_
  refine lv_i2l (v := x.toInt64) hx hb dX0_mixed_6 rfl ?_
  refine lv_ladd hx hb dX0_mixed_7 ?_
  exact rd_l hC hr hlocks dX0_mixed_8 (by rfl)
set_option maxHeartbeats 4000000 in
set_option maxRecDepth 100000 in
theorem c_X0_dovesNow (l : Launch) (D : va_G) (cI cQ : ClassId) (a : Nat → Nat) (S : bS) {T R : Nat} {t : Nat} (hI : BI S T R) (ht : t < T) : Rd l yX0_dovesNow cX0_dovesNow 4 (some .int) ({ frames := 2, cells := 0, slots := 0, locals := 44 } : Room) (BW D cI cQ a S) [.ref (a 13), .int (nI t)] (.int (bDv S R t)) := by
  refine Rd.of (by decide) (Nat.le_of_ble_eq_true rfl) ?_
  intro p e s m args below meth c ls hC hr hlocks hB hl
  have hx := hC.1
  have hb := hC.2.1
  obtain ⟨hT, hR, hT8, hR6⟩ := id hI
  have hl : lv_has ls 4 [(0, .ref (a 13)), (1, .int (nI t))] := hl
  refine lv_iconst (v := 0) hx hb dX0_dovesNow_0 (by decide) ?_
  refine lv_istore_n (lv' := [(2, .int (0)), (0, .ref (a 13)), (1, .int (nI t))]) hx hb dX0_dovesNow_1 rfl hl (by decide) rfl (fun ls hl => ?_)
  refine lv_iconst (v := 0) hx hb dX0_dovesNow_2 (by decide) ?_
  refine lv_istore_n (lv' := [(3, .int (0)), (2, .int (0)), (0, .ref (a 13)), (1, .int (nI t))]) hx hb dX0_dovesNow_3 rfl hl (by decide) rfl (fun ls hl => ?_)
  refine loopU (P := fun i => ∀ ls : Array Slot, lv_has ls 4 [(3, .int (nI i)), (2, .int (bDv S i t)), (0, .ref (a 13)), (1, .int (nI t))] → W p l e ({ frames := 2, cells := 0, slots := 0, locals := 44 } : Room) s m args below meth c s.heap [] 0 0 (MQ below (k2_QcV (.int (bDv S R t))) args s 0 0 (fun _ => False)) (F0 m 4 ls [])) (R) ?_ ?_ 0 (by omega) ls (by first | exact lv_sub hl [0, 1, 2, 3] rfl | (simpa using lv_sub hl [0, 1, 2, 3] rfl))
  · intro ls hl
    refine lv_iload_n hx hb dX0_dovesNow_4 rfl (lv_at hl 0 rfl) ?_
    refine lv_aload_n hx hb dX0_dovesNow_5 rfl (lv_at hl 2 rfl) ?_
    refine gB_traderCount hC hB hR dX0_dovesNow_6 ?_
    refine jge (i := R) (j := R) (tgt := 32) hC dX0_dovesNow_9 (by decide) rfl rfl (by omega) (by omega) (fun c1 => ?_) (fun c1 => ?_)
    · refine lv_iload_n hx hb dX0_dovesNow_32 rfl (lv_at hl 1 rfl) ?_
      exact rd_i hC hr hlocks dX0_dovesNow_33 (by rfl)
    · exfalso; omega
  · intro i hi ih ls hl
    refine lv_iload_n hx hb dX0_dovesNow_4 rfl (lv_at hl 0 rfl) ?_
    refine lv_aload_n hx hb dX0_dovesNow_5 rfl (lv_at hl 2 rfl) ?_
    refine gB_traderCount hC hB hR dX0_dovesNow_6 ?_
    refine jge (i := i) (j := R) (tgt := 32) hC dX0_dovesNow_9 (by decide) rfl rfl (by omega) (by omega) (fun c2 => ?_) (fun c2 => ?_)
    · exfalso; omega
    · refine lv_iload_n hx hb dX0_dovesNow_12 rfl (lv_at hl 1 rfl) ?_
      refine lv_aload_n hx hb dX0_dovesNow_13 rfl (lv_at hl 2 rfl) ?_
      refine gB_held hC hB dX0_dovesNow_14 ?_
      refine lv_iload_n hx hb dX0_dovesNow_17 rfl (lv_at hl 0 rfl) ?_
      refine lB_row (i) hC hB rfl (by omega) dX0_dovesNow_18 ?_
      refine lv_iload_n hx hb dX0_dovesNow_19 rfl (lv_at hl 3 rfl) ?_
      refine lB_held (i) (t) hC hB (by omega) rfl (by omega) rfl dX0_dovesNow_20 ?_
      refine k_X0_dovesFor hC (c_X0_dovesFor l (S (7 + i) t)) mov_T trivial rfl ⟨rfl, rfl⟩ ⟨Nat.le_of_ble_eq_true rfl, Nat.le_of_ble_eq_true rfl⟩ ⟨Nat.zero_le _, Nat.zero_le _⟩ hl.1 rfl (Nat.le_of_ble_eq_true rfl) dX0_dovesNow_21 ?_
      refine lv_iadd hx hb dX0_dovesNow_24 ?_
      refine lv_istore_n (lv' := [(2, .int ((bDv S i t) + (mx 0 (-(S (7 + i) t))))), (3, .int (nI i)), (0, .ref (a 13)), (1, .int (nI t))]) hx hb dX0_dovesNow_25 rfl hl (by decide) rfl (fun ls hl => ?_)
      refine lv_iinc (v := nI (i + 1)) (lv' := [(3, .int (nI (i + 1))), (2, .int ((bDv S i t) + (mx 0 (-(S (7 + i) t))))), (0, .ref (a 13)), (1, .int (nI t))]) hx hb dX0_dovesNow_26 hl (k := 1) rfl (ninc i) (by decide) rfl (fun ls hl => ?_)
      refine lv_goto (tgt := 4) hx hb dX0_dovesNow_29 (by decide) ?_
      exact ih ls (lv_sub hl [0, 1, 2, 3] rfl)
set_option maxHeartbeats 4000000 in
set_option maxRecDepth 100000 in
theorem c_X0_priceNow (l : Launch) (D : va_G) (cI cQ : ClassId) (a : Nat → Nat) (S : bS) {T R : Nat} {t : Nat} (hI : BI S T R) (ht : t < T) : Rd l yX0_priceNow cX0_priceNow 2 (some .int) ({ frames := 3, cells := 0, slots := 0, locals := 67 } : Room) (BW D cI cQ a S) [.ref (a 13), .int (nI t)] (.int (bPr S R t)) := by
  refine Rd.of (by decide) (Nat.le_of_ble_eq_true rfl) ?_
  intro p e s m args below meth c ls hC hr hlocks hB hl
  have hx := hC.1
  have hb := hC.2.1
  obtain ⟨hT, hR, hT8, hR6⟩ := id hI
  have hl : lv_has ls 2 [(0, .ref (a 13)), (1, .int (nI t))] := hl
  refine lv_aload_n hx hb dX0_priceNow_0 rfl (lv_at hl 0 rfl) ?_
  refine gB_silence hC hB dX0_priceNow_1 ?_
  refine lv_iload_n hx hb dX0_priceNow_4 rfl (lv_at hl 1 rfl) ?_
  refine lB_silence (t) hC hB rfl (by omega) rfl dX0_priceNow_5 ?_
  refine lv_aload_n hx hb dX0_priceNow_6 rfl (lv_at hl 0 rfl) ?_
  refine gB_loudness hC hB dX0_priceNow_7 ?_
  refine lv_iload_n hx hb dX0_priceNow_10 rfl (lv_at hl 1 rfl) ?_
  refine lB_loudness (t) hC hB rfl (by omega) rfl dX0_priceNow_11 ?_
  refine lv_aload_n hx hb dX0_priceNow_12 rfl (lv_at hl 0 rfl) ?_
  refine lv_iload_n hx hb dX0_priceNow_13 rfl (lv_at hl 1 rfl) ?_
  refine k_X0_dovesNow hC (c_X0_dovesNow l D cI cQ a S hI (t := t) (by omega)) hB rfl ⟨rfl, rfl⟩ ⟨Nat.le_of_ble_eq_true rfl, Nat.le_of_ble_eq_true rfl⟩ ⟨Nat.zero_le _, Nat.zero_le _⟩ hl.1 rfl (Nat.le_of_ble_eq_true rfl) dX0_priceNow_14 ?_
  refine k_X0_price hC (c_X0_price l (S 2 t) (S 0 t) (bDv S R t)) mov_T trivial rfl ⟨rfl, rfl⟩ ⟨Nat.le_of_ble_eq_true rfl, Nat.le_of_ble_eq_true rfl⟩ ⟨Nat.zero_le _, Nat.zero_le _⟩ hl.1 rfl (Nat.le_of_ble_eq_true rfl) dX0_priceNow_17 ?_
  exact rd_i hC hr hlocks dX0_priceNow_20 (by rfl)
set_option maxHeartbeats 4000000 in
set_option maxRecDepth 100000 in
theorem c_X0_closingWith (l : Launch) (D : va_G) (cI cQ : ClassId) (a : Nat → Nat) (S : bS) {T R : Nat} {t : Nat} (dv : Int32) (hI : BI S T R) (ht : t < T) : Rd l yX0_closingWith cX0_closingWith 3 (some .int) ({ frames := 2, cells := 0, slots := 0, locals := 46 } : Room) (BW D cI cQ a S) [.ref (a 13), .int (nI t), .int (dv)] (.int (bCw S t dv)) := by
  refine Rd.of (by decide) (Nat.le_of_ble_eq_true rfl) ?_
  intro p e s m args below meth c ls hC hr hlocks hB hl
  have hx := hC.1
  have hb := hC.2.1
  obtain ⟨hT, hR, hT8, hR6⟩ := id hI
  have hl : lv_has ls 3 [(0, .ref (a 13)), (1, .int (nI t)), (2, .int (dv))] := hl
  refine lv_aload_n hx hb dX0_closingWith_0 rfl (lv_at hl 0 rfl) ?_
  refine gB_silence hC hB dX0_closingWith_1 ?_
  refine lv_iload_n hx hb dX0_closingWith_4 rfl (lv_at hl 1 rfl) ?_
  refine lB_silence (t) hC hB rfl (by omega) rfl dX0_closingWith_5 ?_
  refine lv_aload_n hx hb dX0_closingWith_6 rfl (lv_at hl 0 rfl) ?_
  refine gB_untilStroke hC hB dX0_closingWith_7 ?_
  refine lv_iload_n hx hb dX0_closingWith_10 rfl (lv_at hl 1 rfl) ?_
  refine lB_untilStroke (t) hC hB rfl (by omega) rfl dX0_closingWith_11 ?_
  refine lv_iadd hx hb dX0_closingWith_12 ?_
  refine lv_iconst (v := 1) hx hb dX0_closingWith_13 (by decide) ?_
  refine lv_isub hx hb dX0_closingWith_14 ?_
  refine lv_aload_n hx hb dX0_closingWith_15 rfl (lv_at hl 0 rfl) ?_
  refine gB_loudness hC hB dX0_closingWith_16 ?_
  refine lv_iload_n hx hb dX0_closingWith_19 rfl (lv_at hl 1 rfl) ?_
  refine lB_loudness (t) hC hB rfl (by omega) rfl dX0_closingWith_20 ?_
  refine lv_iload_n hx hb dX0_closingWith_21 rfl (lv_at hl 2 rfl) ?_
  refine k_X0_price hC (c_X0_price l (((S 2 t) + (S 3 t)) - 1) (S 0 t) (dv)) mov_T trivial rfl ⟨rfl, rfl⟩ ⟨Nat.le_of_ble_eq_true rfl, Nat.le_of_ble_eq_true rfl⟩ ⟨Nat.zero_le _, Nat.zero_le _⟩ hl.1 rfl (Nat.le_of_ble_eq_true rfl) dX0_closingWith_22 ?_
  exact rd_i hC hr hlocks dX0_closingWith_25 (by rfl)
set_option maxHeartbeats 4000000 in
set_option maxRecDepth 100000 in
theorem c_X0_closing (l : Launch) (D : va_G) (cI cQ : ClassId) (a : Nat → Nat) (S : bS) {T R : Nat} {t : Nat} (hI : BI S T R) (ht : t < T) : Rd l yX0_closing cX0_closing 2 (some .int) ({ frames := 3, cells := 0, slots := 0, locals := 68 } : Room) (BW D cI cQ a S) [.ref (a 13), .int (nI t)] (.int (bCl S R t)) := by
  refine Rd.of (by decide) (Nat.le_of_ble_eq_true rfl) ?_
  intro p e s m args below meth c ls hC hr hlocks hB hl
  have hx := hC.1
  have hb := hC.2.1
  obtain ⟨hT, hR, hT8, hR6⟩ := id hI
  have hl : lv_has ls 2 [(0, .ref (a 13)), (1, .int (nI t))] := hl
  refine lv_aload_n hx hb dX0_closing_0 rfl (lv_at hl 0 rfl) ?_
  refine lv_iload_n hx hb dX0_closing_1 rfl (lv_at hl 1 rfl) ?_
  refine lv_aload_n hx hb dX0_closing_2 rfl (lv_at hl 0 rfl) ?_
  refine lv_iload_n hx hb dX0_closing_3 rfl (lv_at hl 1 rfl) ?_
  refine k_X0_dovesNow hC (c_X0_dovesNow l D cI cQ a S hI (t := t) (by omega)) hB rfl ⟨rfl, rfl⟩ ⟨Nat.le_of_ble_eq_true rfl, Nat.le_of_ble_eq_true rfl⟩ ⟨Nat.zero_le _, Nat.zero_le _⟩ hl.1 rfl (Nat.le_of_ble_eq_true rfl) dX0_closing_4 ?_
  refine k_X0_closingWith hC (c_X0_closingWith l D cI cQ a S (t := t) (bDv S R t) hI (by omega)) hB rfl ⟨rfl, rfl⟩ ⟨Nat.le_of_ble_eq_true rfl, Nat.le_of_ble_eq_true rfl⟩ ⟨Nat.zero_le _, Nat.zero_le _⟩ hl.1 rfl (Nat.le_of_ble_eq_true rfl) dX0_closing_7 ?_
  exact rd_i hC hr hlocks dX0_closing_10 (by rfl)
set_option maxHeartbeats 4000000 in
set_option maxRecDepth 100000 in
theorem c_X0_riseUntilStroke (l : Launch) (D : va_G) (cI cQ : ClassId) (a : Nat → Nat) (S : bS) {T R : Nat} {t : Nat} (hI : BI S T R) (ht : t < T) : Rd l yX0_riseUntilStroke cX0_riseUntilStroke 2 (some .int) ({ frames := 4, cells := 0, slots := 0, locals := 89 } : Room) (BW D cI cQ a S) [.ref (a 13), .int (nI t)] (.int (bRi S R t)) := by
  refine Rd.of (by decide) (Nat.le_of_ble_eq_true rfl) ?_
  intro p e s m args below meth c ls hC hr hlocks hB hl
  have hx := hC.1
  have hb := hC.2.1
  obtain ⟨hT, hR, hT8, hR6⟩ := id hI
  have hl : lv_has ls 2 [(0, .ref (a 13)), (1, .int (nI t))] := hl
  refine lv_aload_n hx hb dX0_riseUntilStroke_0 rfl (lv_at hl 0 rfl) ?_
  refine lv_iload_n hx hb dX0_riseUntilStroke_1 rfl (lv_at hl 1 rfl) ?_
  refine k_X0_closing hC (c_X0_closing l D cI cQ a S hI (t := t) (by omega)) hB rfl ⟨rfl, rfl⟩ ⟨Nat.le_of_ble_eq_true rfl, Nat.le_of_ble_eq_true rfl⟩ ⟨Nat.zero_le _, Nat.zero_le _⟩ hl.1 rfl (Nat.le_of_ble_eq_true rfl) dX0_riseUntilStroke_2 ?_
  refine lv_aload_n hx hb dX0_riseUntilStroke_5 rfl (lv_at hl 0 rfl) ?_
  refine lv_iload_n hx hb dX0_riseUntilStroke_6 rfl (lv_at hl 1 rfl) ?_
  refine k_X0_priceNow hC (c_X0_priceNow l D cI cQ a S hI (t := t) (by omega)) hB rfl ⟨rfl, rfl⟩ ⟨Nat.le_of_ble_eq_true rfl, Nat.le_of_ble_eq_true rfl⟩ ⟨Nat.zero_le _, Nat.zero_le _⟩ hl.1 rfl (Nat.le_of_ble_eq_true rfl) dX0_riseUntilStroke_7 ?_
  refine lv_isub hx hb dX0_riseUntilStroke_10 ?_
  exact rd_i hC hr hlocks dX0_riseUntilStroke_11 (by rfl)
set_option maxHeartbeats 4000000 in
set_option maxRecDepth 100000 in
theorem c_X0_priceBehind (l : Launch) (D : va_G) (cI cQ : ClassId) (a : Nat → Nat) (S : bS) {T R : Nat} {t k : Nat} (hI : BI S T R) (ht : t < T) : Rd l yX0_priceBehind cX0_priceBehind 6 (some .int) ({ frames := 3, cells := 0, slots := 0, locals := 67 } : Room) (BW D cI cQ a S) [.ref (a 13), .int (nI t), .int (nI k)] (.int (bPb S R t k)) := by
  refine Rd.of (by decide) (Nat.le_of_ble_eq_true rfl) ?_
  intro p e s m args below meth c ls hC hr hlocks hB hl
  have hx := hC.1
  have hb := hC.2.1
  obtain ⟨hT, hR, hT8, hR6⟩ := id hI
  have hl : lv_has ls 6 [(0, .ref (a 13)), (1, .int (nI t)), (2, .int (nI k))] := hl
  refine lv_iload_n hx hb dX0_priceBehind_0 rfl (lv_at hl 2 rfl) ?_
  refine lv_aload_n hx hb dX0_priceBehind_1 rfl (lv_at hl 0 rfl) ?_
  refine gB_untilStroke hC hB dX0_priceBehind_2 ?_
  refine lv_iload_n hx hb dX0_priceBehind_5 rfl (lv_at hl 1 rfl) ?_
  refine lB_untilStroke (t) hC hB rfl (by omega) rfl dX0_priceBehind_6 ?_
  refine lv_isub hx hb dX0_priceBehind_7 ?_
  refine lv_istore_n (lv' := [(3, .int ((nI k) - (S 3 t))), (0, .ref (a 13)), (1, .int (nI t)), (2, .int (nI k))]) hx hb dX0_priceBehind_8 rfl hl (by decide) rfl (fun ls hl => ?_)
  refine lv_iload_n hx hb dX0_priceBehind_9 rfl (lv_at hl 0 rfl) ?_
  refine lv_if_ge (tgt := 36) hx hb dX0_priceBehind_10 (by decide) (fun c1 => ?_) (fun c1 => ?_)
  · refine lv_aload_n hx hb dX0_priceBehind_36 rfl (lv_at hl 1 rfl) ?_
    refine gB_period hC hB dX0_priceBehind_37 ?_
    refine lv_iload_n hx hb dX0_priceBehind_40 rfl (lv_at hl 2 rfl) ?_
    refine lB_period (t) hC hB rfl (by omega) rfl dX0_priceBehind_41 ?_
    refine lv_istore (lv' := [(4, .int (S 1 t)), (3, .int ((nI k) - (S 3 t))), (0, .ref (a 13)), (1, .int (nI t)), (2, .int (nI k))]) hx hb dX0_priceBehind_42 hl (by decide) rfl (fun ls hl => ?_)
    refine lv_iload hx hb dX0_priceBehind_44 (lv_at hl 0 rfl) ?_
    refine lv_iconst (v := 2) hx hb dX0_priceBehind_46 (by decide) ?_
    refine lv_icmp_ge (tgt := 54) hx hb dX0_priceBehind_47 (by decide) (fun c2 => ?_) (fun c2 => ?_)
    · refine lv_iload_n hx hb dX0_priceBehind_54 rfl (lv_at hl 1 rfl) ?_
      refine lv_iload hx hb dX0_priceBehind_55 (lv_at hl 0 rfl) ?_
      refine lv_irem hx hb dX0_priceBehind_57 (fun h0 => absurd (h0 ▸ c2) (by decide)) ?_
      refine lv_istore (lv' := [(5, .int (rmi ((nI k) - (S 3 t)) (S 1 t))), (4, .int (S 1 t)), (3, .int ((nI k) - (S 3 t))), (0, .ref (a 13)), (1, .int (nI t)), (2, .int (nI k))]) hx hb dX0_priceBehind_58 hl (by decide) rfl (fun ls hl => ?_)
      refine lv_iload hx hb dX0_priceBehind_60 (lv_at hl 0 rfl) ?_
      refine lv_aload_n hx hb dX0_priceBehind_62 rfl (lv_at hl 3 rfl) ?_
      refine gB_loudness hC hB dX0_priceBehind_63 ?_
      refine lv_iload_n hx hb dX0_priceBehind_66 rfl (lv_at hl 4 rfl) ?_
      refine lB_loudness (t) hC hB rfl (by omega) rfl dX0_priceBehind_67 ?_
      refine lv_iconst (v := 0) hx hb dX0_priceBehind_68 (by decide) ?_
      refine k_X0_price hC (c_X0_price l (rmi ((nI k) - (S 3 t)) (S 1 t)) (S 0 t) (0)) mov_T trivial rfl ⟨rfl, rfl⟩ ⟨Nat.le_of_ble_eq_true rfl, Nat.le_of_ble_eq_true rfl⟩ ⟨Nat.zero_le _, Nat.zero_le _⟩ hl.1 rfl (Nat.le_of_ble_eq_true rfl) dX0_priceBehind_69 ?_
      exact rd_i hC hr hlocks dX0_priceBehind_72 (by unfold bPb; rw [if_pos c1, if_pos c2])
    · refine lv_iconst (v := 0) hx hb dX0_priceBehind_50 (by decide) ?_
      refine lv_goto (tgt := 58) hx hb dX0_priceBehind_51 (by decide) ?_
      refine lv_istore (lv' := [(5, .int (0)), (4, .int (S 1 t)), (3, .int ((nI k) - (S 3 t))), (0, .ref (a 13)), (1, .int (nI t)), (2, .int (nI k))]) hx hb dX0_priceBehind_58 hl (by decide) rfl (fun ls hl => ?_)
      refine lv_iload hx hb dX0_priceBehind_60 (lv_at hl 0 rfl) ?_
      refine lv_aload_n hx hb dX0_priceBehind_62 rfl (lv_at hl 3 rfl) ?_
      refine gB_loudness hC hB dX0_priceBehind_63 ?_
      refine lv_iload_n hx hb dX0_priceBehind_66 rfl (lv_at hl 4 rfl) ?_
      refine lB_loudness (t) hC hB rfl (by omega) rfl dX0_priceBehind_67 ?_
      refine lv_iconst (v := 0) hx hb dX0_priceBehind_68 (by decide) ?_
      refine k_X0_price hC (c_X0_price l (0) (S 0 t) (0)) mov_T trivial rfl ⟨rfl, rfl⟩ ⟨Nat.le_of_ble_eq_true rfl, Nat.le_of_ble_eq_true rfl⟩ ⟨Nat.zero_le _, Nat.zero_le _⟩ hl.1 rfl (Nat.le_of_ble_eq_true rfl) dX0_priceBehind_69 ?_
      exact rd_i hC hr hlocks dX0_priceBehind_72 (by unfold bPb; rw [if_pos c1, if_neg c2])
  · refine lv_aload_n hx hb dX0_priceBehind_13 rfl (lv_at hl 1 rfl) ?_
    refine gB_silence hC hB dX0_priceBehind_14 ?_
    refine lv_iload_n hx hb dX0_priceBehind_17 rfl (lv_at hl 2 rfl) ?_
    refine lB_silence (t) hC hB rfl (by omega) rfl dX0_priceBehind_18 ?_
    refine lv_iload_n hx hb dX0_priceBehind_19 rfl (lv_at hl 3 rfl) ?_
    refine lv_iadd hx hb dX0_priceBehind_20 ?_
    refine lv_aload_n hx hb dX0_priceBehind_21 rfl (lv_at hl 1 rfl) ?_
    refine gB_loudness hC hB dX0_priceBehind_22 ?_
    refine lv_iload_n hx hb dX0_priceBehind_25 rfl (lv_at hl 2 rfl) ?_
    refine lB_loudness (t) hC hB rfl (by omega) rfl dX0_priceBehind_26 ?_
    refine lv_aload_n hx hb dX0_priceBehind_27 rfl (lv_at hl 1 rfl) ?_
    refine lv_iload_n hx hb dX0_priceBehind_28 rfl (lv_at hl 2 rfl) ?_
    refine k_X0_dovesNow hC (c_X0_dovesNow l D cI cQ a S hI (t := t) (by omega)) hB rfl ⟨rfl, rfl⟩ ⟨Nat.le_of_ble_eq_true rfl, Nat.le_of_ble_eq_true rfl⟩ ⟨Nat.zero_le _, Nat.zero_le _⟩ hl.1 rfl (Nat.le_of_ble_eq_true rfl) dX0_priceBehind_29 ?_
    refine k_X0_price hC (c_X0_price l ((S 2 t) + (nI k)) (S 0 t) (bDv S R t)) mov_T trivial rfl ⟨rfl, rfl⟩ ⟨Nat.le_of_ble_eq_true rfl, Nat.le_of_ble_eq_true rfl⟩ ⟨Nat.zero_le _, Nat.zero_le _⟩ hl.1 rfl (Nat.le_of_ble_eq_true rfl) dX0_priceBehind_32 ?_
    exact rd_i hC hr hlocks dX0_priceBehind_35 (by unfold bPb; rw [if_neg c1])
set_option maxHeartbeats 4000000 in
set_option maxRecDepth 100000 in
theorem c_X0_heldByAll (l : Launch) (D : va_G) (cI cQ : ClassId) (a : Nat → Nat) (S : bS) {T R : Nat} {t : Nat} (hI : BI S T R) (ht : t < T) : Rd l yX0_heldByAll cX0_heldByAll 4 (some .int) ({ frames := 0, cells := 0, slots := 0, locals := 0 } : Room) (BW D cI cQ a S) [.ref (a 13), .int (nI t)] (.int (bOp S R t)) := by
  refine Rd.of (by decide) (Nat.le_of_ble_eq_true rfl) ?_
  intro p e s m args below meth c ls hC hr hlocks hB hl
  have hx := hC.1
  have hb := hC.2.1
  obtain ⟨hT, hR, hT8, hR6⟩ := id hI
  have hl : lv_has ls 4 [(0, .ref (a 13)), (1, .int (nI t))] := hl
  refine lv_iconst (v := 0) hx hb dX0_heldByAll_0 (by decide) ?_
  refine lv_istore_n (lv' := [(2, .int (0)), (0, .ref (a 13)), (1, .int (nI t))]) hx hb dX0_heldByAll_1 rfl hl (by decide) rfl (fun ls hl => ?_)
  refine lv_iconst (v := 0) hx hb dX0_heldByAll_2 (by decide) ?_
  refine lv_istore_n (lv' := [(3, .int (0)), (2, .int (0)), (0, .ref (a 13)), (1, .int (nI t))]) hx hb dX0_heldByAll_3 rfl hl (by decide) rfl (fun ls hl => ?_)
  refine loopU (P := fun i => ∀ ls : Array Slot, lv_has ls 4 [(3, .int (nI i)), (2, .int (bOp S i t)), (0, .ref (a 13)), (1, .int (nI t))] → W p l e ({ frames := 0, cells := 0, slots := 0, locals := 0 } : Room) s m args below meth c s.heap [] 0 0 (MQ below (k2_QcV (.int (bOp S R t))) args s 0 0 (fun _ => False)) (F0 m 4 ls [])) (R) ?_ ?_ 0 (by omega) ls (by first | exact lv_sub hl [0, 1, 2, 3] rfl | (simpa using lv_sub hl [0, 1, 2, 3] rfl))
  · intro ls hl
    refine lv_iload_n hx hb dX0_heldByAll_4 rfl (lv_at hl 0 rfl) ?_
    refine lv_aload_n hx hb dX0_heldByAll_5 rfl (lv_at hl 2 rfl) ?_
    refine gB_traderCount hC hB hR dX0_heldByAll_6 ?_
    refine jge (i := R) (j := R) (tgt := 29) hC dX0_heldByAll_9 (by decide) rfl rfl (by omega) (by omega) (fun c1 => ?_) (fun c1 => ?_)
    · refine lv_iload_n hx hb dX0_heldByAll_29 rfl (lv_at hl 1 rfl) ?_
      exact rd_i hC hr hlocks dX0_heldByAll_30 (by rfl)
    · exfalso; omega
  · intro i hi ih ls hl
    refine lv_iload_n hx hb dX0_heldByAll_4 rfl (lv_at hl 0 rfl) ?_
    refine lv_aload_n hx hb dX0_heldByAll_5 rfl (lv_at hl 2 rfl) ?_
    refine gB_traderCount hC hB hR dX0_heldByAll_6 ?_
    refine jge (i := i) (j := R) (tgt := 29) hC dX0_heldByAll_9 (by decide) rfl rfl (by omega) (by omega) (fun c2 => ?_) (fun c2 => ?_)
    · exfalso; omega
    · refine lv_iload_n hx hb dX0_heldByAll_12 rfl (lv_at hl 1 rfl) ?_
      refine lv_aload_n hx hb dX0_heldByAll_13 rfl (lv_at hl 2 rfl) ?_
      refine gB_held hC hB dX0_heldByAll_14 ?_
      refine lv_iload_n hx hb dX0_heldByAll_17 rfl (lv_at hl 0 rfl) ?_
      refine lB_row (i) hC hB rfl (by omega) dX0_heldByAll_18 ?_
      refine lv_iload_n hx hb dX0_heldByAll_19 rfl (lv_at hl 3 rfl) ?_
      refine lB_held (i) (t) hC hB (by omega) rfl (by omega) rfl dX0_heldByAll_20 ?_
      refine lv_iadd hx hb dX0_heldByAll_21 ?_
      refine lv_istore_n (lv' := [(2, .int ((bOp S i t) + (S (7 + i) t))), (3, .int (nI i)), (0, .ref (a 13)), (1, .int (nI t))]) hx hb dX0_heldByAll_22 rfl hl (by decide) rfl (fun ls hl => ?_)
      refine lv_iinc (v := nI (i + 1)) (lv' := [(3, .int (nI (i + 1))), (2, .int ((bOp S i t) + (S (7 + i) t))), (0, .ref (a 13)), (1, .int (nI t))]) hx hb dX0_heldByAll_23 hl (k := 1) rfl (ninc i) (by decide) rfl (fun ls hl => ?_)
      refine lv_goto (tgt := 4) hx hb dX0_heldByAll_26 (by decide) ?_
      exact ih ls (lv_sub hl [0, 1, 2, 3] rfl)
set_option maxHeartbeats 4000000 in
set_option maxRecDepth 100000 in
theorem c_X0_shortTowers (l : Launch) (D : va_G) (cI cQ : ClassId) (a : Nat → Nat) (S : bS) {T R : Nat} {r : Nat} (hI : BI S T R) (hr9 : r < R) : Rd l yX0_shortTowers cX0_shortTowers 4 (some .int) ({ frames := 0, cells := 0, slots := 0, locals := 0 } : Room) (BW D cI cQ a S) [.ref (a 13), .int (nI r)] (.int (bSh S T r)) := by
  refine Rd.of (by decide) (Nat.le_of_ble_eq_true rfl) ?_
  intro p e s m args below meth c ls hC hr hlocks hB hl
  have hx := hC.1
  have hb := hC.2.1
  obtain ⟨hT, hR, hT8, hR6⟩ := id hI
  have hl : lv_has ls 4 [(0, .ref (a 13)), (1, .int (nI r))] := hl
  refine lv_iconst (v := 0) hx hb dX0_shortTowers_0 (by decide) ?_
  refine lv_istore_n (lv' := [(2, .int (0)), (0, .ref (a 13)), (1, .int (nI r))]) hx hb dX0_shortTowers_1 rfl hl (by decide) rfl (fun ls hl => ?_)
  refine lv_iconst (v := 0) hx hb dX0_shortTowers_2 (by decide) ?_
  refine lv_istore_n (lv' := [(3, .int (0)), (2, .int (0)), (0, .ref (a 13)), (1, .int (nI r))]) hx hb dX0_shortTowers_3 rfl hl (by decide) rfl (fun ls hl => ?_)
  refine loopU (P := fun i => ∀ ls : Array Slot, lv_has ls 4 [(3, .int (nI i)), (2, .int (bSh S i r)), (0, .ref (a 13)), (1, .int (nI r))] → W p l e ({ frames := 0, cells := 0, slots := 0, locals := 0 } : Room) s m args below meth c s.heap [] 0 0 (MQ below (k2_QcV (.int (bSh S T r))) args s 0 0 (fun _ => False)) (F0 m 4 ls [])) (T) ?_ ?_ 0 (by omega) ls (by first | exact lv_sub hl [0, 1, 2, 3] rfl | (simpa using lv_sub hl [0, 1, 2, 3] rfl))
  · intro ls hl
    refine lv_iload_n hx hb dX0_shortTowers_4 rfl (lv_at hl 0 rfl) ?_
    refine lv_aload_n hx hb dX0_shortTowers_5 rfl (lv_at hl 2 rfl) ?_
    refine gB_towerCount hC hB hT dX0_shortTowers_6 ?_
    refine jge (i := T) (j := T) (tgt := 32) hC dX0_shortTowers_9 (by decide) rfl rfl (by omega) (by omega) (fun c1 => ?_) (fun c1 => ?_)
    · refine lv_iload_n hx hb dX0_shortTowers_32 rfl (lv_at hl 1 rfl) ?_
      exact rd_i hC hr hlocks dX0_shortTowers_33 (by rfl)
    · exfalso; omega
  · intro i hi ih ls hl
    refine lv_iload_n hx hb dX0_shortTowers_4 rfl (lv_at hl 0 rfl) ?_
    refine lv_aload_n hx hb dX0_shortTowers_5 rfl (lv_at hl 2 rfl) ?_
    refine gB_towerCount hC hB hT dX0_shortTowers_6 ?_
    refine jge (i := i) (j := T) (tgt := 32) hC dX0_shortTowers_9 (by decide) rfl rfl (by omega) (by omega) (fun c2 => ?_) (fun c2 => ?_)
    · exfalso; omega
    · refine lv_aload_n hx hb dX0_shortTowers_12 rfl (lv_at hl 2 rfl) ?_
      refine gB_held hC hB dX0_shortTowers_13 ?_
      refine lv_iload_n hx hb dX0_shortTowers_16 rfl (lv_at hl 3 rfl) ?_
      refine lB_row (r) hC hB rfl (by omega) dX0_shortTowers_17 ?_
      refine lv_iload_n hx hb dX0_shortTowers_18 rfl (lv_at hl 0 rfl) ?_
      refine lB_held (r) (i) hC hB (by omega) rfl (by omega) rfl dX0_shortTowers_19 ?_
      refine lv_if_ge (tgt := 26) hx hb dX0_shortTowers_20 (by decide) (fun c3 => ?_) (fun c3 => ?_)
      · refine lv_iinc (v := nI (i + 1)) (lv' := [(3, .int (nI (i + 1))), (2, .int (bSh S i r)), (0, .ref (a 13)), (1, .int (nI r))]) hx hb dX0_shortTowers_26 hl (k := 0) rfl (ninc i) (by decide) rfl (fun ls hl => ?_)
        refine lv_goto (tgt := 4) hx hb dX0_shortTowers_29 (by decide) ?_
        have e4 : bSh S (i + 1) r = bSh S i r := by show _ + (if _ then _ else _) = _; rw [if_pos c3, Int32.add_zero]; rfl
        exact ih ls (by rw [e4]; exact lv_sub hl [0, 1, 2, 3] rfl)
      · refine lv_iinc (v := (bSh S i r) + 1) (lv' := [(2, .int ((bSh S i r) + 1)), (3, .int (nI i)), (0, .ref (a 13)), (1, .int (nI r))]) hx hb dX0_shortTowers_23 hl (k := 1) rfl (rfl) (by decide) rfl (fun ls hl => ?_)
        refine lv_iinc (v := nI (i + 1)) (lv' := [(3, .int (nI (i + 1))), (2, .int ((bSh S i r) + 1)), (0, .ref (a 13)), (1, .int (nI r))]) hx hb dX0_shortTowers_26 hl (k := 1) rfl (ninc i) (by decide) rfl (fun ls hl => ?_)
        refine lv_goto (tgt := 4) hx hb dX0_shortTowers_29 (by decide) ?_
        have e5 : bSh S (i + 1) r = (bSh S i r) + 1 := by show _ + (if _ then _ else _) = _; rw [if_neg c3]; rfl
        exact ih ls (by rw [e5]; exact lv_sub hl [0, 1, 2, 3] rfl)
set_option maxHeartbeats 4000000 in
set_option maxRecDepth 100000 in
theorem c_X0_worthBehind (l : Launch) (D : va_G) (cI cQ : ClassId) (a : Nat → Nat) (S : bS) {T R : Nat} {r k : Nat} (hI : BI S T R) (hr9 : r < R) : Rd l yX0_worthBehind cX0_worthBehind 7 (some .int) ({ frames := 4, cells := 0, slots := 0, locals := 92 } : Room) (BW D cI cQ a S) [.ref (a 13), .int (nI r), .int (nI k)] (.int (bWb S T R r k)) := by
  refine Rd.of (by decide) (Nat.le_of_ble_eq_true rfl) ?_
  intro p e s m args below meth c ls hC hr hlocks hB hl
  have hx := hC.1
  have hb := hC.2.1
  obtain ⟨hT, hR, hT8, hR6⟩ := id hI
  have hl : lv_has ls 7 [(0, .ref (a 13)), (1, .int (nI r)), (2, .int (nI k))] := hl
  refine lv_aload_n hx hb dX0_worthBehind_0 rfl (lv_at hl 0 rfl) ?_
  refine gB_purse hC hB dX0_worthBehind_1 ?_
  refine lv_iload_n hx hb dX0_worthBehind_4 rfl (lv_at hl 1 rfl) ?_
  refine lB_purse (r) hC hB rfl (by omega) rfl dX0_worthBehind_5 ?_
  refine lv_istore_n (lv' := [(3, .int (S 5 r)), (0, .ref (a 13)), (1, .int (nI r)), (2, .int (nI k))]) hx hb dX0_worthBehind_6 rfl hl (by decide) rfl (fun ls hl => ?_)
  refine lv_iconst (v := 0) hx hb dX0_worthBehind_7 (by decide) ?_
  refine lv_istore (lv' := [(4, .int (0)), (3, .int (S 5 r)), (0, .ref (a 13)), (1, .int (nI r)), (2, .int (nI k))]) hx hb dX0_worthBehind_8 hl (by decide) rfl (fun ls hl => ?_)
  refine loopU (P := fun i => ∀ ls : Array Slot, lv_has ls 7 [(4, .int (nI i)), (3, .int (bWb S i R r k)), (0, .ref (a 13)), (1, .int (nI r)), (2, .int (nI k))] → W p l e ({ frames := 4, cells := 0, slots := 0, locals := 92 } : Room) s m args below meth c s.heap [] 0 0 (MQ below (k2_QcV (.int (bWb S T R r k))) args s 0 0 (fun _ => False)) (F0 m 10 ls [])) (T) ?_ ?_ 0 (by omega) ls (by first | exact lv_sub hl [0, 1, 2, 3, 4] rfl | (simpa using lv_sub hl [0, 1, 2, 3, 4] rfl))
  · intro ls hl
    refine lv_iload hx hb dX0_worthBehind_10 (lv_at hl 0 rfl) ?_
    refine lv_aload_n hx hb dX0_worthBehind_12 rfl (lv_at hl 2 rfl) ?_
    refine gB_towerCount hC hB hT dX0_worthBehind_13 ?_
    refine jge (i := T) (j := T) (tgt := 81) hC dX0_worthBehind_16 (by decide) rfl rfl (by omega) (by omega) (fun c1 => ?_) (fun c1 => ?_)
    · refine lv_iload_n hx hb dX0_worthBehind_81 rfl (lv_at hl 1 rfl) ?_
      exact rd_i hC hr hlocks dX0_worthBehind_82 (by rfl)
    · exfalso; omega
  · intro i hi ih ls hl
    refine lv_iload hx hb dX0_worthBehind_10 (lv_at hl 0 rfl) ?_
    refine lv_aload_n hx hb dX0_worthBehind_12 rfl (lv_at hl 2 rfl) ?_
    refine gB_towerCount hC hB hT dX0_worthBehind_13 ?_
    refine jge (i := i) (j := T) (tgt := 81) hC dX0_worthBehind_16 (by decide) rfl rfl (by omega) (by omega) (fun c2 => ?_) (fun c2 => ?_)
    · exfalso; omega
    · refine lv_aload_n hx hb dX0_worthBehind_19 rfl (lv_at hl 2 rfl) ?_
      refine gB_untilStroke hC hB dX0_worthBehind_20 ?_
      refine lv_iload hx hb dX0_worthBehind_23 (lv_at hl 0 rfl) ?_
      refine lB_untilStroke (i) hC hB rfl (by omega) rfl dX0_worthBehind_25 ?_
      refine lv_iload_n hx hb dX0_worthBehind_26 rfl (lv_at hl 4 rfl) ?_
      refine lv_icmp_gt (tgt := 34) hx hb dX0_worthBehind_27 (by decide) (fun c3 => ?_) (fun c3 => ?_)
      · refine lv_iconst (v := 0) hx hb dX0_worthBehind_34 (by decide) ?_
        refine lv_istore (lv' := [(5, .int (0)), (4, .int (nI i)), (3, .int (bWb S i R r k)), (0, .ref (a 13)), (1, .int (nI r)), (2, .int (nI k))]) hx hb dX0_worthBehind_35 hl (by decide) rfl (fun ls hl => ?_)
        refine lv_iload hx hb dX0_worthBehind_37 (lv_at hl 0 rfl) ?_
        refine lv_if_eq (tgt := 51) hx hb dX0_worthBehind_39 (by decide) (fun c4 => ?_) (fun c4 => ?_)
        · refine lv_aload_n hx hb dX0_worthBehind_51 rfl (lv_at hl 3 rfl) ?_
          refine lv_iload hx hb dX0_worthBehind_52 (lv_at hl 1 rfl) ?_
          refine lv_iload_n hx hb dX0_worthBehind_54 rfl (lv_at hl 5 rfl) ?_
          refine k_X0_priceBehind hC (c_X0_priceBehind l D cI cQ a S hI (t := i) (k := k) (by omega)) hB rfl ⟨rfl, rfl⟩ ⟨Nat.le_of_ble_eq_true rfl, Nat.le_of_ble_eq_true rfl⟩ ⟨Nat.zero_le _, Nat.zero_le _⟩ hl.1 rfl (Nat.le_of_ble_eq_true rfl) dX0_worthBehind_55 ?_
          refine lv_istore (lv' := [(6, .int (bPb S R i k)), (5, .int (0)), (4, .int (nI i)), (3, .int (bWb S i R r k)), (0, .ref (a 13)), (1, .int (nI r)), (2, .int (nI k))]) hx hb dX0_worthBehind_58 hl (by decide) rfl (fun ls hl => ?_)
          refine lv_iload_n hx hb dX0_worthBehind_60 rfl (lv_at hl 3 rfl) ?_
          refine lv_iload hx hb dX0_worthBehind_61 (lv_at hl 0 rfl) ?_
          refine lv_aload_n hx hb dX0_worthBehind_63 rfl (lv_at hl 4 rfl) ?_
          refine gB_held hC hB dX0_worthBehind_64 ?_
          refine lv_iload_n hx hb dX0_worthBehind_67 rfl (lv_at hl 5 rfl) ?_
          refine lB_row (r) hC hB rfl (by omega) dX0_worthBehind_68 ?_
          refine lv_iload hx hb dX0_worthBehind_69 (lv_at hl 2 rfl) ?_
          refine lB_held (r) (i) hC hB (by omega) rfl (by omega) rfl dX0_worthBehind_71 ?_
          refine lv_imul hx hb dX0_worthBehind_72 ?_
          refine lv_iadd hx hb dX0_worthBehind_73 ?_
          refine lv_istore_n (lv' := [(3, .int ((bWb S i R r k) + ((bPb S R i k) * (S (7 + r) i)))), (6, .int (bPb S R i k)), (5, .int (0)), (4, .int (nI i)), (0, .ref (a 13)), (1, .int (nI r)), (2, .int (nI k))]) hx hb dX0_worthBehind_74 rfl hl (by decide) rfl (fun ls hl => ?_)
          refine lv_iinc (v := nI (i + 1)) (lv' := [(4, .int (nI (i + 1))), (3, .int ((bWb S i R r k) + ((bPb S R i k) * (S (7 + r) i)))), (6, .int (bPb S R i k)), (5, .int (0)), (0, .ref (a 13)), (1, .int (nI r)), (2, .int (nI k))]) hx hb dX0_worthBehind_75 hl (k := 3) rfl (ninc i) (by decide) rfl (fun ls hl => ?_)
          refine lv_goto (tgt := 10) hx hb dX0_worthBehind_78 (by decide) ?_
          have e5 : bWb S (i + 1) R r k = (bWb S i R r k) + ((bPb S R i k) * (S (7 + r) i)) := by show _ + (if _ then _ else _) * _ = _; rw [if_pos c3]; rfl
          exact ih ls (by rw [e5]; exact lv_sub hl [0, 1, 4, 5, 6] rfl)
        · exfalso; revert c4; decide
      · refine lv_iconst (v := 1) hx hb dX0_worthBehind_30 (by decide) ?_
        refine lv_goto (tgt := 35) hx hb dX0_worthBehind_31 (by decide) ?_
        refine lv_istore (lv' := [(5, .int (1)), (4, .int (nI i)), (3, .int (bWb S i R r k)), (0, .ref (a 13)), (1, .int (nI r)), (2, .int (nI k))]) hx hb dX0_worthBehind_35 hl (by decide) rfl (fun ls hl => ?_)
        refine lv_iload hx hb dX0_worthBehind_37 (lv_at hl 0 rfl) ?_
        refine lv_if_eq (tgt := 51) hx hb dX0_worthBehind_39 (by decide) (fun c6 => ?_) (fun c6 => ?_)
        · exfalso; revert c6; decide
        · refine lv_aload_n hx hb dX0_worthBehind_42 rfl (lv_at hl 3 rfl) ?_
          refine lv_iload hx hb dX0_worthBehind_43 (lv_at hl 1 rfl) ?_
          refine k_X0_closing hC (c_X0_closing l D cI cQ a S hI (t := i) (by omega)) hB rfl ⟨rfl, rfl⟩ ⟨Nat.le_of_ble_eq_true rfl, Nat.le_of_ble_eq_true rfl⟩ ⟨Nat.zero_le _, Nat.zero_le _⟩ hl.1 rfl (Nat.le_of_ble_eq_true rfl) dX0_worthBehind_45 ?_
          refine lv_goto (tgt := 58) hx hb dX0_worthBehind_48 (by decide) ?_
          refine lv_istore (lv' := [(6, .int (bCl S R i)), (5, .int (1)), (4, .int (nI i)), (3, .int (bWb S i R r k)), (0, .ref (a 13)), (1, .int (nI r)), (2, .int (nI k))]) hx hb dX0_worthBehind_58 hl (by decide) rfl (fun ls hl => ?_)
          refine lv_iload_n hx hb dX0_worthBehind_60 rfl (lv_at hl 3 rfl) ?_
          refine lv_iload hx hb dX0_worthBehind_61 (lv_at hl 0 rfl) ?_
          refine lv_aload_n hx hb dX0_worthBehind_63 rfl (lv_at hl 4 rfl) ?_
          refine gB_held hC hB dX0_worthBehind_64 ?_
          refine lv_iload_n hx hb dX0_worthBehind_67 rfl (lv_at hl 5 rfl) ?_
          refine lB_row (r) hC hB rfl (by omega) dX0_worthBehind_68 ?_
          refine lv_iload hx hb dX0_worthBehind_69 (lv_at hl 2 rfl) ?_
          refine lB_held (r) (i) hC hB (by omega) rfl (by omega) rfl dX0_worthBehind_71 ?_
          refine lv_imul hx hb dX0_worthBehind_72 ?_
          refine lv_iadd hx hb dX0_worthBehind_73 ?_
          refine lv_istore_n (lv' := [(3, .int ((bWb S i R r k) + ((bCl S R i) * (S (7 + r) i)))), (6, .int (bCl S R i)), (5, .int (1)), (4, .int (nI i)), (0, .ref (a 13)), (1, .int (nI r)), (2, .int (nI k))]) hx hb dX0_worthBehind_74 rfl hl (by decide) rfl (fun ls hl => ?_)
          refine lv_iinc (v := nI (i + 1)) (lv' := [(4, .int (nI (i + 1))), (3, .int ((bWb S i R r k) + ((bCl S R i) * (S (7 + r) i)))), (6, .int (bCl S R i)), (5, .int (1)), (0, .ref (a 13)), (1, .int (nI r)), (2, .int (nI k))]) hx hb dX0_worthBehind_75 hl (k := 3) rfl (ninc i) (by decide) rfl (fun ls hl => ?_)
          refine lv_goto (tgt := 10) hx hb dX0_worthBehind_78 (by decide) ?_
          have e7 : bWb S (i + 1) R r k = (bWb S i R r k) + ((bCl S R i) * (S (7 + r) i)) := by show _ + (if _ then _ else _) * _ = _; rw [if_neg c3]; rfl
          exact ih ls (by rw [e7]; exact lv_sub hl [0, 1, 4, 5, 6] rfl)
set_option maxHeartbeats 4000000 in
set_option maxRecDepth 100000 in
theorem c_X0_closedIn (l : Launch) (D : va_G) (cI cQ : ClassId) (a : Nat → Nat) (S : bS) {T R : Nat} {r k : Nat} (hI : BI S T R) (hr9 : r < R) : Rd l yX0_closedIn cX0_closedIn 5 (some .int) ({ frames := 4, cells := 0, slots := 0, locals := 89 } : Room) (BW D cI cQ a S) [.ref (a 13), .int (nI r), .int (nI k)] (.int (bCi S T R r k)) := by
  refine Rd.of (by decide) (Nat.le_of_ble_eq_true rfl) ?_
  intro p e s m args below meth c ls hC hr hlocks hB hl
  have hx := hC.1
  have hb := hC.2.1
  obtain ⟨hT, hR, hT8, hR6⟩ := id hI
  have hl : lv_has ls 5 [(0, .ref (a 13)), (1, .int (nI r)), (2, .int (nI k))] := hl
  refine lv_iconst (v := 0) hx hb dX0_closedIn_0 (by decide) ?_
  refine lv_istore_n (lv' := [(3, .int (0)), (0, .ref (a 13)), (1, .int (nI r)), (2, .int (nI k))]) hx hb dX0_closedIn_1 rfl hl (by decide) rfl (fun ls hl => ?_)
  refine lv_iconst (v := 0) hx hb dX0_closedIn_2 (by decide) ?_
  refine lv_istore (lv' := [(4, .int (0)), (3, .int (0)), (0, .ref (a 13)), (1, .int (nI r)), (2, .int (nI k))]) hx hb dX0_closedIn_3 hl (by decide) rfl (fun ls hl => ?_)
  refine loopU (P := fun i => ∀ ls : Array Slot, lv_has ls 5 [(4, .int (nI i)), (3, .int (bCi S i R r k)), (0, .ref (a 13)), (1, .int (nI r)), (2, .int (nI k))] → W p l e ({ frames := 4, cells := 0, slots := 0, locals := 89 } : Room) s m args below meth c s.heap [] 0 0 (MQ below (k2_QcV (.int (bCi S T R r k))) args s 0 0 (fun _ => False)) (F0 m 5 ls [])) (T) ?_ ?_ 0 (by omega) ls (by first | exact lv_sub hl [0, 1, 2, 3, 4] rfl | (simpa using lv_sub hl [0, 1, 2, 3, 4] rfl))
  · intro ls hl
    refine lv_iload hx hb dX0_closedIn_5 (lv_at hl 0 rfl) ?_
    refine lv_aload_n hx hb dX0_closedIn_7 rfl (lv_at hl 2 rfl) ?_
    refine gB_towerCount hC hB hT dX0_closedIn_8 ?_
    refine jge (i := T) (j := T) (tgt := 50) hC dX0_closedIn_11 (by decide) rfl rfl (by omega) (by omega) (fun c1 => ?_) (fun c1 => ?_)
    · refine lv_iload_n hx hb dX0_closedIn_50 rfl (lv_at hl 1 rfl) ?_
      exact rd_i hC hr hlocks dX0_closedIn_51 (by rfl)
    · exfalso; omega
  · intro i hi ih ls hl
    refine lv_iload hx hb dX0_closedIn_5 (lv_at hl 0 rfl) ?_
    refine lv_aload_n hx hb dX0_closedIn_7 rfl (lv_at hl 2 rfl) ?_
    refine gB_towerCount hC hB hT dX0_closedIn_8 ?_
    refine jge (i := i) (j := T) (tgt := 50) hC dX0_closedIn_11 (by decide) rfl rfl (by omega) (by omega) (fun c2 => ?_) (fun c2 => ?_)
    · exfalso; omega
    · refine lv_aload_n hx hb dX0_closedIn_14 rfl (lv_at hl 2 rfl) ?_
      refine gB_untilStroke hC hB dX0_closedIn_15 ?_
      refine lv_iload hx hb dX0_closedIn_18 (lv_at hl 0 rfl) ?_
      refine lB_untilStroke (i) hC hB rfl (by omega) rfl dX0_closedIn_20 ?_
      refine lv_iload_n hx hb dX0_closedIn_21 rfl (lv_at hl 4 rfl) ?_
      refine lv_icmp_ne (tgt := 44) hx hb dX0_closedIn_22 (by decide) (fun c3 => ?_) (fun c3 => ?_)
      · refine lv_iinc (v := nI (i + 1)) (lv' := [(4, .int (nI (i + 1))), (3, .int (bCi S i R r k)), (0, .ref (a 13)), (1, .int (nI r)), (2, .int (nI k))]) hx hb dX0_closedIn_44 hl (k := 0) rfl (ninc i) (by decide) rfl (fun ls hl => ?_)
        refine lv_goto (tgt := 5) hx hb dX0_closedIn_47 (by decide) ?_
        have e4 : bCi S (i + 1) R r k = bCi S i R r k := by show _ + (if _ then _ else _) = _; rw [if_neg c3, Int32.add_zero]; rfl
        exact ih ls (by rw [e4]; exact lv_sub hl [0, 1, 2, 3, 4] rfl)
      · refine lv_iload_n hx hb dX0_closedIn_25 rfl (lv_at hl 1 rfl) ?_
        refine lv_aload_n hx hb dX0_closedIn_26 rfl (lv_at hl 2 rfl) ?_
        refine lv_iload hx hb dX0_closedIn_27 (lv_at hl 0 rfl) ?_
        refine k_X0_closing hC (c_X0_closing l D cI cQ a S hI (t := i) (by omega)) hB rfl ⟨rfl, rfl⟩ ⟨Nat.le_of_ble_eq_true rfl, Nat.le_of_ble_eq_true rfl⟩ ⟨Nat.zero_le _, Nat.zero_le _⟩ hl.1 rfl (Nat.le_of_ble_eq_true rfl) dX0_closedIn_29 ?_
        refine lv_aload_n hx hb dX0_closedIn_32 rfl (lv_at hl 2 rfl) ?_
        refine gB_held hC hB dX0_closedIn_33 ?_
        refine lv_iload_n hx hb dX0_closedIn_36 rfl (lv_at hl 3 rfl) ?_
        refine lB_row (r) hC hB rfl (by omega) dX0_closedIn_37 ?_
        refine lv_iload hx hb dX0_closedIn_38 (lv_at hl 0 rfl) ?_
        refine lB_held (r) (i) hC hB (by omega) rfl (by omega) rfl dX0_closedIn_40 ?_
        refine lv_imul hx hb dX0_closedIn_41 ?_
        refine lv_iadd hx hb dX0_closedIn_42 ?_
        refine lv_istore_n (lv' := [(3, .int ((bCi S i R r k) + ((bCl S R i) * (S (7 + r) i)))), (4, .int (nI i)), (0, .ref (a 13)), (1, .int (nI r)), (2, .int (nI k))]) hx hb dX0_closedIn_43 rfl hl (by decide) rfl (fun ls hl => ?_)
        refine lv_iinc (v := nI (i + 1)) (lv' := [(4, .int (nI (i + 1))), (3, .int ((bCi S i R r k) + ((bCl S R i) * (S (7 + r) i)))), (0, .ref (a 13)), (1, .int (nI r)), (2, .int (nI k))]) hx hb dX0_closedIn_44 hl (k := 1) rfl (ninc i) (by decide) rfl (fun ls hl => ?_)
        refine lv_goto (tgt := 5) hx hb dX0_closedIn_47 (by decide) ?_
        have e5 : bCi S (i + 1) R r k = (bCi S i R r k) + ((bCl S R i) * (S (7 + r) i)) := by show _ + (if _ then _ else _) = _; rw [if_pos c3]; rfl
        exact ih ls (by rw [e5]; exact lv_sub hl [0, 1, 2, 3, 4] rfl)
set_option maxHeartbeats 4000000 in
set_option maxRecDepth 100000 in
theorem c_X0_yieldOfSelling (l : Launch) (D : va_G) (cI cQ : ClassId) (a : Nat → Nat) (S : bS) {T R : Nat} {r t k : Nat} (hI : BI S T R) (hr9 : r < R) (ht : t < T) : Rd l yX0_yieldOfSelling cX0_yieldOfSelling 7 (some .int) ({ frames := 4, cells := 0, slots := 0, locals := 88 } : Room) (BW D cI cQ a S) [.ref (a 13), .int (nI r), .int (nI t), .int (nI k)] (.int (bYi S R r t k)) := by
  refine Rd.of (by decide) (Nat.le_of_ble_eq_true rfl) ?_
  intro p e s m args below meth c ls hC hr hlocks hB hl
  have hx := hC.1
  have hb := hC.2.1
  obtain ⟨hT, hR, hT8, hR6⟩ := id hI
  have hl : lv_has ls 7 [(0, .ref (a 13)), (1, .int (nI r)), (2, .int (nI t)), (3, .int (nI k))] := hl
  refine lv_aload_n hx hb dX0_yieldOfSelling_0 rfl (lv_at hl 0 rfl) ?_
  refine gB_held hC hB dX0_yieldOfSelling_1 ?_
  refine lv_iload_n hx hb dX0_yieldOfSelling_4 rfl (lv_at hl 1 rfl) ?_
  refine lB_row (r) hC hB rfl (by omega) dX0_yieldOfSelling_5 ?_
  refine lv_iload_n hx hb dX0_yieldOfSelling_6 rfl (lv_at hl 2 rfl) ?_
  refine lB_held (r) (t) hC hB (by omega) rfl (by omega) rfl dX0_yieldOfSelling_7 ?_
  refine lv_istore (lv' := [(4, .int (S (7 + r) t)), (0, .ref (a 13)), (1, .int (nI r)), (2, .int (nI t)), (3, .int (nI k))]) hx hb dX0_yieldOfSelling_8 hl (by decide) rfl (fun ls hl => ?_)
  refine lv_iload hx hb dX0_yieldOfSelling_10 (lv_at hl 0 rfl) ?_
  refine lv_iload_n hx hb dX0_yieldOfSelling_12 rfl (lv_at hl 4 rfl) ?_
  refine lv_isub hx hb dX0_yieldOfSelling_13 ?_
  refine lv_istore (lv' := [(5, .int ((S (7 + r) t) - (nI k))), (4, .int (S (7 + r) t)), (0, .ref (a 13)), (1, .int (nI r)), (2, .int (nI t)), (3, .int (nI k))]) hx hb dX0_yieldOfSelling_14 hl (by decide) rfl (fun ls hl => ?_)
  refine lv_aload_n hx hb dX0_yieldOfSelling_16 rfl (lv_at hl 2 rfl) ?_
  refine lv_iload_n hx hb dX0_yieldOfSelling_17 rfl (lv_at hl 4 rfl) ?_
  refine k_X0_dovesNow hC (c_X0_dovesNow l D cI cQ a S hI (t := t) (by omega)) hB rfl ⟨rfl, rfl⟩ ⟨Nat.le_of_ble_eq_true rfl, Nat.le_of_ble_eq_true rfl⟩ ⟨Nat.zero_le _, Nat.zero_le _⟩ hl.1 rfl (Nat.le_of_ble_eq_true rfl) dX0_yieldOfSelling_18 ?_
  refine lv_iload hx hb dX0_yieldOfSelling_21 (lv_at hl 1 rfl) ?_
  refine k_X0_dovesFor hC (c_X0_dovesFor l (S (7 + r) t)) mov_T trivial rfl ⟨rfl, rfl⟩ ⟨Nat.le_of_ble_eq_true rfl, Nat.le_of_ble_eq_true rfl⟩ ⟨Nat.zero_le _, Nat.zero_le _⟩ hl.1 rfl (Nat.le_of_ble_eq_true rfl) dX0_yieldOfSelling_23 ?_
  refine lv_isub hx hb dX0_yieldOfSelling_26 ?_
  refine lv_iload hx hb dX0_yieldOfSelling_27 (lv_at hl 0 rfl) ?_
  refine k_X0_dovesFor hC (c_X0_dovesFor l ((S (7 + r) t) - (nI k))) mov_T trivial rfl ⟨rfl, rfl⟩ ⟨Nat.le_of_ble_eq_true rfl, Nat.le_of_ble_eq_true rfl⟩ ⟨Nat.zero_le _, Nat.zero_le _⟩ hl.1 rfl (Nat.le_of_ble_eq_true rfl) dX0_yieldOfSelling_29 ?_
  refine lv_iadd hx hb dX0_yieldOfSelling_32 ?_
  refine lv_istore (lv' := [(6, .int (((bDv S R t) - (mx 0 (-(S (7 + r) t)))) + (mx 0 (-((S (7 + r) t) - (nI k)))))), (5, .int ((S (7 + r) t) - (nI k))), (4, .int (S (7 + r) t)), (0, .ref (a 13)), (1, .int (nI r)), (2, .int (nI t)), (3, .int (nI k))]) hx hb dX0_yieldOfSelling_33 hl (by decide) rfl (fun ls hl => ?_)
  refine lv_iload_n hx hb dX0_yieldOfSelling_35 rfl (lv_at hl 6 rfl) ?_
  refine lv_aload_n hx hb dX0_yieldOfSelling_36 rfl (lv_at hl 3 rfl) ?_
  refine lv_iload_n hx hb dX0_yieldOfSelling_37 rfl (lv_at hl 5 rfl) ?_
  refine k_X0_priceNow hC (c_X0_priceNow l D cI cQ a S hI (t := t) (by omega)) hB rfl ⟨rfl, rfl⟩ ⟨Nat.le_of_ble_eq_true rfl, Nat.le_of_ble_eq_true rfl⟩ ⟨Nat.zero_le _, Nat.zero_le _⟩ hl.1 rfl (Nat.le_of_ble_eq_true rfl) dX0_yieldOfSelling_38 ?_
  refine lv_imul hx hb dX0_yieldOfSelling_41 ?_
  refine lv_iload hx hb dX0_yieldOfSelling_42 (lv_at hl 1 rfl) ?_
  refine lv_aload_n hx hb dX0_yieldOfSelling_44 rfl (lv_at hl 3 rfl) ?_
  refine lv_iload_n hx hb dX0_yieldOfSelling_45 rfl (lv_at hl 5 rfl) ?_
  refine lv_iload hx hb dX0_yieldOfSelling_46 (lv_at hl 0 rfl) ?_
  refine k_X0_closingWith hC (c_X0_closingWith l D cI cQ a S (t := t) (((bDv S R t) - (mx 0 (-(S (7 + r) t)))) + (mx 0 (-((S (7 + r) t) - (nI k))))) hI (by omega)) hB rfl ⟨rfl, rfl⟩ ⟨Nat.le_of_ble_eq_true rfl, Nat.le_of_ble_eq_true rfl⟩ ⟨Nat.zero_le _, Nat.zero_le _⟩ hl.1 rfl (Nat.le_of_ble_eq_true rfl) dX0_yieldOfSelling_48 ?_
  refine lv_imul hx hb dX0_yieldOfSelling_51 ?_
  refine lv_iadd hx hb dX0_yieldOfSelling_52 ?_
  exact rd_i hC hr hlocks dX0_yieldOfSelling_53 (by rfl)
end
section
set_option maxHeartbeats 4000000 in
set_option maxRecDepth 100000 in
theorem c_X0_requireTower (l : Launch) (D : va_G) (cI cQ : ClassId) (a : Nat → Nat) (S : bS) {T R : Nat} {t : Nat} (hI : BI S T R) (ht : t < T) : Rn l yX0_requireTower cX0_requireTower 2 none ({ frames := 0, cells := 0, slots := 0, locals := 0 } : Room) (BW D cI cQ a S) [.ref (a 13), .int (nI t)] := by
  refine Rn.of (by decide) (Nat.le_of_ble_eq_true rfl) ?_
  intro p e s m args below meth c ls hC hr hlocks hB hl
  have hx := hC.1
  have hb := hC.2.1
  obtain ⟨hT, hR, hT8, hR6⟩ := id hI
  have hl : lv_has ls 2 [(0, .ref (a 13)), (1, .int (nI t))] := hl
  refine lv_iload_n hx hb dX0_requireTower_0 rfl (lv_at hl 1 rfl) ?_
  refine lv_if_lt (tgt := 12) hx hb dX0_requireTower_1 (by decide) (fun c1 => ?_) (fun c1 => ?_)
  · exfalso; exact absurd c1 (nI_pos (by omega))
  · refine lv_iload_n hx hb dX0_requireTower_4 rfl (lv_at hl 1 rfl) ?_
    refine lv_aload_n hx hb dX0_requireTower_5 rfl (lv_at hl 0 rfl) ?_
    refine gB_towerCount hC hB hT dX0_requireTower_6 ?_
    refine jlt (i := t) (j := T) (tgt := 22) hC dX0_requireTower_9 (by decide) rfl rfl (by omega) (by omega) (fun c2 => ?_) (fun c2 => ?_)
    · exact rd_v hC hr hlocks dX0_requireTower_22
    · exfalso; omega
set_option maxHeartbeats 4000000 in
set_option maxRecDepth 100000 in
theorem c_X0_requireTrader (l : Launch) (D : va_G) (cI cQ : ClassId) (a : Nat → Nat) (S : bS) {T R : Nat} {r : Nat} (hI : BI S T R) (hr9 : r < R) : Rn l yX0_requireTrader cX0_requireTrader 2 none ({ frames := 0, cells := 0, slots := 0, locals := 0 } : Room) (BW D cI cQ a S) [.ref (a 13), .int (nI r)] := by
  refine Rn.of (by decide) (Nat.le_of_ble_eq_true rfl) ?_
  intro p e s m args below meth c ls hC hr hlocks hB hl
  have hx := hC.1
  have hb := hC.2.1
  obtain ⟨hT, hR, hT8, hR6⟩ := id hI
  have hl : lv_has ls 2 [(0, .ref (a 13)), (1, .int (nI r))] := hl
  refine lv_iload_n hx hb dX0_requireTrader_0 rfl (lv_at hl 1 rfl) ?_
  refine lv_if_lt (tgt := 12) hx hb dX0_requireTrader_1 (by decide) (fun c1 => ?_) (fun c1 => ?_)
  · exfalso; exact absurd c1 (nI_pos (by omega))
  · refine lv_iload_n hx hb dX0_requireTrader_4 rfl (lv_at hl 1 rfl) ?_
    refine lv_aload_n hx hb dX0_requireTrader_5 rfl (lv_at hl 0 rfl) ?_
    refine gB_traderCount hC hB hR dX0_requireTrader_6 ?_
    refine jlt (i := r) (j := R) (tgt := 22) hC dX0_requireTrader_9 (by decide) rfl rfl (by omega) (by omega) (fun c2 => ?_) (fun c2 => ?_)
    · exact rd_v hC hr hlocks dX0_requireTrader_22
    · exfalso; omega
set_option maxHeartbeats 4000000 in
set_option maxRecDepth 100000 in
theorem c_X0_requireTradable (l : Launch) {k : Nat} (hk1 : 1 ≤ k) (hk9 : k ≤ 9) : Rn l yX0_requireTradable cX0_requireTradable 1 none ({ frames := 0, cells := 0, slots := 0, locals := 0 } : Room) (fun _ _ => True) [.int (nI k)] := by
  refine Rn.of (by decide) (Nat.le_of_ble_eq_true rfl) ?_
  intro p e s m args below meth c ls hC hr hlocks hB hl
  have hx := hC.1
  have hb := hC.2.1
  have hl : lv_has ls 1 [(0, .int (nI k))] := hl
  refine lv_iload_n hx hb dX0_requireTradable_0 rfl (lv_at hl 0 rfl) ?_
  refine lv_iconst (v := 1) hx hb dX0_requireTradable_1 (by decide) ?_
  refine jlt (i := k) (j := 1) (tgt := 11) hC dX0_requireTradable_2 (by decide) rfl rfl (by omega) (by omega) (fun c1 => ?_) (fun c1 => ?_)
  · exfalso; omega
  · refine lv_iload_n hx hb dX0_requireTradable_5 rfl (lv_at hl 0 rfl) ?_
    refine lv_bipush (v := 9) hx hb dX0_requireTradable_6 (by decide) ?_
    refine jle (i := k) (j := 9) (tgt := 21) hC dX0_requireTradable_8 (by decide) rfl rfl (by omega) (by omega) (fun c2 => ?_) (fun c2 => ?_)
    · exact rd_v hC hr hlocks dX0_requireTradable_21
    · exfalso; omega
set_option maxHeartbeats 4000000 in
set_option maxRecDepth 100000 in
theorem c_X0_requirePassable (l : Launch) {k : Nat} (hk1 : 1 ≤ k) (hk9 : k ≤ 60) : Rn l yX0_requirePassable cX0_requirePassable 1 none ({ frames := 0, cells := 0, slots := 0, locals := 0 } : Room) (fun _ _ => True) [.int (nI k)] := by
  refine Rn.of (by decide) (Nat.le_of_ble_eq_true rfl) ?_
  intro p e s m args below meth c ls hC hr hlocks hB hl
  have hx := hC.1
  have hb := hC.2.1
  have hl : lv_has ls 1 [(0, .int (nI k))] := hl
  refine lv_iload_n hx hb dX0_requirePassable_0 rfl (lv_at hl 0 rfl) ?_
  refine lv_iconst (v := 1) hx hb dX0_requirePassable_1 (by decide) ?_
  refine jlt (i := k) (j := 1) (tgt := 11) hC dX0_requirePassable_2 (by decide) rfl rfl (by omega) (by omega) (fun c1 => ?_) (fun c1 => ?_)
  · exfalso; omega
  · refine lv_iload_n hx hb dX0_requirePassable_5 rfl (lv_at hl 0 rfl) ?_
    refine lv_bipush (v := 60) hx hb dX0_requirePassable_6 (by decide) ?_
    refine jle (i := k) (j := 60) (tgt := 21) hC dX0_requirePassable_8 (by decide) rfl rfl (by omega) (by omega) (fun c2 => ?_) (fun c2 => ?_)
    · exact rd_v hC hr hlocks dX0_requirePassable_21
    · exfalso; omega
set_option maxHeartbeats 4000000 in
set_option maxRecDepth 100000 in
theorem c_X0_second (l : Launch) (D : va_G) (cI cQ : ClassId) (a : Nat → Nat) (S : bS) {T R : Nat} (hI : BI S T R) : Rd l yX0_second cX0_second 1 (some .int) ({ frames := 0, cells := 0, slots := 0, locals := 0 } : Room) (BW D cI cQ a S) [.ref (a 13)] (.int (S 6 0)) := by
  refine Rd.of (by decide) (Nat.le_of_ble_eq_true rfl) ?_
  intro p e s m args below meth c ls hC hr hlocks hB hl
  have hx := hC.1
  have hb := hC.2.1
  obtain ⟨hT, hR, hT8, hR6⟩ := id hI
  have hl : lv_has ls 1 [(0, .ref (a 13))] := hl
  refine lv_aload_n hx hb dX0_second_0 rfl (lv_at hl 0 rfl) ?_
  refine gB_second hC hB rfl dX0_second_1 ?_
  exact rd_i hC hr hlocks dX0_second_4 (by rfl)
set_option maxHeartbeats 4000000 in
set_option maxRecDepth 100000 in
theorem c_X0_towers (l : Launch) (D : va_G) (cI cQ : ClassId) (a : Nat → Nat) (S : bS) {T R : Nat} (hI : BI S T R) : Rd l yX0_towers cX0_towers 1 (some .int) ({ frames := 0, cells := 0, slots := 0, locals := 0 } : Room) (BW D cI cQ a S) [.ref (a 13)] (.int (nI T)) := by
  refine Rd.of (by decide) (Nat.le_of_ble_eq_true rfl) ?_
  intro p e s m args below meth c ls hC hr hlocks hB hl
  have hx := hC.1
  have hb := hC.2.1
  obtain ⟨hT, hR, hT8, hR6⟩ := id hI
  have hl : lv_has ls 1 [(0, .ref (a 13))] := hl
  refine lv_aload_n hx hb dX0_towers_0 rfl (lv_at hl 0 rfl) ?_
  refine gB_towerCount hC hB hT dX0_towers_1 ?_
  exact rd_i hC hr hlocks dX0_towers_4 (by rfl)
set_option maxHeartbeats 4000000 in
set_option maxRecDepth 100000 in
theorem c_X0_traders (l : Launch) (D : va_G) (cI cQ : ClassId) (a : Nat → Nat) (S : bS) {T R : Nat} (hI : BI S T R) : Rd l yX0_traders cX0_traders 1 (some .int) ({ frames := 0, cells := 0, slots := 0, locals := 0 } : Room) (BW D cI cQ a S) [.ref (a 13)] (.int (nI R)) := by
  refine Rd.of (by decide) (Nat.le_of_ble_eq_true rfl) ?_
  intro p e s m args below meth c ls hC hr hlocks hB hl
  have hx := hC.1
  have hb := hC.2.1
  obtain ⟨hT, hR, hT8, hR6⟩ := id hI
  have hl : lv_has ls 1 [(0, .ref (a 13))] := hl
  refine lv_aload_n hx hb dX0_traders_0 rfl (lv_at hl 0 rfl) ?_
  refine gB_traderCount hC hB hR dX0_traders_1 ?_
  exact rd_i hC hr hlocks dX0_traders_4 (by rfl)
set_option maxHeartbeats 4000000 in
set_option maxRecDepth 100000 in
theorem c_X0_silenceOf (l : Launch) (D : va_G) (cI cQ : ClassId) (a : Nat → Nat) (S : bS) {T R : Nat} {t : Nat} (hI : BI S T R) (ht : t < T) : Rd l yX0_silenceOf cX0_silenceOf 2 (some .int) ({ frames := 1, cells := 0, slots := 0, locals := 21 } : Room) (BW D cI cQ a S) [.ref (a 13), .int (nI t)] (.int (S 2 t)) := by
  refine Rd.of (by decide) (Nat.le_of_ble_eq_true rfl) ?_
  intro p e s m args below meth c ls hC hr hlocks hB hl
  have hx := hC.1
  have hb := hC.2.1
  obtain ⟨hT, hR, hT8, hR6⟩ := id hI
  have hl : lv_has ls 2 [(0, .ref (a 13)), (1, .int (nI t))] := hl
  refine lv_aload_n hx hb dX0_silenceOf_0 rfl (lv_at hl 0 rfl) ?_
  refine lv_iload_n hx hb dX0_silenceOf_1 rfl (lv_at hl 1 rfl) ?_
  refine kn_X0_requireTower hC (c_X0_requireTower l D cI cQ a S hI (t := t) (by omega)) hB rfl ⟨rfl, rfl⟩ ⟨Nat.le_of_ble_eq_true rfl, Nat.le_of_ble_eq_true rfl⟩ ⟨Nat.zero_le _, Nat.zero_le _⟩ hl.1 rfl (Nat.le_of_ble_eq_true rfl) dX0_silenceOf_2 ?_
  refine lv_aload_n hx hb dX0_silenceOf_5 rfl (lv_at hl 0 rfl) ?_
  refine gB_silence hC hB dX0_silenceOf_6 ?_
  refine lv_iload_n hx hb dX0_silenceOf_9 rfl (lv_at hl 1 rfl) ?_
  refine lB_silence (t) hC hB rfl (by omega) rfl dX0_silenceOf_10 ?_
  exact rd_i hC hr hlocks dX0_silenceOf_11 (by rfl)
set_option maxHeartbeats 4000000 in
set_option maxRecDepth 100000 in
theorem c_X0_dovesOn (l : Launch) (D : va_G) (cI cQ : ClassId) (a : Nat → Nat) (S : bS) {T R : Nat} {t : Nat} (hI : BI S T R) (ht : t < T) : Rd l yX0_dovesOn cX0_dovesOn 2 (some .int) ({ frames := 3, cells := 0, slots := 0, locals := 67 } : Room) (BW D cI cQ a S) [.ref (a 13), .int (nI t)] (.int (bDv S R t)) := by
  refine Rd.of (by decide) (Nat.le_of_ble_eq_true rfl) ?_
  intro p e s m args below meth c ls hC hr hlocks hB hl
  have hx := hC.1
  have hb := hC.2.1
  obtain ⟨hT, hR, hT8, hR6⟩ := id hI
  have hl : lv_has ls 2 [(0, .ref (a 13)), (1, .int (nI t))] := hl
  refine lv_aload_n hx hb dX0_dovesOn_0 rfl (lv_at hl 0 rfl) ?_
  refine lv_iload_n hx hb dX0_dovesOn_1 rfl (lv_at hl 1 rfl) ?_
  refine kn_X0_requireTower hC (c_X0_requireTower l D cI cQ a S hI (t := t) (by omega)) hB rfl ⟨rfl, rfl⟩ ⟨Nat.le_of_ble_eq_true rfl, Nat.le_of_ble_eq_true rfl⟩ ⟨Nat.zero_le _, Nat.zero_le _⟩ hl.1 rfl (Nat.le_of_ble_eq_true rfl) dX0_dovesOn_2 ?_
  refine lv_aload_n hx hb dX0_dovesOn_5 rfl (lv_at hl 0 rfl) ?_
  refine lv_iload_n hx hb dX0_dovesOn_6 rfl (lv_at hl 1 rfl) ?_
  refine k_X0_dovesNow hC (c_X0_dovesNow l D cI cQ a S hI (t := t) (by omega)) hB rfl ⟨rfl, rfl⟩ ⟨Nat.le_of_ble_eq_true rfl, Nat.le_of_ble_eq_true rfl⟩ ⟨Nat.zero_le _, Nat.zero_le _⟩ hl.1 rfl (Nat.le_of_ble_eq_true rfl) dX0_dovesOn_7 ?_
  exact rd_i hC hr hlocks dX0_dovesOn_10 (by rfl)
set_option maxHeartbeats 4000000 in
set_option maxRecDepth 100000 in
theorem c_X0_priceOf (l : Launch) (D : va_G) (cI cQ : ClassId) (a : Nat → Nat) (S : bS) {T R : Nat} {t : Nat} (hI : BI S T R) (ht : t < T) : Rd l yX0_priceOf cX0_priceOf 2 (some .int) ({ frames := 4, cells := 0, slots := 0, locals := 88 } : Room) (BW D cI cQ a S) [.ref (a 13), .int (nI t)] (.int (bPr S R t)) := by
  refine Rd.of (by decide) (Nat.le_of_ble_eq_true rfl) ?_
  intro p e s m args below meth c ls hC hr hlocks hB hl
  have hx := hC.1
  have hb := hC.2.1
  obtain ⟨hT, hR, hT8, hR6⟩ := id hI
  have hl : lv_has ls 2 [(0, .ref (a 13)), (1, .int (nI t))] := hl
  refine lv_aload_n hx hb dX0_priceOf_0 rfl (lv_at hl 0 rfl) ?_
  refine lv_iload_n hx hb dX0_priceOf_1 rfl (lv_at hl 1 rfl) ?_
  refine kn_X0_requireTower hC (c_X0_requireTower l D cI cQ a S hI (t := t) (by omega)) hB rfl ⟨rfl, rfl⟩ ⟨Nat.le_of_ble_eq_true rfl, Nat.le_of_ble_eq_true rfl⟩ ⟨Nat.zero_le _, Nat.zero_le _⟩ hl.1 rfl (Nat.le_of_ble_eq_true rfl) dX0_priceOf_2 ?_
  refine lv_aload_n hx hb dX0_priceOf_5 rfl (lv_at hl 0 rfl) ?_
  refine lv_iload_n hx hb dX0_priceOf_6 rfl (lv_at hl 1 rfl) ?_
  refine k_X0_priceNow hC (c_X0_priceNow l D cI cQ a S hI (t := t) (by omega)) hB rfl ⟨rfl, rfl⟩ ⟨Nat.le_of_ble_eq_true rfl, Nat.le_of_ble_eq_true rfl⟩ ⟨Nat.zero_le _, Nat.zero_le _⟩ hl.1 rfl (Nat.le_of_ble_eq_true rfl) dX0_priceOf_7 ?_
  exact rd_i hC hr hlocks dX0_priceOf_10 (by rfl)
set_option maxHeartbeats 4000000 in
set_option maxRecDepth 100000 in
theorem c_X0_secondsUntilStroke (l : Launch) (D : va_G) (cI cQ : ClassId) (a : Nat → Nat) (S : bS) {T R : Nat} {t : Nat} (hI : BI S T R) (ht : t < T) : Rd l yX0_secondsUntilStroke cX0_secondsUntilStroke 2 (some .int) ({ frames := 1, cells := 0, slots := 0, locals := 21 } : Room) (BW D cI cQ a S) [.ref (a 13), .int (nI t)] (.int (S 3 t)) := by
  refine Rd.of (by decide) (Nat.le_of_ble_eq_true rfl) ?_
  intro p e s m args below meth c ls hC hr hlocks hB hl
  have hx := hC.1
  have hb := hC.2.1
  obtain ⟨hT, hR, hT8, hR6⟩ := id hI
  have hl : lv_has ls 2 [(0, .ref (a 13)), (1, .int (nI t))] := hl
  refine lv_aload_n hx hb dX0_secondsUntilStroke_0 rfl (lv_at hl 0 rfl) ?_
  refine lv_iload_n hx hb dX0_secondsUntilStroke_1 rfl (lv_at hl 1 rfl) ?_
  refine kn_X0_requireTower hC (c_X0_requireTower l D cI cQ a S hI (t := t) (by omega)) hB rfl ⟨rfl, rfl⟩ ⟨Nat.le_of_ble_eq_true rfl, Nat.le_of_ble_eq_true rfl⟩ ⟨Nat.zero_le _, Nat.zero_le _⟩ hl.1 rfl (Nat.le_of_ble_eq_true rfl) dX0_secondsUntilStroke_2 ?_
  refine lv_aload_n hx hb dX0_secondsUntilStroke_5 rfl (lv_at hl 0 rfl) ?_
  refine gB_untilStroke hC hB dX0_secondsUntilStroke_6 ?_
  refine lv_iload_n hx hb dX0_secondsUntilStroke_9 rfl (lv_at hl 1 rfl) ?_
  refine lB_untilStroke (t) hC hB rfl (by omega) rfl dX0_secondsUntilStroke_10 ?_
  exact rd_i hC hr hlocks dX0_secondsUntilStroke_11 (by rfl)
set_option maxHeartbeats 4000000 in
set_option maxRecDepth 100000 in
theorem c_X0_strokesOf (l : Launch) (D : va_G) (cI cQ : ClassId) (a : Nat → Nat) (S : bS) {T R : Nat} {t : Nat} (hI : BI S T R) (ht : t < T) : Rd l yX0_strokesOf cX0_strokesOf 2 (some .int) ({ frames := 1, cells := 0, slots := 0, locals := 21 } : Room) (BW D cI cQ a S) [.ref (a 13), .int (nI t)] (.int (S 4 t)) := by
  refine Rd.of (by decide) (Nat.le_of_ble_eq_true rfl) ?_
  intro p e s m args below meth c ls hC hr hlocks hB hl
  have hx := hC.1
  have hb := hC.2.1
  obtain ⟨hT, hR, hT8, hR6⟩ := id hI
  have hl : lv_has ls 2 [(0, .ref (a 13)), (1, .int (nI t))] := hl
  refine lv_aload_n hx hb dX0_strokesOf_0 rfl (lv_at hl 0 rfl) ?_
  refine lv_iload_n hx hb dX0_strokesOf_1 rfl (lv_at hl 1 rfl) ?_
  refine kn_X0_requireTower hC (c_X0_requireTower l D cI cQ a S hI (t := t) (by omega)) hB rfl ⟨rfl, rfl⟩ ⟨Nat.le_of_ble_eq_true rfl, Nat.le_of_ble_eq_true rfl⟩ ⟨Nat.zero_le _, Nat.zero_le _⟩ hl.1 rfl (Nat.le_of_ble_eq_true rfl) dX0_strokesOf_2 ?_
  refine lv_aload_n hx hb dX0_strokesOf_5 rfl (lv_at hl 0 rfl) ?_
  refine gB_strokes hC hB dX0_strokesOf_6 ?_
  refine lv_iload_n hx hb dX0_strokesOf_9 rfl (lv_at hl 1 rfl) ?_
  refine lB_strokes (t) hC hB rfl (by omega) rfl dX0_strokesOf_10 ?_
  exact rd_i hC hr hlocks dX0_strokesOf_11 (by rfl)
set_option maxHeartbeats 4000000 in
set_option maxRecDepth 100000 in
theorem c_X0_openSeconds (l : Launch) (D : va_G) (cI cQ : ClassId) (a : Nat → Nat) (S : bS) {T R : Nat} {t : Nat} (hI : BI S T R) (ht : t < T) : Rd l yX0_openSeconds cX0_openSeconds 2 (some .int) ({ frames := 1, cells := 0, slots := 0, locals := 23 } : Room) (BW D cI cQ a S) [.ref (a 13), .int (nI t)] (.int (bOp S R t)) := by
  refine Rd.of (by decide) (Nat.le_of_ble_eq_true rfl) ?_
  intro p e s m args below meth c ls hC hr hlocks hB hl
  have hx := hC.1
  have hb := hC.2.1
  obtain ⟨hT, hR, hT8, hR6⟩ := id hI
  have hl : lv_has ls 2 [(0, .ref (a 13)), (1, .int (nI t))] := hl
  refine lv_aload_n hx hb dX0_openSeconds_0 rfl (lv_at hl 0 rfl) ?_
  refine lv_iload_n hx hb dX0_openSeconds_1 rfl (lv_at hl 1 rfl) ?_
  refine kn_X0_requireTower hC (c_X0_requireTower l D cI cQ a S hI (t := t) (by omega)) hB rfl ⟨rfl, rfl⟩ ⟨Nat.le_of_ble_eq_true rfl, Nat.le_of_ble_eq_true rfl⟩ ⟨Nat.zero_le _, Nat.zero_le _⟩ hl.1 rfl (Nat.le_of_ble_eq_true rfl) dX0_openSeconds_2 ?_
  refine lv_aload_n hx hb dX0_openSeconds_5 rfl (lv_at hl 0 rfl) ?_
  refine lv_iload_n hx hb dX0_openSeconds_6 rfl (lv_at hl 1 rfl) ?_
  refine k_X0_heldByAll hC (c_X0_heldByAll l D cI cQ a S hI (t := t) (by omega)) hB rfl ⟨rfl, rfl⟩ ⟨Nat.le_of_ble_eq_true rfl, Nat.le_of_ble_eq_true rfl⟩ ⟨Nat.zero_le _, Nat.zero_le _⟩ hl.1 rfl (Nat.le_of_ble_eq_true rfl) dX0_openSeconds_7 ?_
  exact rd_i hC hr hlocks dX0_openSeconds_10 (by rfl)
set_option maxHeartbeats 4000000 in
set_option maxRecDepth 100000 in
theorem c_X0_closingPrice (l : Launch) (D : va_G) (cI cQ : ClassId) (a : Nat → Nat) (S : bS) {T R : Nat} {t : Nat} (hI : BI S T R) (ht : t < T) : Rd l yX0_closingPrice cX0_closingPrice 2 (some .int) ({ frames := 4, cells := 0, slots := 0, locals := 89 } : Room) (BW D cI cQ a S) [.ref (a 13), .int (nI t)] (.int (bCl S R t)) := by
  refine Rd.of (by decide) (Nat.le_of_ble_eq_true rfl) ?_
  intro p e s m args below meth c ls hC hr hlocks hB hl
  have hx := hC.1
  have hb := hC.2.1
  obtain ⟨hT, hR, hT8, hR6⟩ := id hI
  have hl : lv_has ls 2 [(0, .ref (a 13)), (1, .int (nI t))] := hl
  refine lv_aload_n hx hb dX0_closingPrice_0 rfl (lv_at hl 0 rfl) ?_
  refine lv_iload_n hx hb dX0_closingPrice_1 rfl (lv_at hl 1 rfl) ?_
  refine kn_X0_requireTower hC (c_X0_requireTower l D cI cQ a S hI (t := t) (by omega)) hB rfl ⟨rfl, rfl⟩ ⟨Nat.le_of_ble_eq_true rfl, Nat.le_of_ble_eq_true rfl⟩ ⟨Nat.zero_le _, Nat.zero_le _⟩ hl.1 rfl (Nat.le_of_ble_eq_true rfl) dX0_closingPrice_2 ?_
  refine lv_aload_n hx hb dX0_closingPrice_5 rfl (lv_at hl 0 rfl) ?_
  refine lv_iload_n hx hb dX0_closingPrice_6 rfl (lv_at hl 1 rfl) ?_
  refine k_X0_closing hC (c_X0_closing l D cI cQ a S hI (t := t) (by omega)) hB rfl ⟨rfl, rfl⟩ ⟨Nat.le_of_ble_eq_true rfl, Nat.le_of_ble_eq_true rfl⟩ ⟨Nat.zero_le _, Nat.zero_le _⟩ hl.1 rfl (Nat.le_of_ble_eq_true rfl) dX0_closingPrice_7 ?_
  exact rd_i hC hr hlocks dX0_closingPrice_10 (by rfl)
set_option maxHeartbeats 4000000 in
set_option maxRecDepth 100000 in
theorem c_X0_purseOf (l : Launch) (D : va_G) (cI cQ : ClassId) (a : Nat → Nat) (S : bS) {T R : Nat} {r : Nat} (hI : BI S T R) (hr9 : r < R) : Rd l yX0_purseOf cX0_purseOf 2 (some .int) ({ frames := 1, cells := 0, slots := 0, locals := 21 } : Room) (BW D cI cQ a S) [.ref (a 13), .int (nI r)] (.int (S 5 r)) := by
  refine Rd.of (by decide) (Nat.le_of_ble_eq_true rfl) ?_
  intro p e s m args below meth c ls hC hr hlocks hB hl
  have hx := hC.1
  have hb := hC.2.1
  obtain ⟨hT, hR, hT8, hR6⟩ := id hI
  have hl : lv_has ls 2 [(0, .ref (a 13)), (1, .int (nI r))] := hl
  refine lv_aload_n hx hb dX0_purseOf_0 rfl (lv_at hl 0 rfl) ?_
  refine lv_iload_n hx hb dX0_purseOf_1 rfl (lv_at hl 1 rfl) ?_
  refine kn_X0_requireTrader hC (c_X0_requireTrader l D cI cQ a S hI (r := r) (by omega)) hB rfl ⟨rfl, rfl⟩ ⟨Nat.le_of_ble_eq_true rfl, Nat.le_of_ble_eq_true rfl⟩ ⟨Nat.zero_le _, Nat.zero_le _⟩ hl.1 rfl (Nat.le_of_ble_eq_true rfl) dX0_purseOf_2 ?_
  refine lv_aload_n hx hb dX0_purseOf_5 rfl (lv_at hl 0 rfl) ?_
  refine gB_purse hC hB dX0_purseOf_6 ?_
  refine lv_iload_n hx hb dX0_purseOf_9 rfl (lv_at hl 1 rfl) ?_
  refine lB_purse (r) hC hB rfl (by omega) rfl dX0_purseOf_10 ?_
  exact rd_i hC hr hlocks dX0_purseOf_11 (by rfl)
set_option maxHeartbeats 4000000 in
set_option maxRecDepth 100000 in
theorem c_X0_worthOf (l : Launch) (D : va_G) (cI cQ : ClassId) (a : Nat → Nat) (S : bS) {T R : Nat} {r : Nat} (hI : BI S T R) (hr9 : r < R) : Rd l yX0_worthOf cX0_worthOf 2 (some .int) ({ frames := 5, cells := 0, slots := 0, locals := 118 } : Room) (BW D cI cQ a S) [.ref (a 13), .int (nI r)] (.int (bWb S T R r 0)) := by
  refine Rd.of (by decide) (Nat.le_of_ble_eq_true rfl) ?_
  intro p e s m args below meth c ls hC hr hlocks hB hl
  have hx := hC.1
  have hb := hC.2.1
  obtain ⟨hT, hR, hT8, hR6⟩ := id hI
  have hl : lv_has ls 2 [(0, .ref (a 13)), (1, .int (nI r))] := hl
  refine lv_aload_n hx hb dX0_worthOf_0 rfl (lv_at hl 0 rfl) ?_
  refine lv_iload_n hx hb dX0_worthOf_1 rfl (lv_at hl 1 rfl) ?_
  refine kn_X0_requireTrader hC (c_X0_requireTrader l D cI cQ a S hI (r := r) (by omega)) hB rfl ⟨rfl, rfl⟩ ⟨Nat.le_of_ble_eq_true rfl, Nat.le_of_ble_eq_true rfl⟩ ⟨Nat.zero_le _, Nat.zero_le _⟩ hl.1 rfl (Nat.le_of_ble_eq_true rfl) dX0_worthOf_2 ?_
  refine lv_aload_n hx hb dX0_worthOf_5 rfl (lv_at hl 0 rfl) ?_
  refine lv_iload_n hx hb dX0_worthOf_6 rfl (lv_at hl 1 rfl) ?_
  refine lv_iconst (v := 0) hx hb dX0_worthOf_7 (by decide) ?_
  refine k_X0_worthBehind hC (c_X0_worthBehind l D cI cQ a S hI (r := r) (k := 0) (by omega)) hB rfl ⟨rfl, rfl⟩ ⟨Nat.le_of_ble_eq_true rfl, Nat.le_of_ble_eq_true rfl⟩ ⟨Nat.zero_le _, Nat.zero_le _⟩ hl.1 rfl (Nat.le_of_ble_eq_true rfl) dX0_worthOf_8 ?_
  exact rd_i hC hr hlocks dX0_worthOf_11 (by rfl)
set_option maxHeartbeats 4000000 in
set_option maxRecDepth 100000 in
theorem c_X0_shortsOf (l : Launch) (D : va_G) (cI cQ : ClassId) (a : Nat → Nat) (S : bS) {T R : Nat} {r : Nat} (hI : BI S T R) (hr9 : r < R) : Rd l yX0_shortsOf cX0_shortsOf 2 (some .int) ({ frames := 1, cells := 0, slots := 0, locals := 23 } : Room) (BW D cI cQ a S) [.ref (a 13), .int (nI r)] (.int (bSh S T r)) := by
  refine Rd.of (by decide) (Nat.le_of_ble_eq_true rfl) ?_
  intro p e s m args below meth c ls hC hr hlocks hB hl
  have hx := hC.1
  have hb := hC.2.1
  obtain ⟨hT, hR, hT8, hR6⟩ := id hI
  have hl : lv_has ls 2 [(0, .ref (a 13)), (1, .int (nI r))] := hl
  refine lv_aload_n hx hb dX0_shortsOf_0 rfl (lv_at hl 0 rfl) ?_
  refine lv_iload_n hx hb dX0_shortsOf_1 rfl (lv_at hl 1 rfl) ?_
  refine kn_X0_requireTrader hC (c_X0_requireTrader l D cI cQ a S hI (r := r) (by omega)) hB rfl ⟨rfl, rfl⟩ ⟨Nat.le_of_ble_eq_true rfl, Nat.le_of_ble_eq_true rfl⟩ ⟨Nat.zero_le _, Nat.zero_le _⟩ hl.1 rfl (Nat.le_of_ble_eq_true rfl) dX0_shortsOf_2 ?_
  refine lv_aload_n hx hb dX0_shortsOf_5 rfl (lv_at hl 0 rfl) ?_
  refine lv_iload_n hx hb dX0_shortsOf_6 rfl (lv_at hl 1 rfl) ?_
  refine k_X0_shortTowers hC (c_X0_shortTowers l D cI cQ a S hI (r := r) (by omega)) hB rfl ⟨rfl, rfl⟩ ⟨Nat.le_of_ble_eq_true rfl, Nat.le_of_ble_eq_true rfl⟩ ⟨Nat.zero_le _, Nat.zero_le _⟩ hl.1 rfl (Nat.le_of_ble_eq_true rfl) dX0_shortsOf_7 ?_
  exact rd_i hC hr hlocks dX0_shortsOf_10 (by rfl)
set_option maxHeartbeats 4000000 in
set_option maxRecDepth 100000 in
theorem c_X0_holds (l : Launch) (D : va_G) (cI cQ : ClassId) (a : Nat → Nat) (S : bS) {T R : Nat} {r t : Nat} (hI : BI S T R) (hr9 : r < R) (ht : t < T) : Rd l yX0_holds cX0_holds 3 (some .int) ({ frames := 1, cells := 0, slots := 0, locals := 21 } : Room) (BW D cI cQ a S) [.ref (a 13), .int (nI r), .int (nI t)] (.int (S (7 + r) t)) := by
  refine Rd.of (by decide) (Nat.le_of_ble_eq_true rfl) ?_
  intro p e s m args below meth c ls hC hr hlocks hB hl
  have hx := hC.1
  have hb := hC.2.1
  obtain ⟨hT, hR, hT8, hR6⟩ := id hI
  have hl : lv_has ls 3 [(0, .ref (a 13)), (1, .int (nI r)), (2, .int (nI t))] := hl
  refine lv_aload_n hx hb dX0_holds_0 rfl (lv_at hl 0 rfl) ?_
  refine lv_iload_n hx hb dX0_holds_1 rfl (lv_at hl 1 rfl) ?_
  refine kn_X0_requireTrader hC (c_X0_requireTrader l D cI cQ a S hI (r := r) (by omega)) hB rfl ⟨rfl, rfl⟩ ⟨Nat.le_of_ble_eq_true rfl, Nat.le_of_ble_eq_true rfl⟩ ⟨Nat.zero_le _, Nat.zero_le _⟩ hl.1 rfl (Nat.le_of_ble_eq_true rfl) dX0_holds_2 ?_
  refine lv_aload_n hx hb dX0_holds_5 rfl (lv_at hl 0 rfl) ?_
  refine lv_iload_n hx hb dX0_holds_6 rfl (lv_at hl 2 rfl) ?_
  refine kn_X0_requireTower hC (c_X0_requireTower l D cI cQ a S hI (t := t) (by omega)) hB rfl ⟨rfl, rfl⟩ ⟨Nat.le_of_ble_eq_true rfl, Nat.le_of_ble_eq_true rfl⟩ ⟨Nat.zero_le _, Nat.zero_le _⟩ hl.1 rfl (Nat.le_of_ble_eq_true rfl) dX0_holds_7 ?_
  refine lv_aload_n hx hb dX0_holds_10 rfl (lv_at hl 0 rfl) ?_
  refine gB_held hC hB dX0_holds_11 ?_
  refine lv_iload_n hx hb dX0_holds_14 rfl (lv_at hl 1 rfl) ?_
  refine lB_row (r) hC hB rfl (by omega) dX0_holds_15 ?_
  refine lv_iload_n hx hb dX0_holds_16 rfl (lv_at hl 2 rfl) ?_
  refine lB_held (r) (t) hC hB (by omega) rfl (by omega) rfl dX0_holds_17 ?_
  exact rd_i hC hr hlocks dX0_holds_18 (by rfl)
set_option maxHeartbeats 4000000 in
set_option maxRecDepth 100000 in
theorem c_X0_priceIn (l : Launch) (D : va_G) (cI cQ : ClassId) (a : Nat → Nat) (S : bS) {T R : Nat} {t k : Nat} (hI : BI S T R) (ht : t < T) (hk1 : 1 ≤ k) (hk9 : k ≤ 60) : Rd l yX0_priceIn cX0_priceIn 3 (some .int) ({ frames := 4, cells := 0, slots := 0, locals := 92 } : Room) (BW D cI cQ a S) [.ref (a 13), .int (nI t), .int (nI k)] (.int (bPb S R t k)) := by
  refine Rd.of (by decide) (Nat.le_of_ble_eq_true rfl) ?_
  intro p e s m args below meth c ls hC hr hlocks hB hl
  have hx := hC.1
  have hb := hC.2.1
  obtain ⟨hT, hR, hT8, hR6⟩ := id hI
  have hl : lv_has ls 3 [(0, .ref (a 13)), (1, .int (nI t)), (2, .int (nI k))] := hl
  refine lv_aload_n hx hb dX0_priceIn_0 rfl (lv_at hl 0 rfl) ?_
  refine lv_iload_n hx hb dX0_priceIn_1 rfl (lv_at hl 1 rfl) ?_
  refine kn_X0_requireTower hC (c_X0_requireTower l D cI cQ a S hI (t := t) (by omega)) hB rfl ⟨rfl, rfl⟩ ⟨Nat.le_of_ble_eq_true rfl, Nat.le_of_ble_eq_true rfl⟩ ⟨Nat.zero_le _, Nat.zero_le _⟩ hl.1 rfl (Nat.le_of_ble_eq_true rfl) dX0_priceIn_2 ?_
  refine lv_iload_n hx hb dX0_priceIn_5 rfl (lv_at hl 2 rfl) ?_
  refine kn_X0_requirePassable hC (c_X0_requirePassable l (k := k) (by omega) (by omega)) mov_T trivial rfl ⟨rfl, rfl⟩ ⟨Nat.le_of_ble_eq_true rfl, Nat.le_of_ble_eq_true rfl⟩ ⟨Nat.zero_le _, Nat.zero_le _⟩ hl.1 rfl (Nat.le_of_ble_eq_true rfl) dX0_priceIn_6 ?_
  refine lv_aload_n hx hb dX0_priceIn_9 rfl (lv_at hl 0 rfl) ?_
  refine lv_iload_n hx hb dX0_priceIn_10 rfl (lv_at hl 1 rfl) ?_
  refine lv_iload_n hx hb dX0_priceIn_11 rfl (lv_at hl 2 rfl) ?_
  refine k_X0_priceBehind hC (c_X0_priceBehind l D cI cQ a S hI (t := t) (k := k) (by omega)) hB rfl ⟨rfl, rfl⟩ ⟨Nat.le_of_ble_eq_true rfl, Nat.le_of_ble_eq_true rfl⟩ ⟨Nat.zero_le _, Nat.zero_le _⟩ hl.1 rfl (Nat.le_of_ble_eq_true rfl) dX0_priceIn_12 ?_
  exact rd_i hC hr hlocks dX0_priceIn_15 (by rfl)
set_option maxHeartbeats 4000000 in
set_option maxRecDepth 100000 in
theorem c_X0_worthIn (l : Launch) (D : va_G) (cI cQ : ClassId) (a : Nat → Nat) (S : bS) {T R : Nat} {r k : Nat} (hI : BI S T R) (hr9 : r < R) (hk1 : 1 ≤ k) (hk9 : k ≤ 60) : Rd l yX0_worthIn cX0_worthIn 3 (some .int) ({ frames := 5, cells := 0, slots := 0, locals := 118 } : Room) (BW D cI cQ a S) [.ref (a 13), .int (nI r), .int (nI k)] (.int (bWb S T R r k)) := by
  refine Rd.of (by decide) (Nat.le_of_ble_eq_true rfl) ?_
  intro p e s m args below meth c ls hC hr hlocks hB hl
  have hx := hC.1
  have hb := hC.2.1
  obtain ⟨hT, hR, hT8, hR6⟩ := id hI
  have hl : lv_has ls 3 [(0, .ref (a 13)), (1, .int (nI r)), (2, .int (nI k))] := hl
  refine lv_aload_n hx hb dX0_worthIn_0 rfl (lv_at hl 0 rfl) ?_
  refine lv_iload_n hx hb dX0_worthIn_1 rfl (lv_at hl 1 rfl) ?_
  refine kn_X0_requireTrader hC (c_X0_requireTrader l D cI cQ a S hI (r := r) (by omega)) hB rfl ⟨rfl, rfl⟩ ⟨Nat.le_of_ble_eq_true rfl, Nat.le_of_ble_eq_true rfl⟩ ⟨Nat.zero_le _, Nat.zero_le _⟩ hl.1 rfl (Nat.le_of_ble_eq_true rfl) dX0_worthIn_2 ?_
  refine lv_iload_n hx hb dX0_worthIn_5 rfl (lv_at hl 2 rfl) ?_
  refine kn_X0_requirePassable hC (c_X0_requirePassable l (k := k) (by omega) (by omega)) mov_T trivial rfl ⟨rfl, rfl⟩ ⟨Nat.le_of_ble_eq_true rfl, Nat.le_of_ble_eq_true rfl⟩ ⟨Nat.zero_le _, Nat.zero_le _⟩ hl.1 rfl (Nat.le_of_ble_eq_true rfl) dX0_worthIn_6 ?_
  refine lv_aload_n hx hb dX0_worthIn_9 rfl (lv_at hl 0 rfl) ?_
  refine lv_iload_n hx hb dX0_worthIn_10 rfl (lv_at hl 1 rfl) ?_
  refine lv_iload_n hx hb dX0_worthIn_11 rfl (lv_at hl 2 rfl) ?_
  refine k_X0_worthBehind hC (c_X0_worthBehind l D cI cQ a S hI (r := r) (k := k) (by omega)) hB rfl ⟨rfl, rfl⟩ ⟨Nat.le_of_ble_eq_true rfl, Nat.le_of_ble_eq_true rfl⟩ ⟨Nat.zero_le _, Nat.zero_le _⟩ hl.1 rfl (Nat.le_of_ble_eq_true rfl) dX0_worthIn_12 ?_
  exact rd_i hC hr hlocks dX0_worthIn_15 (by rfl)
set_option maxHeartbeats 4000000 in
set_option maxRecDepth 100000 in
theorem c_X0_dearest (l : Launch) (D : va_G) (cI cQ : ClassId) (a : Nat → Nat) (S : bS) {T R : Nat} (hI : BI S T R) : Rd l yX0_dearest cX0_dearest 3 (some .int) ({ frames := 4, cells := 0, slots := 0, locals := 88 } : Room) (BW D cI cQ a S) [.ref (a 13)] (.int (oI (bDe S T R))) := by
  refine Rd.of (by decide) (Nat.le_of_ble_eq_true rfl) ?_
  intro p e s m args below meth c ls hC hr hlocks hB hl
  have hx := hC.1
  have hb := hC.2.1
  obtain ⟨hT, hR, hT8, hR6⟩ := id hI
  have hl : lv_has ls 3 [(0, .ref (a 13))] := hl
  refine lv_iconst (v := -1) hx hb dX0_dearest_0 (by decide) ?_
  refine lv_istore_n (lv' := [(1, .int (-1)), (0, .ref (a 13))]) hx hb dX0_dearest_1 rfl hl (by decide) rfl (fun ls hl => ?_)
  refine lv_iconst (v := 0) hx hb dX0_dearest_2 (by decide) ?_
  refine lv_istore_n (lv' := [(2, .int (0)), (1, .int (-1)), (0, .ref (a 13))]) hx hb dX0_dearest_3 rfl hl (by decide) rfl (fun ls hl => ?_)
  refine loopU (P := fun i => ∀ ls : Array Slot, lv_has ls 3 [(2, .int (nI i)), (1, .int (oI (amx (bPr S R) i))), (0, .ref (a 13))] → W p l e ({ frames := 4, cells := 0, slots := 0, locals := 88 } : Room) s m args below meth c s.heap [] 0 0 (MQ below (k2_QcV (.int (oI (bDe S T R)))) args s 0 0 (fun _ => False)) (F0 m 4 ls [])) (T) ?_ ?_ 0 (by omega) ls (by first | exact lv_sub hl [0, 1, 2] rfl | (simpa using lv_sub hl [0, 1, 2] rfl))
  · intro ls hl
    refine lv_iload_n hx hb dX0_dearest_4 rfl (lv_at hl 0 rfl) ?_
    refine lv_aload_n hx hb dX0_dearest_5 rfl (lv_at hl 2 rfl) ?_
    refine gB_towerCount hC hB hT dX0_dearest_6 ?_
    refine jge (i := T) (j := T) (tgt := 37) hC dX0_dearest_9 (by decide) rfl rfl (by omega) (by omega) (fun c1 => ?_) (fun c1 => ?_)
    · refine lv_iload_n hx hb dX0_dearest_37 rfl (lv_at hl 1 rfl) ?_
      exact rd_i hC hr hlocks dX0_dearest_38 (by rfl)
    · exfalso; omega
  · intro i hi ih ls hl
    rcases hq : amx (bPr S R) i with _ | b9
    · rw [hq] at hl
      have hl : lv_has ls 3 [(2, .int (nI i)), (1, .int (-1)), (0, .ref (a 13))] := hl
      refine lv_iload_n hx hb dX0_dearest_4 rfl (lv_at hl 0 rfl) ?_
      refine lv_aload_n hx hb dX0_dearest_5 rfl (lv_at hl 2 rfl) ?_
      refine gB_towerCount hC hB hT dX0_dearest_6 ?_
      refine jge (i := i) (j := T) (tgt := 37) hC dX0_dearest_9 (by decide) rfl rfl (by omega) (by omega) (fun c2 => ?_) (fun c2 => ?_)
      · exfalso; omega
      · refine lv_iload_n hx hb dX0_dearest_12 rfl (lv_at hl 1 rfl) ?_
        refine lv_if_lt (tgt := 29) hx hb dX0_dearest_13 (by decide) (fun c3 => ?_) (fun c3 => ?_)
        · refine lv_iload_n hx hb dX0_dearest_29 rfl (lv_at hl 0 rfl) ?_
          refine lv_istore_n (lv' := [(1, .int (nI i)), (2, .int (nI i)), (0, .ref (a 13))]) hx hb dX0_dearest_30 rfl hl (by decide) rfl (fun ls hl => ?_)
          refine lv_iinc (v := nI (i + 1)) (lv' := [(2, .int (nI (i + 1))), (1, .int (nI i)), (0, .ref (a 13))]) hx hb dX0_dearest_31 hl (k := 1) rfl (ninc i) (by decide) rfl (fun ls hl => ?_)
          refine lv_goto (tgt := 4) hx hb dX0_dearest_34 (by decide) ?_
          have e4 : oI (amx (bPr S R) (i + 1)) = nI i := by rw [amx_none hq] <;> rfl
          exact ih ls (by rw [e4]; exact lv_sub hl [0, 1, 2] rfl)
        · exfalso; revert c3; decide
    · rw [hq] at hl
      have hl : lv_has ls 3 [(2, .int (nI i)), (1, .int (nI b9)), (0, .ref (a 13))] := hl
      have hb9 := amx_lt i hq
      refine lv_iload_n hx hb dX0_dearest_4 rfl (lv_at hl 0 rfl) ?_
      refine lv_aload_n hx hb dX0_dearest_5 rfl (lv_at hl 2 rfl) ?_
      refine gB_towerCount hC hB hT dX0_dearest_6 ?_
      refine jge (i := i) (j := T) (tgt := 37) hC dX0_dearest_9 (by decide) rfl rfl (by omega) (by omega) (fun c5 => ?_) (fun c5 => ?_)
      · exfalso; omega
      · refine lv_iload_n hx hb dX0_dearest_12 rfl (lv_at hl 1 rfl) ?_
        refine lv_if_lt (tgt := 29) hx hb dX0_dearest_13 (by decide) (fun c6 => ?_) (fun c6 => ?_)
        · exfalso; exact absurd c6 (nI_pos (by omega))
        · refine lv_aload_n hx hb dX0_dearest_16 rfl (lv_at hl 2 rfl) ?_
          refine lv_iload_n hx hb dX0_dearest_17 rfl (lv_at hl 0 rfl) ?_
          refine k_X0_priceNow hC (c_X0_priceNow l D cI cQ a S hI (t := i) (by omega)) hB rfl ⟨rfl, rfl⟩ ⟨Nat.le_of_ble_eq_true rfl, Nat.le_of_ble_eq_true rfl⟩ ⟨Nat.zero_le _, Nat.zero_le _⟩ hl.1 rfl (Nat.le_of_ble_eq_true rfl) dX0_dearest_18 ?_
          refine lv_aload_n hx hb dX0_dearest_21 rfl (lv_at hl 2 rfl) ?_
          refine lv_iload_n hx hb dX0_dearest_22 rfl (lv_at hl 1 rfl) ?_
          refine k_X0_priceNow hC (c_X0_priceNow l D cI cQ a S hI (t := b9) (by omega)) hB rfl ⟨rfl, rfl⟩ ⟨Nat.le_of_ble_eq_true rfl, Nat.le_of_ble_eq_true rfl⟩ ⟨Nat.zero_le _, Nat.zero_le _⟩ hl.1 rfl (Nat.le_of_ble_eq_true rfl) dX0_dearest_23 ?_
          refine lv_icmp_le (tgt := 31) hx hb dX0_dearest_26 (by decide) (fun c7 => ?_) (fun c7 => ?_)
          · refine lv_iinc (v := nI (i + 1)) (lv' := [(2, .int (nI (i + 1))), (1, .int (nI b9)), (0, .ref (a 13))]) hx hb dX0_dearest_31 hl (k := 0) rfl (ninc i) (by decide) rfl (fun ls hl => ?_)
            refine lv_goto (tgt := 4) hx hb dX0_dearest_34 (by decide) ?_
            have e8 : oI (amx (bPr S R) (i + 1)) = nI b9 := by rw [amx_keep hq c7] <;> rfl
            exact ih ls (by rw [e8]; exact lv_sub hl [0, 1, 2] rfl)
          · refine lv_iload_n hx hb dX0_dearest_29 rfl (lv_at hl 0 rfl) ?_
            refine lv_istore_n (lv' := [(1, .int (nI i)), (2, .int (nI i)), (0, .ref (a 13))]) hx hb dX0_dearest_30 rfl hl (by decide) rfl (fun ls hl => ?_)
            refine lv_iinc (v := nI (i + 1)) (lv' := [(2, .int (nI (i + 1))), (1, .int (nI i)), (0, .ref (a 13))]) hx hb dX0_dearest_31 hl (k := 1) rfl (ninc i) (by decide) rfl (fun ls hl => ?_)
            refine lv_goto (tgt := 4) hx hb dX0_dearest_34 (by decide) ?_
            have e9 : oI (amx (bPr S R) (i + 1)) = nI i := by rw [amx_new hq c7] <;> rfl
            exact ih ls (by rw [e9]; exact lv_sub hl [0, 1, 2] rfl)
set_option maxHeartbeats 4000000 in
set_option maxRecDepth 100000 in
theorem c_X0_nextToStrike (l : Launch) (D : va_G) (cI cQ : ClassId) (a : Nat → Nat) (S : bS) {T R : Nat} (hI : BI S T R) : Rd l yX0_nextToStrike cX0_nextToStrike 3 (some .int) ({ frames := 0, cells := 0, slots := 0, locals := 0 } : Room) (BW D cI cQ a S) [.ref (a 13)] (.int (oI (bNx S T))) := by
  refine Rd.of (by decide) (Nat.le_of_ble_eq_true rfl) ?_
  intro p e s m args below meth c ls hC hr hlocks hB hl
  have hx := hC.1
  have hb := hC.2.1
  obtain ⟨hT, hR, hT8, hR6⟩ := id hI
  have hl : lv_has ls 3 [(0, .ref (a 13))] := hl
  refine lv_iconst (v := -1) hx hb dX0_nextToStrike_0 (by decide) ?_
  refine lv_istore_n (lv' := [(1, .int (-1)), (0, .ref (a 13))]) hx hb dX0_nextToStrike_1 rfl hl (by decide) rfl (fun ls hl => ?_)
  refine lv_iconst (v := 0) hx hb dX0_nextToStrike_2 (by decide) ?_
  refine lv_istore_n (lv' := [(2, .int (0)), (1, .int (-1)), (0, .ref (a 13))]) hx hb dX0_nextToStrike_3 rfl hl (by decide) rfl (fun ls hl => ?_)
  refine loopU (P := fun i => ∀ ls : Array Slot, lv_has ls 3 [(2, .int (nI i)), (1, .int (oI (amn (S 3) i))), (0, .ref (a 13))] → W p l e ({ frames := 0, cells := 0, slots := 0, locals := 0 } : Room) s m args below meth c s.heap [] 0 0 (MQ below (k2_QcV (.int (oI (bNx S T)))) args s 0 0 (fun _ => False)) (F0 m 4 ls [])) (T) ?_ ?_ 0 (by omega) ls (by first | exact lv_sub hl [0, 1, 2] rfl | (simpa using lv_sub hl [0, 1, 2] rfl))
  · intro ls hl
    refine lv_iload_n hx hb dX0_nextToStrike_4 rfl (lv_at hl 0 rfl) ?_
    refine lv_aload_n hx hb dX0_nextToStrike_5 rfl (lv_at hl 2 rfl) ?_
    refine gB_towerCount hC hB hT dX0_nextToStrike_6 ?_
    refine jge (i := T) (j := T) (tgt := 39) hC dX0_nextToStrike_9 (by decide) rfl rfl (by omega) (by omega) (fun c1 => ?_) (fun c1 => ?_)
    · refine lv_iload_n hx hb dX0_nextToStrike_39 rfl (lv_at hl 1 rfl) ?_
      exact rd_i hC hr hlocks dX0_nextToStrike_40 (by rfl)
    · exfalso; omega
  · intro i hi ih ls hl
    rcases hq : amn (S 3) i with _ | b9
    · rw [hq] at hl
      have hl : lv_has ls 3 [(2, .int (nI i)), (1, .int (-1)), (0, .ref (a 13))] := hl
      refine lv_iload_n hx hb dX0_nextToStrike_4 rfl (lv_at hl 0 rfl) ?_
      refine lv_aload_n hx hb dX0_nextToStrike_5 rfl (lv_at hl 2 rfl) ?_
      refine gB_towerCount hC hB hT dX0_nextToStrike_6 ?_
      refine jge (i := i) (j := T) (tgt := 39) hC dX0_nextToStrike_9 (by decide) rfl rfl (by omega) (by omega) (fun c2 => ?_) (fun c2 => ?_)
      · exfalso; omega
      · refine lv_iload_n hx hb dX0_nextToStrike_12 rfl (lv_at hl 1 rfl) ?_
        refine lv_if_lt (tgt := 31) hx hb dX0_nextToStrike_13 (by decide) (fun c3 => ?_) (fun c3 => ?_)
        · refine lv_iload_n hx hb dX0_nextToStrike_31 rfl (lv_at hl 0 rfl) ?_
          refine lv_istore_n (lv' := [(1, .int (nI i)), (2, .int (nI i)), (0, .ref (a 13))]) hx hb dX0_nextToStrike_32 rfl hl (by decide) rfl (fun ls hl => ?_)
          refine lv_iinc (v := nI (i + 1)) (lv' := [(2, .int (nI (i + 1))), (1, .int (nI i)), (0, .ref (a 13))]) hx hb dX0_nextToStrike_33 hl (k := 1) rfl (ninc i) (by decide) rfl (fun ls hl => ?_)
          refine lv_goto (tgt := 4) hx hb dX0_nextToStrike_36 (by decide) ?_
          have e4 : oI (amn (S 3) (i + 1)) = nI i := by rw [amn_none hq] <;> rfl
          exact ih ls (by rw [e4]; exact lv_sub hl [0, 1, 2] rfl)
        · exfalso; revert c3; decide
    · rw [hq] at hl
      have hl : lv_has ls 3 [(2, .int (nI i)), (1, .int (nI b9)), (0, .ref (a 13))] := hl
      have hb9 := amn_lt i hq
      refine lv_iload_n hx hb dX0_nextToStrike_4 rfl (lv_at hl 0 rfl) ?_
      refine lv_aload_n hx hb dX0_nextToStrike_5 rfl (lv_at hl 2 rfl) ?_
      refine gB_towerCount hC hB hT dX0_nextToStrike_6 ?_
      refine jge (i := i) (j := T) (tgt := 39) hC dX0_nextToStrike_9 (by decide) rfl rfl (by omega) (by omega) (fun c5 => ?_) (fun c5 => ?_)
      · exfalso; omega
      · refine lv_iload_n hx hb dX0_nextToStrike_12 rfl (lv_at hl 1 rfl) ?_
        refine lv_if_lt (tgt := 31) hx hb dX0_nextToStrike_13 (by decide) (fun c6 => ?_) (fun c6 => ?_)
        · exfalso; exact absurd c6 (nI_pos (by omega))
        · refine lv_aload_n hx hb dX0_nextToStrike_16 rfl (lv_at hl 2 rfl) ?_
          refine gB_untilStroke hC hB dX0_nextToStrike_17 ?_
          refine lv_iload_n hx hb dX0_nextToStrike_20 rfl (lv_at hl 0 rfl) ?_
          refine lB_untilStroke (i) hC hB rfl (by omega) rfl dX0_nextToStrike_21 ?_
          refine lv_aload_n hx hb dX0_nextToStrike_22 rfl (lv_at hl 2 rfl) ?_
          refine gB_untilStroke hC hB dX0_nextToStrike_23 ?_
          refine lv_iload_n hx hb dX0_nextToStrike_26 rfl (lv_at hl 1 rfl) ?_
          refine lB_untilStroke (b9) hC hB rfl (by omega) rfl dX0_nextToStrike_27 ?_
          refine lv_icmp_ge (tgt := 33) hx hb dX0_nextToStrike_28 (by decide) (fun c7 => ?_) (fun c7 => ?_)
          · refine lv_iinc (v := nI (i + 1)) (lv' := [(2, .int (nI (i + 1))), (1, .int (nI b9)), (0, .ref (a 13))]) hx hb dX0_nextToStrike_33 hl (k := 0) rfl (ninc i) (by decide) rfl (fun ls hl => ?_)
            refine lv_goto (tgt := 4) hx hb dX0_nextToStrike_36 (by decide) ?_
            have e8 : oI (amn (S 3) (i + 1)) = nI b9 := by rw [amn_keep hq c7] <;> rfl
            exact ih ls (by rw [e8]; exact lv_sub hl [0, 1, 2] rfl)
          · refine lv_iload_n hx hb dX0_nextToStrike_31 rfl (lv_at hl 0 rfl) ?_
            refine lv_istore_n (lv' := [(1, .int (nI i)), (2, .int (nI i)), (0, .ref (a 13))]) hx hb dX0_nextToStrike_32 rfl hl (by decide) rfl (fun ls hl => ?_)
            refine lv_iinc (v := nI (i + 1)) (lv' := [(2, .int (nI (i + 1))), (1, .int (nI i)), (0, .ref (a 13))]) hx hb dX0_nextToStrike_33 hl (k := 1) rfl (ninc i) (by decide) rfl (fun ls hl => ?_)
            refine lv_goto (tgt := 4) hx hb dX0_nextToStrike_36 (by decide) ?_
            have e9 : oI (amn (S 3) (i + 1)) = nI i := by rw [amn_new hq c7] <;> rfl
            exact ih ls (by rw [e9]; exact lv_sub hl [0, 1, 2] rfl)
set_option maxHeartbeats 4000000 in
set_option maxRecDepth 100000 in
theorem c_X0_richest (l : Launch) (D : va_G) (cI cQ : ClassId) (a : Nat → Nat) (S : bS) {T R : Nat} (hI : BI S T R) : Rd l yX0_richest cX0_richest 3 (some .int) ({ frames := 5, cells := 0, slots := 0, locals := 118 } : Room) (BW D cI cQ a S) [.ref (a 13)] (.int (oI (bRc S T R))) := by
  refine Rd.of (by decide) (Nat.le_of_ble_eq_true rfl) ?_
  intro p e s m args below meth c ls hC hr hlocks hB hl
  have hx := hC.1
  have hb := hC.2.1
  obtain ⟨hT, hR, hT8, hR6⟩ := id hI
  have hl : lv_has ls 3 [(0, .ref (a 13))] := hl
  refine lv_iconst (v := -1) hx hb dX0_richest_0 (by decide) ?_
  refine lv_istore_n (lv' := [(1, .int (-1)), (0, .ref (a 13))]) hx hb dX0_richest_1 rfl hl (by decide) rfl (fun ls hl => ?_)
  refine lv_iconst (v := 0) hx hb dX0_richest_2 (by decide) ?_
  refine lv_istore_n (lv' := [(2, .int (0)), (1, .int (-1)), (0, .ref (a 13))]) hx hb dX0_richest_3 rfl hl (by decide) rfl (fun ls hl => ?_)
  refine loopU (P := fun i => ∀ ls : Array Slot, lv_has ls 3 [(2, .int (nI i)), (1, .int (oI (amx (fun r => bWb S T R r 0) i))), (0, .ref (a 13))] → W p l e ({ frames := 5, cells := 0, slots := 0, locals := 118 } : Room) s m args below meth c s.heap [] 0 0 (MQ below (k2_QcV (.int (oI (bRc S T R)))) args s 0 0 (fun _ => False)) (F0 m 4 ls [])) (R) ?_ ?_ 0 (by omega) ls (by first | exact lv_sub hl [0, 1, 2] rfl | (simpa using lv_sub hl [0, 1, 2] rfl))
  · intro ls hl
    refine lv_iload_n hx hb dX0_richest_4 rfl (lv_at hl 0 rfl) ?_
    refine lv_aload_n hx hb dX0_richest_5 rfl (lv_at hl 2 rfl) ?_
    refine gB_traderCount hC hB hR dX0_richest_6 ?_
    refine jge (i := R) (j := R) (tgt := 39) hC dX0_richest_9 (by decide) rfl rfl (by omega) (by omega) (fun c1 => ?_) (fun c1 => ?_)
    · refine lv_iload_n hx hb dX0_richest_39 rfl (lv_at hl 1 rfl) ?_
      exact rd_i hC hr hlocks dX0_richest_40 (by rfl)
    · exfalso; omega
  · intro i hi ih ls hl
    rcases hq : amx (fun r => bWb S T R r 0) i with _ | b9
    · rw [hq] at hl
      have hl : lv_has ls 3 [(2, .int (nI i)), (1, .int (-1)), (0, .ref (a 13))] := hl
      refine lv_iload_n hx hb dX0_richest_4 rfl (lv_at hl 0 rfl) ?_
      refine lv_aload_n hx hb dX0_richest_5 rfl (lv_at hl 2 rfl) ?_
      refine gB_traderCount hC hB hR dX0_richest_6 ?_
      refine jge (i := i) (j := R) (tgt := 39) hC dX0_richest_9 (by decide) rfl rfl (by omega) (by omega) (fun c2 => ?_) (fun c2 => ?_)
      · exfalso; omega
      · refine lv_iload_n hx hb dX0_richest_12 rfl (lv_at hl 1 rfl) ?_
        refine lv_if_lt (tgt := 31) hx hb dX0_richest_13 (by decide) (fun c3 => ?_) (fun c3 => ?_)
        · refine lv_iload_n hx hb dX0_richest_31 rfl (lv_at hl 0 rfl) ?_
          refine lv_istore_n (lv' := [(1, .int (nI i)), (2, .int (nI i)), (0, .ref (a 13))]) hx hb dX0_richest_32 rfl hl (by decide) rfl (fun ls hl => ?_)
          refine lv_iinc (v := nI (i + 1)) (lv' := [(2, .int (nI (i + 1))), (1, .int (nI i)), (0, .ref (a 13))]) hx hb dX0_richest_33 hl (k := 1) rfl (ninc i) (by decide) rfl (fun ls hl => ?_)
          refine lv_goto (tgt := 4) hx hb dX0_richest_36 (by decide) ?_
          have e4 : oI (amx (fun r => bWb S T R r 0) (i + 1)) = nI i := by rw [amx_none hq] <;> rfl
          exact ih ls (by rw [e4]; exact lv_sub hl [0, 1, 2] rfl)
        · exfalso; revert c3; decide
    · rw [hq] at hl
      have hl : lv_has ls 3 [(2, .int (nI i)), (1, .int (nI b9)), (0, .ref (a 13))] := hl
      have hb9 := amx_lt i hq
      refine lv_iload_n hx hb dX0_richest_4 rfl (lv_at hl 0 rfl) ?_
      refine lv_aload_n hx hb dX0_richest_5 rfl (lv_at hl 2 rfl) ?_
      refine gB_traderCount hC hB hR dX0_richest_6 ?_
      refine jge (i := i) (j := R) (tgt := 39) hC dX0_richest_9 (by decide) rfl rfl (by omega) (by omega) (fun c5 => ?_) (fun c5 => ?_)
      · exfalso; omega
      · refine lv_iload_n hx hb dX0_richest_12 rfl (lv_at hl 1 rfl) ?_
        refine lv_if_lt (tgt := 31) hx hb dX0_richest_13 (by decide) (fun c6 => ?_) (fun c6 => ?_)
        · exfalso; exact absurd c6 (nI_pos (by omega))
        · refine lv_aload_n hx hb dX0_richest_16 rfl (lv_at hl 2 rfl) ?_
          refine lv_iload_n hx hb dX0_richest_17 rfl (lv_at hl 0 rfl) ?_
          refine lv_iconst (v := 0) hx hb dX0_richest_18 (by decide) ?_
          refine k_X0_worthBehind hC (c_X0_worthBehind l D cI cQ a S hI (r := i) (k := 0) (by omega)) hB rfl ⟨rfl, rfl⟩ ⟨Nat.le_of_ble_eq_true rfl, Nat.le_of_ble_eq_true rfl⟩ ⟨Nat.zero_le _, Nat.zero_le _⟩ hl.1 rfl (Nat.le_of_ble_eq_true rfl) dX0_richest_19 ?_
          refine lv_aload_n hx hb dX0_richest_22 rfl (lv_at hl 2 rfl) ?_
          refine lv_iload_n hx hb dX0_richest_23 rfl (lv_at hl 1 rfl) ?_
          refine lv_iconst (v := 0) hx hb dX0_richest_24 (by decide) ?_
          refine k_X0_worthBehind hC (c_X0_worthBehind l D cI cQ a S hI (r := b9) (k := 0) (by omega)) hB rfl ⟨rfl, rfl⟩ ⟨Nat.le_of_ble_eq_true rfl, Nat.le_of_ble_eq_true rfl⟩ ⟨Nat.zero_le _, Nat.zero_le _⟩ hl.1 rfl (Nat.le_of_ble_eq_true rfl) dX0_richest_25 ?_
          refine lv_icmp_le (tgt := 33) hx hb dX0_richest_28 (by decide) (fun c7 => ?_) (fun c7 => ?_)
          · refine lv_iinc (v := nI (i + 1)) (lv' := [(2, .int (nI (i + 1))), (1, .int (nI b9)), (0, .ref (a 13))]) hx hb dX0_richest_33 hl (k := 0) rfl (ninc i) (by decide) rfl (fun ls hl => ?_)
            refine lv_goto (tgt := 4) hx hb dX0_richest_36 (by decide) ?_
            have e8 : oI (amx (fun r => bWb S T R r 0) (i + 1)) = nI b9 := by rw [amx_keep hq c7] <;> rfl
            exact ih ls (by rw [e8]; exact lv_sub hl [0, 1, 2] rfl)
          · refine lv_iload_n hx hb dX0_richest_31 rfl (lv_at hl 0 rfl) ?_
            refine lv_istore_n (lv' := [(1, .int (nI i)), (2, .int (nI i)), (0, .ref (a 13))]) hx hb dX0_richest_32 rfl hl (by decide) rfl (fun ls hl => ?_)
            refine lv_iinc (v := nI (i + 1)) (lv' := [(2, .int (nI (i + 1))), (1, .int (nI i)), (0, .ref (a 13))]) hx hb dX0_richest_33 hl (k := 1) rfl (ninc i) (by decide) rfl (fun ls hl => ?_)
            refine lv_goto (tgt := 4) hx hb dX0_richest_36 (by decide) ?_
            have e9 : oI (amx (fun r => bWb S T R r 0) (i + 1)) = nI i := by rw [amx_new hq c7] <;> rfl
            exact ih ls (by rw [e9]; exact lv_sub hl [0, 1, 2] rfl)
set_option maxHeartbeats 4000000 in
set_option maxRecDepth 100000 in
theorem c_X0_inDebt (l : Launch) (D : va_G) (cI cQ : ClassId) (a : Nat → Nat) (S : bS) {T R : Nat} (hI : BI S T R) : Rd l yX0_inDebt cX0_inDebt 3 (some .int) ({ frames := 0, cells := 0, slots := 0, locals := 0 } : Room) (BW D cI cQ a S) [.ref (a 13)] (.int (bOw S R)) := by
  refine Rd.of (by decide) (Nat.le_of_ble_eq_true rfl) ?_
  intro p e s m args below meth c ls hC hr hlocks hB hl
  have hx := hC.1
  have hb := hC.2.1
  obtain ⟨hT, hR, hT8, hR6⟩ := id hI
  have hl : lv_has ls 3 [(0, .ref (a 13))] := hl
  refine lv_iconst (v := 0) hx hb dX0_inDebt_0 (by decide) ?_
  refine lv_istore_n (lv' := [(1, .int (0)), (0, .ref (a 13))]) hx hb dX0_inDebt_1 rfl hl (by decide) rfl (fun ls hl => ?_)
  refine lv_iconst (v := 0) hx hb dX0_inDebt_2 (by decide) ?_
  refine lv_istore_n (lv' := [(2, .int (0)), (1, .int (0)), (0, .ref (a 13))]) hx hb dX0_inDebt_3 rfl hl (by decide) rfl (fun ls hl => ?_)
  refine loopU (P := fun i => ∀ ls : Array Slot, lv_has ls 3 [(2, .int (nI i)), (1, .int (bOw S i)), (0, .ref (a 13))] → W p l e ({ frames := 0, cells := 0, slots := 0, locals := 0 } : Room) s m args below meth c s.heap [] 0 0 (MQ below (k2_QcV (.int (bOw S R))) args s 0 0 (fun _ => False)) (F0 m 4 ls [])) (R) ?_ ?_ 0 (by omega) ls (by first | exact lv_sub hl [0, 1, 2] rfl | (simpa using lv_sub hl [0, 1, 2] rfl))
  · intro ls hl
    refine lv_iload_n hx hb dX0_inDebt_4 rfl (lv_at hl 0 rfl) ?_
    refine lv_aload_n hx hb dX0_inDebt_5 rfl (lv_at hl 2 rfl) ?_
    refine gB_traderCount hC hB hR dX0_inDebt_6 ?_
    refine jge (i := R) (j := R) (tgt := 30) hC dX0_inDebt_9 (by decide) rfl rfl (by omega) (by omega) (fun c1 => ?_) (fun c1 => ?_)
    · refine lv_iload_n hx hb dX0_inDebt_30 rfl (lv_at hl 1 rfl) ?_
      exact rd_i hC hr hlocks dX0_inDebt_31 (by rfl)
    · exfalso; omega
  · intro i hi ih ls hl
    refine lv_iload_n hx hb dX0_inDebt_4 rfl (lv_at hl 0 rfl) ?_
    refine lv_aload_n hx hb dX0_inDebt_5 rfl (lv_at hl 2 rfl) ?_
    refine gB_traderCount hC hB hR dX0_inDebt_6 ?_
    refine jge (i := i) (j := R) (tgt := 30) hC dX0_inDebt_9 (by decide) rfl rfl (by omega) (by omega) (fun c2 => ?_) (fun c2 => ?_)
    · exfalso; omega
    · refine lv_aload_n hx hb dX0_inDebt_12 rfl (lv_at hl 2 rfl) ?_
      refine gB_purse hC hB dX0_inDebt_13 ?_
      refine lv_iload_n hx hb dX0_inDebt_16 rfl (lv_at hl 0 rfl) ?_
      refine lB_purse (i) hC hB rfl (by omega) rfl dX0_inDebt_17 ?_
      refine lv_if_ge (tgt := 24) hx hb dX0_inDebt_18 (by decide) (fun c3 => ?_) (fun c3 => ?_)
      · refine lv_iinc (v := nI (i + 1)) (lv' := [(2, .int (nI (i + 1))), (1, .int (bOw S i)), (0, .ref (a 13))]) hx hb dX0_inDebt_24 hl (k := 0) rfl (ninc i) (by decide) rfl (fun ls hl => ?_)
        refine lv_goto (tgt := 4) hx hb dX0_inDebt_27 (by decide) ?_
        have e4 : bOw S (i + 1) = bOw S i := by show _ + (if _ then _ else _) = _; rw [if_pos c3, Int32.add_zero]; rfl
        exact ih ls (by rw [e4]; exact lv_sub hl [0, 1, 2] rfl)
      · refine lv_iinc (v := (bOw S i) + 1) (lv' := [(1, .int ((bOw S i) + 1)), (2, .int (nI i)), (0, .ref (a 13))]) hx hb dX0_inDebt_21 hl (k := 1) rfl (rfl) (by decide) rfl (fun ls hl => ?_)
        refine lv_iinc (v := nI (i + 1)) (lv' := [(2, .int (nI (i + 1))), (1, .int ((bOw S i) + 1)), (0, .ref (a 13))]) hx hb dX0_inDebt_24 hl (k := 1) rfl (ninc i) (by decide) rfl (fun ls hl => ?_)
        refine lv_goto (tgt := 4) hx hb dX0_inDebt_27 (by decide) ?_
        have e5 : bOw S (i + 1) = (bOw S i) + 1 := by show _ + (if _ then _ else _) = _; rw [if_neg c3]; rfl
        exact ih ls (by rw [e5]; exact lv_sub hl [0, 1, 2] rfl)
set_option maxHeartbeats 4000000 in
set_option maxRecDepth 100000 in
theorem c_X0_bestToBuy (l : Launch) (D : va_G) (cI cQ : ClassId) (a : Nat → Nat) (S : bS) {T R : Nat} (hI : BI S T R) : Rd l yX0_bestToBuy cX0_bestToBuy 4 (some .int) ({ frames := 5, cells := 0, slots := 0, locals := 110 } : Room) (BW D cI cQ a S) [.ref (a 13)] (.int (oI (bBu S T R))) := by
  refine Rd.of (by decide) (Nat.le_of_ble_eq_true rfl) ?_
  intro p e s m args below meth c ls hC hr hlocks hB hl
  have hx := hC.1
  have hb := hC.2.1
  obtain ⟨hT, hR, hT8, hR6⟩ := id hI
  have hl : lv_has ls 4 [(0, .ref (a 13))] := hl
  refine lv_iconst (v := -1) hx hb dX0_bestToBuy_0 (by decide) ?_
  refine lv_istore_n (lv' := [(1, .int (-1)), (0, .ref (a 13))]) hx hb dX0_bestToBuy_1 rfl hl (by decide) rfl (fun ls hl => ?_)
  refine lv_iconst (v := 0) hx hb dX0_bestToBuy_2 (by decide) ?_
  refine lv_istore_n (lv' := [(2, .int (0)), (1, .int (-1)), (0, .ref (a 13))]) hx hb dX0_bestToBuy_3 rfl hl (by decide) rfl (fun ls hl => ?_)
  refine loopU (P := fun i => ∀ ls : Array Slot, lv_has ls 4 [(2, .int (nI i)), (1, .int (oI (ab (bRi S R) i))), (0, .ref (a 13))] → W p l e ({ frames := 5, cells := 0, slots := 0, locals := 110 } : Room) s m args below meth c s.heap [] 0 0 (MQ below (k2_QcV (.int (oI (bBu S T R)))) args s 0 0 (fun _ => False)) (F0 m 4 ls [])) (T) ?_ ?_ 0 (by omega) ls (by first | exact lv_sub hl [0, 1, 2] rfl | (simpa using lv_sub hl [0, 1, 2] rfl))
  · intro ls hl
    refine lv_iload_n hx hb dX0_bestToBuy_4 rfl (lv_at hl 0 rfl) ?_
    refine lv_aload_n hx hb dX0_bestToBuy_5 rfl (lv_at hl 2 rfl) ?_
    refine gB_towerCount hC hB hT dX0_bestToBuy_6 ?_
    refine jge (i := T) (j := T) (tgt := 43) hC dX0_bestToBuy_9 (by decide) rfl rfl (by omega) (by omega) (fun c1 => ?_) (fun c1 => ?_)
    · refine lv_iload_n hx hb dX0_bestToBuy_43 rfl (lv_at hl 1 rfl) ?_
      exact rd_i hC hr hlocks dX0_bestToBuy_44 (by rfl)
    · exfalso; omega
  · intro i hi ih ls hl
    rcases hq : ab (bRi S R) i with _ | b9
    · rw [hq] at hl
      have hl : lv_has ls 4 [(2, .int (nI i)), (1, .int (-1)), (0, .ref (a 13))] := hl
      refine lv_iload_n hx hb dX0_bestToBuy_4 rfl (lv_at hl 0 rfl) ?_
      refine lv_aload_n hx hb dX0_bestToBuy_5 rfl (lv_at hl 2 rfl) ?_
      refine gB_towerCount hC hB hT dX0_bestToBuy_6 ?_
      refine jge (i := i) (j := T) (tgt := 43) hC dX0_bestToBuy_9 (by decide) rfl rfl (by omega) (by omega) (fun c2 => ?_) (fun c2 => ?_)
      · exfalso; omega
      · refine lv_aload_n hx hb dX0_bestToBuy_12 rfl (lv_at hl 2 rfl) ?_
        refine lv_iload_n hx hb dX0_bestToBuy_13 rfl (lv_at hl 0 rfl) ?_
        refine k_X0_riseUntilStroke hC (c_X0_riseUntilStroke l D cI cQ a S hI (t := i) (by omega)) hB rfl ⟨rfl, rfl⟩ ⟨Nat.le_of_ble_eq_true rfl, Nat.le_of_ble_eq_true rfl⟩ ⟨Nat.zero_le _, Nat.zero_le _⟩ hl.1 rfl (Nat.le_of_ble_eq_true rfl) dX0_bestToBuy_14 ?_
        refine lv_istore_n (lv' := [(3, .int (bRi S R i)), (2, .int (nI i)), (1, .int (-1)), (0, .ref (a 13))]) hx hb dX0_bestToBuy_17 rfl hl (by decide) rfl (fun ls hl => ?_)
        refine lv_iload_n hx hb dX0_bestToBuy_18 rfl (lv_at hl 0 rfl) ?_
        refine lv_if_le (tgt := 37) hx hb dX0_bestToBuy_19 (by decide) (fun c3 => ?_) (fun c3 => ?_)
        · refine lv_iinc (v := nI (i + 1)) (lv' := [(2, .int (nI (i + 1))), (3, .int (bRi S R i)), (1, .int (-1)), (0, .ref (a 13))]) hx hb dX0_bestToBuy_37 hl (k := 1) rfl (ninc i) (by decide) rfl (fun ls hl => ?_)
          refine lv_goto (tgt := 4) hx hb dX0_bestToBuy_40 (by decide) ?_
          have e4 : oI (ab (bRi S R) (i + 1)) = -1 := by rw [ab_skip c3, hq] <;> rfl
          exact ih ls (by rw [e4]; exact lv_sub hl [0, 2, 3] rfl)
        · refine lv_iload_n hx hb dX0_bestToBuy_22 rfl (lv_at hl 2 rfl) ?_
          refine lv_if_lt (tgt := 35) hx hb dX0_bestToBuy_23 (by decide) (fun c5 => ?_) (fun c5 => ?_)
          · refine lv_iload_n hx hb dX0_bestToBuy_35 rfl (lv_at hl 1 rfl) ?_
            refine lv_istore_n (lv' := [(1, .int (nI i)), (3, .int (bRi S R i)), (2, .int (nI i)), (0, .ref (a 13))]) hx hb dX0_bestToBuy_36 rfl hl (by decide) rfl (fun ls hl => ?_)
            refine lv_iinc (v := nI (i + 1)) (lv' := [(2, .int (nI (i + 1))), (1, .int (nI i)), (3, .int (bRi S R i)), (0, .ref (a 13))]) hx hb dX0_bestToBuy_37 hl (k := 2) rfl (ninc i) (by decide) rfl (fun ls hl => ?_)
            refine lv_goto (tgt := 4) hx hb dX0_bestToBuy_40 (by decide) ?_
            have e6 : oI (ab (bRi S R) (i + 1)) = nI i := by rw [ab_none c3 hq] <;> rfl
            exact ih ls (by rw [e6]; exact lv_sub hl [0, 1, 3] rfl)
          · exfalso; revert c5; decide
    · rw [hq] at hl
      have hl : lv_has ls 4 [(2, .int (nI i)), (1, .int (nI b9)), (0, .ref (a 13))] := hl
      have hb9 := ab_lt i hq
      refine lv_iload_n hx hb dX0_bestToBuy_4 rfl (lv_at hl 0 rfl) ?_
      refine lv_aload_n hx hb dX0_bestToBuy_5 rfl (lv_at hl 2 rfl) ?_
      refine gB_towerCount hC hB hT dX0_bestToBuy_6 ?_
      refine jge (i := i) (j := T) (tgt := 43) hC dX0_bestToBuy_9 (by decide) rfl rfl (by omega) (by omega) (fun c7 => ?_) (fun c7 => ?_)
      · exfalso; omega
      · refine lv_aload_n hx hb dX0_bestToBuy_12 rfl (lv_at hl 2 rfl) ?_
        refine lv_iload_n hx hb dX0_bestToBuy_13 rfl (lv_at hl 0 rfl) ?_
        refine k_X0_riseUntilStroke hC (c_X0_riseUntilStroke l D cI cQ a S hI (t := i) (by omega)) hB rfl ⟨rfl, rfl⟩ ⟨Nat.le_of_ble_eq_true rfl, Nat.le_of_ble_eq_true rfl⟩ ⟨Nat.zero_le _, Nat.zero_le _⟩ hl.1 rfl (Nat.le_of_ble_eq_true rfl) dX0_bestToBuy_14 ?_
        refine lv_istore_n (lv' := [(3, .int (bRi S R i)), (2, .int (nI i)), (1, .int (nI b9)), (0, .ref (a 13))]) hx hb dX0_bestToBuy_17 rfl hl (by decide) rfl (fun ls hl => ?_)
        refine lv_iload_n hx hb dX0_bestToBuy_18 rfl (lv_at hl 0 rfl) ?_
        refine lv_if_le (tgt := 37) hx hb dX0_bestToBuy_19 (by decide) (fun c8 => ?_) (fun c8 => ?_)
        · refine lv_iinc (v := nI (i + 1)) (lv' := [(2, .int (nI (i + 1))), (3, .int (bRi S R i)), (1, .int (nI b9)), (0, .ref (a 13))]) hx hb dX0_bestToBuy_37 hl (k := 1) rfl (ninc i) (by decide) rfl (fun ls hl => ?_)
          refine lv_goto (tgt := 4) hx hb dX0_bestToBuy_40 (by decide) ?_
          have e9 : oI (ab (bRi S R) (i + 1)) = nI b9 := by rw [ab_skip c8, hq] <;> rfl
          exact ih ls (by rw [e9]; exact lv_sub hl [0, 2, 3] rfl)
        · refine lv_iload_n hx hb dX0_bestToBuy_22 rfl (lv_at hl 2 rfl) ?_
          refine lv_if_lt (tgt := 35) hx hb dX0_bestToBuy_23 (by decide) (fun c10 => ?_) (fun c10 => ?_)
          · exfalso; exact absurd c10 (nI_pos (by omega))
          · refine lv_iload_n hx hb dX0_bestToBuy_26 rfl (lv_at hl 0 rfl) ?_
            refine lv_aload_n hx hb dX0_bestToBuy_27 rfl (lv_at hl 3 rfl) ?_
            refine lv_iload_n hx hb dX0_bestToBuy_28 rfl (lv_at hl 2 rfl) ?_
            refine k_X0_riseUntilStroke hC (c_X0_riseUntilStroke l D cI cQ a S hI (t := b9) (by omega)) hB rfl ⟨rfl, rfl⟩ ⟨Nat.le_of_ble_eq_true rfl, Nat.le_of_ble_eq_true rfl⟩ ⟨Nat.zero_le _, Nat.zero_le _⟩ hl.1 rfl (Nat.le_of_ble_eq_true rfl) dX0_bestToBuy_29 ?_
            refine lv_icmp_le (tgt := 37) hx hb dX0_bestToBuy_32 (by decide) (fun c11 => ?_) (fun c11 => ?_)
            · refine lv_iinc (v := nI (i + 1)) (lv' := [(2, .int (nI (i + 1))), (3, .int (bRi S R i)), (1, .int (nI b9)), (0, .ref (a 13))]) hx hb dX0_bestToBuy_37 hl (k := 1) rfl (ninc i) (by decide) rfl (fun ls hl => ?_)
              refine lv_goto (tgt := 4) hx hb dX0_bestToBuy_40 (by decide) ?_
              have e12 : oI (ab (bRi S R) (i + 1)) = nI b9 := by rw [ab_keep c8 hq c11] <;> rfl
              exact ih ls (by rw [e12]; exact lv_sub hl [0, 2, 3] rfl)
            · refine lv_iload_n hx hb dX0_bestToBuy_35 rfl (lv_at hl 1 rfl) ?_
              refine lv_istore_n (lv' := [(1, .int (nI i)), (3, .int (bRi S R i)), (2, .int (nI i)), (0, .ref (a 13))]) hx hb dX0_bestToBuy_36 rfl hl (by decide) rfl (fun ls hl => ?_)
              refine lv_iinc (v := nI (i + 1)) (lv' := [(2, .int (nI (i + 1))), (1, .int (nI i)), (3, .int (bRi S R i)), (0, .ref (a 13))]) hx hb dX0_bestToBuy_37 hl (k := 2) rfl (ninc i) (by decide) rfl (fun ls hl => ?_)
              refine lv_goto (tgt := 4) hx hb dX0_bestToBuy_40 (by decide) ?_
              have e13 : oI (ab (bRi S R) (i + 1)) = nI i := by rw [ab_new c8 hq c11] <;> rfl
              exact ih ls (by rw [e13]; exact lv_sub hl [0, 1, 3] rfl)
set_option maxHeartbeats 4000000 in
set_option maxRecDepth 100000 in
theorem c_X0_bestToSell (l : Launch) (D : va_G) (cI cQ : ClassId) (a : Nat → Nat) (S : bS) {T R : Nat} {r t M : Nat} (hI : BI S T R) (hr9 : r < R) (ht : t < T) (hM : mn 9 (S (7 + r) t + 9) = nI M) (hM9 : M ≤ 9) : Rd l yX0_bestToSell cX0_bestToSell 6 (some .int) ({ frames := 5, cells := 0, slots := 0, locals := 114 } : Room) (BW D cI cQ a S) [.ref (a 13), .int (nI r), .int (nI t)] (.int (nI (bsl (bYi S R r t) M))) := by
  refine Rd.of (by decide) (Nat.le_of_ble_eq_true rfl) ?_
  intro p e s m args below meth c ls hC hr hlocks hB hl
  have hx := hC.1
  have hb := hC.2.1
  obtain ⟨hT, hR, hT8, hR6⟩ := id hI
  have hl : lv_has ls 6 [(0, .ref (a 13)), (1, .int (nI r)), (2, .int (nI t))] := hl
  refine lv_aload_n hx hb dX0_bestToSell_0 rfl (lv_at hl 0 rfl) ?_
  refine lv_iload_n hx hb dX0_bestToSell_1 rfl (lv_at hl 1 rfl) ?_
  refine kn_X0_requireTrader hC (c_X0_requireTrader l D cI cQ a S hI (r := r) (by omega)) hB rfl ⟨rfl, rfl⟩ ⟨Nat.le_of_ble_eq_true rfl, Nat.le_of_ble_eq_true rfl⟩ ⟨Nat.zero_le _, Nat.zero_le _⟩ hl.1 rfl (Nat.le_of_ble_eq_true rfl) dX0_bestToSell_2 ?_
  refine lv_aload_n hx hb dX0_bestToSell_5 rfl (lv_at hl 0 rfl) ?_
  refine lv_iload_n hx hb dX0_bestToSell_6 rfl (lv_at hl 2 rfl) ?_
  refine kn_X0_requireTower hC (c_X0_requireTower l D cI cQ a S hI (t := t) (by omega)) hB rfl ⟨rfl, rfl⟩ ⟨Nat.le_of_ble_eq_true rfl, Nat.le_of_ble_eq_true rfl⟩ ⟨Nat.zero_le _, Nat.zero_le _⟩ hl.1 rfl (Nat.le_of_ble_eq_true rfl) dX0_bestToSell_7 ?_
  refine lv_bipush (v := 9) hx hb dX0_bestToSell_10 (by decide) ?_
  refine lv_aload_n hx hb dX0_bestToSell_12 rfl (lv_at hl 0 rfl) ?_
  refine gB_held hC hB dX0_bestToSell_13 ?_
  refine lv_iload_n hx hb dX0_bestToSell_16 rfl (lv_at hl 1 rfl) ?_
  refine lB_row (r) hC hB rfl (by omega) dX0_bestToSell_17 ?_
  refine lv_iload_n hx hb dX0_bestToSell_18 rfl (lv_at hl 2 rfl) ?_
  refine lB_held (r) (t) hC hB (by omega) rfl (by omega) rfl dX0_bestToSell_19 ?_
  refine lv_bipush (v := 9) hx hb dX0_bestToSell_20 (by decide) ?_
  refine lv_iadd hx hb dX0_bestToSell_22 ?_
  refine k_X0_min hC hl.1 ⟨Nat.le_of_ble_eq_true rfl, Nat.le_of_ble_eq_true rfl⟩ ⟨Nat.le_of_ble_eq_true rfl, Nat.le_of_ble_eq_true rfl⟩ dX0_bestToSell_23 ?_
  refine lv_istore_n (lv' := [(3, .int (mn 9 ((S (7 + r) t) + 9))), (0, .ref (a 13)), (1, .int (nI r)), (2, .int (nI t))]) hx hb dX0_bestToSell_26 rfl hl (by decide) rfl (fun ls hl => ?_)
  rw [hM] at hl
  refine lv_iconst (v := 0) hx hb dX0_bestToSell_27 (by decide) ?_
  refine lv_istore (lv' := [(4, .int (0)), (3, .int (nI M)), (0, .ref (a 13)), (1, .int (nI r)), (2, .int (nI t))]) hx hb dX0_bestToSell_28 hl (by decide) rfl (fun ls hl => ?_)
  refine lv_iconst (v := 1) hx hb dX0_bestToSell_30 (by decide) ?_
  refine lv_istore (lv' := [(5, .int (1)), (4, .int (0)), (3, .int (nI M)), (0, .ref (a 13)), (1, .int (nI r)), (2, .int (nI t))]) hx hb dX0_bestToSell_31 hl (by decide) rfl (fun ls hl => ?_)
  refine loopU (P := fun i => ∀ ls : Array Slot, lv_has ls 6 [(5, .int (nI (i + 1))), (4, .int (nI (bsl (bYi S R r t) i))), (0, .ref (a 13)), (1, .int (nI r)), (2, .int (nI t)), (3, .int (nI M))] → W p l e ({ frames := 5, cells := 0, slots := 0, locals := 114 } : Room) s m args below meth c s.heap [] 0 0 (MQ below (k2_QcV (.int (nI (bsl (bYi S R r t) M)))) args s 0 0 (fun _ => False)) (F0 m 33 ls [])) (M) ?_ ?_ 0 (by omega) ls (by first | exact lv_sub hl [0, 1, 3, 4, 5, 2] rfl | (simpa using lv_sub hl [0, 1, 3, 4, 5, 2] rfl))
  · intro ls hl
    refine lv_iload hx hb dX0_bestToSell_33 (lv_at hl 0 rfl) ?_
    refine lv_iload_n hx hb dX0_bestToSell_35 rfl (lv_at hl 5 rfl) ?_
    refine jgt (i := M + 1) (j := M) (tgt := 68) hC dX0_bestToSell_36 (by decide) rfl rfl (by omega) (by omega) (fun c1 => ?_) (fun c1 => ?_)
    · refine lv_iload hx hb dX0_bestToSell_68 (lv_at hl 1 rfl) ?_
      exact rd_i hC hr hlocks dX0_bestToSell_70 (by rfl)
    · exfalso; omega
  · intro i hi ih ls hl
    refine lv_iload hx hb dX0_bestToSell_33 (lv_at hl 0 rfl) ?_
    refine lv_iload_n hx hb dX0_bestToSell_35 rfl (lv_at hl 5 rfl) ?_
    refine jgt (i := i + 1) (j := M) (tgt := 68) hC dX0_bestToSell_36 (by decide) rfl rfl (by omega) (by omega) (fun c2 => ?_) (fun c2 => ?_)
    · exfalso; omega
    · refine lv_aload_n hx hb dX0_bestToSell_39 rfl (lv_at hl 2 rfl) ?_
      refine lv_iload_n hx hb dX0_bestToSell_40 rfl (lv_at hl 3 rfl) ?_
      refine lv_iload_n hx hb dX0_bestToSell_41 rfl (lv_at hl 4 rfl) ?_
      refine lv_iload hx hb dX0_bestToSell_42 (lv_at hl 0 rfl) ?_
      refine k_X0_yieldOfSelling hC (c_X0_yieldOfSelling l D cI cQ a S hI (r := r) (t := t) (k := i + 1) (by omega) (by omega)) hB rfl ⟨rfl, rfl⟩ ⟨Nat.le_of_ble_eq_true rfl, Nat.le_of_ble_eq_true rfl⟩ ⟨Nat.zero_le _, Nat.zero_le _⟩ hl.1 rfl (Nat.le_of_ble_eq_true rfl) dX0_bestToSell_44 ?_
      refine lv_aload_n hx hb dX0_bestToSell_47 rfl (lv_at hl 2 rfl) ?_
      refine lv_iload_n hx hb dX0_bestToSell_48 rfl (lv_at hl 3 rfl) ?_
      refine lv_iload_n hx hb dX0_bestToSell_49 rfl (lv_at hl 4 rfl) ?_
      refine lv_iload hx hb dX0_bestToSell_50 (lv_at hl 1 rfl) ?_
      refine k_X0_yieldOfSelling hC (c_X0_yieldOfSelling l D cI cQ a S hI (r := r) (t := t) (k := bsl (bYi S R r t) i) (by omega) (by omega)) hB rfl ⟨rfl, rfl⟩ ⟨Nat.le_of_ble_eq_true rfl, Nat.le_of_ble_eq_true rfl⟩ ⟨Nat.zero_le _, Nat.zero_le _⟩ hl.1 rfl (Nat.le_of_ble_eq_true rfl) dX0_bestToSell_52 ?_
      refine lv_icmp_le (tgt := 62) hx hb dX0_bestToSell_55 (by decide) (fun c3 => ?_) (fun c3 => ?_)
      · refine lv_iinc (v := nI (i + 1 + 1)) (lv' := [(5, .int (nI (i + 1 + 1))), (4, .int (nI (bsl (bYi S R r t) i))), (0, .ref (a 13)), (1, .int (nI r)), (2, .int (nI t)), (3, .int (nI M))]) hx hb dX0_bestToSell_62 hl (k := 0) rfl (ninc (i + 1)) (by decide) rfl (fun ls hl => ?_)
        refine lv_goto (tgt := 33) hx hb dX0_bestToSell_65 (by decide) ?_
        have e4 : nI (bsl (bYi S R r t) (i + 1)) = nI (bsl (bYi S R r t) i) := by show nI (if _ then _ else _) = _; rw [if_pos c3] <;> rfl
        exact ih ls (by rw [e4]; exact lv_sub hl [0, 1, 2, 3, 4, 5] rfl)
      · refine lv_iload hx hb dX0_bestToSell_58 (lv_at hl 0 rfl) ?_
        refine lv_istore (lv' := [(4, .int (nI (i + 1))), (5, .int (nI (i + 1))), (0, .ref (a 13)), (1, .int (nI r)), (2, .int (nI t)), (3, .int (nI M))]) hx hb dX0_bestToSell_60 hl (by decide) rfl (fun ls hl => ?_)
        refine lv_iinc (v := nI (i + 1 + 1)) (lv' := [(5, .int (nI (i + 1 + 1))), (4, .int (nI (i + 1))), (0, .ref (a 13)), (1, .int (nI r)), (2, .int (nI t)), (3, .int (nI M))]) hx hb dX0_bestToSell_62 hl (k := 1) rfl (ninc (i + 1)) (by decide) rfl (fun ls hl => ?_)
        refine lv_goto (tgt := 33) hx hb dX0_bestToSell_65 (by decide) ?_
        have e5 : nI (bsl (bYi S R r t) (i + 1)) = nI (i + 1) := by show nI (if _ then _ else _) = _; rw [if_neg c3] <;> rfl
        exact ih ls (by rw [e5]; exact lv_sub hl [0, 1, 2, 3, 4, 5] rfl)
set_option maxHeartbeats 4000000 in
set_option maxRecDepth 100000 in
theorem c_X0_secondsUntilDebt (l : Launch) (D : va_G) (cI cQ : ClassId) (a : Nat → Nat) (S : bS) {T R : Nat} {r : Nat} (hI : BI S T R) (hr9 : r < R) : Rd l yX0_secondsUntilDebt cX0_secondsUntilDebt 4 (some .int) ({ frames := 5, cells := 0, slots := 0, locals := 113 } : Room) (BW D cI cQ a S) [.ref (a 13), .int (nI r)] (.int (bDb S T R r)) := by
  refine Rd.of (by decide) (Nat.le_of_ble_eq_true rfl) ?_
  intro p e s m args below meth c ls hC hr hlocks hB hl
  have hx := hC.1
  have hb := hC.2.1
  obtain ⟨hT, hR, hT8, hR6⟩ := id hI
  have hl : lv_has ls 4 [(0, .ref (a 13)), (1, .int (nI r))] := hl
  refine lv_aload_n hx hb dX0_secondsUntilDebt_0 rfl (lv_at hl 0 rfl) ?_
  refine lv_iload_n hx hb dX0_secondsUntilDebt_1 rfl (lv_at hl 1 rfl) ?_
  refine kn_X0_requireTrader hC (c_X0_requireTrader l D cI cQ a S hI (r := r) (by omega)) hB rfl ⟨rfl, rfl⟩ ⟨Nat.le_of_ble_eq_true rfl, Nat.le_of_ble_eq_true rfl⟩ ⟨Nat.zero_le _, Nat.zero_le _⟩ hl.1 rfl (Nat.le_of_ble_eq_true rfl) dX0_secondsUntilDebt_2 ?_
  refine lv_aload_n hx hb dX0_secondsUntilDebt_5 rfl (lv_at hl 0 rfl) ?_
  refine gB_purse hC hB dX0_secondsUntilDebt_6 ?_
  refine lv_iload_n hx hb dX0_secondsUntilDebt_9 rfl (lv_at hl 1 rfl) ?_
  refine lB_purse (r) hC hB rfl (by omega) rfl dX0_secondsUntilDebt_10 ?_
  refine lv_istore_n (lv' := [(2, .int (S 5 r)), (0, .ref (a 13)), (1, .int (nI r))]) hx hb dX0_secondsUntilDebt_11 rfl hl (by decide) rfl (fun ls hl => ?_)
  refine lv_iconst (v := 0) hx hb dX0_secondsUntilDebt_12 (by decide) ?_
  refine lv_istore_n (lv' := [(3, .int (0)), (2, .int (S 5 r)), (0, .ref (a 13)), (1, .int (nI r))]) hx hb dX0_secondsUntilDebt_13 rfl hl (by decide) rfl (fun ls hl => ?_)
  refine loopU (P := fun i => (∀ j : Nat, j < i → 0 ≤ sma (S 5 r) (bCi S T R r) (j + 1)) → ∀ ls : Array Slot, lv_has ls 4 [(3, .int (nI i)), (2, .int (sma (S 5 r) (bCi S T R r) i)), (0, .ref (a 13)), (1, .int (nI r))] → W p l e ({ frames := 5, cells := 0, slots := 0, locals := 113 } : Room) s m args below meth c s.heap [] 0 0 (MQ below (k2_QcV (.int (bDb S T R r))) args s 0 0 (fun _ => False)) (F0 m 14 ls [])) (101) ?_ ?_ 0 (by omega) (fun j h9 => absurd h9 (by omega)) ls (by first | exact lv_sub hl [0, 1, 2, 3] rfl | (simpa using lv_sub hl [0, 1, 2, 3] rfl))
  · intro han ls hl
    refine lv_iload_n hx hb dX0_secondsUntilDebt_14 rfl (lv_at hl 0 rfl) ?_
    refine lv_bipush (v := 100) hx hb dX0_secondsUntilDebt_15 (by decide) ?_
    refine jgt (i := 101) (j := 100) (tgt := 41) hC dX0_secondsUntilDebt_17 (by decide) rfl rfl (by omega) (by omega) (fun c1 => ?_) (fun c1 => ?_)
    · refine lv_iconst (v := -1) hx hb dX0_secondsUntilDebt_41 (by decide) ?_
      exact rd_i hC hr hlocks dX0_secondsUntilDebt_42 (by exact (dbl_miss 101 0 (fun j _ h2 => han j (by omega))).symm)
    · exfalso; omega
  · intro i hi ih han ls hl
    refine lv_iload_n hx hb dX0_secondsUntilDebt_14 rfl (lv_at hl 0 rfl) ?_
    refine lv_bipush (v := 100) hx hb dX0_secondsUntilDebt_15 (by decide) ?_
    refine jgt (i := i) (j := 100) (tgt := 41) hC dX0_secondsUntilDebt_17 (by decide) rfl rfl (by omega) (by omega) (fun c2 => ?_) (fun c2 => ?_)
    · exfalso; omega
    · refine lv_iload_n hx hb dX0_secondsUntilDebt_20 rfl (lv_at hl 1 rfl) ?_
      refine lv_aload_n hx hb dX0_secondsUntilDebt_21 rfl (lv_at hl 2 rfl) ?_
      refine lv_iload_n hx hb dX0_secondsUntilDebt_22 rfl (lv_at hl 3 rfl) ?_
      refine lv_iload_n hx hb dX0_secondsUntilDebt_23 rfl (lv_at hl 0 rfl) ?_
      refine k_X0_closedIn hC (c_X0_closedIn l D cI cQ a S hI (r := r) (k := i) (by omega)) hB rfl ⟨rfl, rfl⟩ ⟨Nat.le_of_ble_eq_true rfl, Nat.le_of_ble_eq_true rfl⟩ ⟨Nat.zero_le _, Nat.zero_le _⟩ hl.1 rfl (Nat.le_of_ble_eq_true rfl) dX0_secondsUntilDebt_24 ?_
      refine lv_iadd hx hb dX0_secondsUntilDebt_27 ?_
      refine lv_istore_n (lv' := [(2, .int ((sma (S 5 r) (bCi S T R r) i) + (bCi S T R r i))), (3, .int (nI i)), (0, .ref (a 13)), (1, .int (nI r))]) hx hb dX0_secondsUntilDebt_28 rfl hl (by decide) rfl (fun ls hl => ?_)
      refine lv_iload_n hx hb dX0_secondsUntilDebt_29 rfl (lv_at hl 0 rfl) ?_
      refine lv_if_ge (tgt := 35) hx hb dX0_secondsUntilDebt_30 (by decide) (fun c3 => ?_) (fun c3 => ?_)
      · refine lv_iinc (v := nI (i + 1)) (lv' := [(3, .int (nI (i + 1))), (2, .int ((sma (S 5 r) (bCi S T R r) i) + (bCi S T R r i))), (0, .ref (a 13)), (1, .int (nI r))]) hx hb dX0_secondsUntilDebt_35 hl (k := 1) rfl (ninc i) (by decide) rfl (fun ls hl => ?_)
        refine lv_goto (tgt := 14) hx hb dX0_secondsUntilDebt_38 (by decide) ?_
        exact ih (fun j h9 => by rcases (show j < i ∨ j = i by omega) with h8 | h8; exact han j h8; rw [h8]; exact c3) ls (lv_sub hl [0, 1, 2, 3] rfl)
      · refine lv_iload_n hx hb dX0_secondsUntilDebt_33 rfl (lv_at hl 1 rfl) ?_
        exact rd_i hC hr hlocks dX0_secondsUntilDebt_34 (by exact (dbl_hit (g := fun k => sma (S 5 r) (bCi S T R r) (k + 1)) c3 101 0 (by omega) (by omega) (fun j _ h2 => han j h2)).symm)
set_option maxHeartbeats 4000000 in
set_option maxRecDepth 100000 in
theorem c_X0_mixedTower (l : Launch) (D : va_G) (cI cQ : ClassId) (a : Nat → Nat) (S : bS) {T R : Nat} {t : Nat} (d : Int64) (hI : BI S T R) (ht : t < T) : Rd l yX0_mixedTower cX0_mixedTower 6 (some .long) ({ frames := 4, cells := 0, slots := 0, locals := 89 } : Room) (BW D cI cQ a S) [.ref (a 13), .long (d), .int (nI t)] (.long (bMt S R d t)) := by
  refine Rd.of (by decide) (Nat.le_of_ble_eq_true rfl) ?_
  intro p e s m args below meth c ls hC hr hlocks hB hl
  have hx := hC.1
  have hb := hC.2.1
  obtain ⟨hT, hR, hT8, hR6⟩ := id hI
  have hl : lv_has ls 6 [(0, .ref (a 13)), (1, .long (d)), (3, .int (nI t))] := hl
  refine lv_lload_n hx hb dX0_mixedTower_0 rfl (lv_at hl 1 rfl) ?_
  refine lv_aload_n hx hb dX0_mixedTower_1 rfl (lv_at hl 0 rfl) ?_
  refine gB_silence hC hB dX0_mixedTower_2 ?_
  refine lv_iload_n hx hb dX0_mixedTower_5 rfl (lv_at hl 2 rfl) ?_
  refine lB_silence (t) hC hB rfl (by omega) rfl dX0_mixedTower_6 ?_
  refine k_X0_mixed hC (c_X0_mixed l (d) (S 2 t)) mov_T trivial rfl ⟨rfl, rfl⟩ ⟨Nat.le_of_ble_eq_true rfl, Nat.le_of_ble_eq_true rfl⟩ ⟨Nat.zero_le _, Nat.zero_le _⟩ hl.1 rfl (Nat.le_of_ble_eq_true rfl) dX0_mixedTower_7 ?_
  refine lv_lstore (lv' := [(4, .long (mi d (S 2 t))), (0, .ref (a 13)), (1, .long (d)), (3, .int (nI t))]) hx hb dX0_mixedTower_10 hl (by decide) rfl (fun ls hl => ?_)
  refine lv_lload hx hb dX0_mixedTower_12 (lv_at hl 0 rfl) ?_
  refine lv_aload_n hx hb dX0_mixedTower_14 rfl (lv_at hl 1 rfl) ?_
  refine lv_iload_n hx hb dX0_mixedTower_15 rfl (lv_at hl 3 rfl) ?_
  refine k_X0_dovesNow hC (c_X0_dovesNow l D cI cQ a S hI (t := t) (by omega)) hB rfl ⟨rfl, rfl⟩ ⟨Nat.le_of_ble_eq_true rfl, Nat.le_of_ble_eq_true rfl⟩ ⟨Nat.zero_le _, Nat.zero_le _⟩ hl.1 rfl (Nat.le_of_ble_eq_true rfl) dX0_mixedTower_16 ?_
  refine k_X0_mixed hC (c_X0_mixed l (mi d (S 2 t)) (bDv S R t)) mov_T trivial rfl ⟨rfl, rfl⟩ ⟨Nat.le_of_ble_eq_true rfl, Nat.le_of_ble_eq_true rfl⟩ ⟨Nat.zero_le _, Nat.zero_le _⟩ hl.1 rfl (Nat.le_of_ble_eq_true rfl) dX0_mixedTower_19 ?_
  refine lv_lstore (lv' := [(4, .long (mi (mi d (S 2 t)) (bDv S R t))), (0, .ref (a 13)), (1, .long (d)), (3, .int (nI t))]) hx hb dX0_mixedTower_22 hl (by decide) rfl (fun ls hl => ?_)
  refine lv_lload hx hb dX0_mixedTower_24 (lv_at hl 0 rfl) ?_
  refine lv_aload_n hx hb dX0_mixedTower_26 rfl (lv_at hl 1 rfl) ?_
  refine lv_iload_n hx hb dX0_mixedTower_27 rfl (lv_at hl 3 rfl) ?_
  refine k_X0_priceNow hC (c_X0_priceNow l D cI cQ a S hI (t := t) (by omega)) hB rfl ⟨rfl, rfl⟩ ⟨Nat.le_of_ble_eq_true rfl, Nat.le_of_ble_eq_true rfl⟩ ⟨Nat.zero_le _, Nat.zero_le _⟩ hl.1 rfl (Nat.le_of_ble_eq_true rfl) dX0_mixedTower_28 ?_
  refine k_X0_mixed hC (c_X0_mixed l (mi (mi d (S 2 t)) (bDv S R t)) (bPr S R t)) mov_T trivial rfl ⟨rfl, rfl⟩ ⟨Nat.le_of_ble_eq_true rfl, Nat.le_of_ble_eq_true rfl⟩ ⟨Nat.zero_le _, Nat.zero_le _⟩ hl.1 rfl (Nat.le_of_ble_eq_true rfl) dX0_mixedTower_31 ?_
  refine lv_lstore (lv' := [(4, .long (mi (mi (mi d (S 2 t)) (bDv S R t)) (bPr S R t))), (0, .ref (a 13)), (1, .long (d)), (3, .int (nI t))]) hx hb dX0_mixedTower_34 hl (by decide) rfl (fun ls hl => ?_)
  refine lv_lload hx hb dX0_mixedTower_36 (lv_at hl 0 rfl) ?_
  refine lv_aload_n hx hb dX0_mixedTower_38 rfl (lv_at hl 1 rfl) ?_
  refine gB_untilStroke hC hB dX0_mixedTower_39 ?_
  refine lv_iload_n hx hb dX0_mixedTower_42 rfl (lv_at hl 3 rfl) ?_
  refine lB_untilStroke (t) hC hB rfl (by omega) rfl dX0_mixedTower_43 ?_
  refine k_X0_mixed hC (c_X0_mixed l (mi (mi (mi d (S 2 t)) (bDv S R t)) (bPr S R t)) (S 3 t)) mov_T trivial rfl ⟨rfl, rfl⟩ ⟨Nat.le_of_ble_eq_true rfl, Nat.le_of_ble_eq_true rfl⟩ ⟨Nat.zero_le _, Nat.zero_le _⟩ hl.1 rfl (Nat.le_of_ble_eq_true rfl) dX0_mixedTower_44 ?_
  refine lv_lstore (lv' := [(4, .long (mi (mi (mi (mi d (S 2 t)) (bDv S R t)) (bPr S R t)) (S 3 t))), (0, .ref (a 13)), (1, .long (d)), (3, .int (nI t))]) hx hb dX0_mixedTower_47 hl (by decide) rfl (fun ls hl => ?_)
  refine lv_lload hx hb dX0_mixedTower_49 (lv_at hl 0 rfl) ?_
  refine lv_aload_n hx hb dX0_mixedTower_51 rfl (lv_at hl 1 rfl) ?_
  refine gB_strokes hC hB dX0_mixedTower_52 ?_
  refine lv_iload_n hx hb dX0_mixedTower_55 rfl (lv_at hl 3 rfl) ?_
  refine lB_strokes (t) hC hB rfl (by omega) rfl dX0_mixedTower_56 ?_
  refine k_X0_mixed hC (c_X0_mixed l (mi (mi (mi (mi d (S 2 t)) (bDv S R t)) (bPr S R t)) (S 3 t)) (S 4 t)) mov_T trivial rfl ⟨rfl, rfl⟩ ⟨Nat.le_of_ble_eq_true rfl, Nat.le_of_ble_eq_true rfl⟩ ⟨Nat.zero_le _, Nat.zero_le _⟩ hl.1 rfl (Nat.le_of_ble_eq_true rfl) dX0_mixedTower_57 ?_
  refine lv_lstore (lv' := [(4, .long (mi (mi (mi (mi (mi d (S 2 t)) (bDv S R t)) (bPr S R t)) (S 3 t)) (S 4 t))), (0, .ref (a 13)), (1, .long (d)), (3, .int (nI t))]) hx hb dX0_mixedTower_60 hl (by decide) rfl (fun ls hl => ?_)
  refine lv_lload hx hb dX0_mixedTower_62 (lv_at hl 0 rfl) ?_
  refine lv_aload_n hx hb dX0_mixedTower_64 rfl (lv_at hl 1 rfl) ?_
  refine lv_iload_n hx hb dX0_mixedTower_65 rfl (lv_at hl 3 rfl) ?_
  refine k_X0_heldByAll hC (c_X0_heldByAll l D cI cQ a S hI (t := t) (by omega)) hB rfl ⟨rfl, rfl⟩ ⟨Nat.le_of_ble_eq_true rfl, Nat.le_of_ble_eq_true rfl⟩ ⟨Nat.zero_le _, Nat.zero_le _⟩ hl.1 rfl (Nat.le_of_ble_eq_true rfl) dX0_mixedTower_66 ?_
  refine k_X0_mixed hC (c_X0_mixed l (mi (mi (mi (mi (mi d (S 2 t)) (bDv S R t)) (bPr S R t)) (S 3 t)) (S 4 t)) (bOp S R t)) mov_T trivial rfl ⟨rfl, rfl⟩ ⟨Nat.le_of_ble_eq_true rfl, Nat.le_of_ble_eq_true rfl⟩ ⟨Nat.zero_le _, Nat.zero_le _⟩ hl.1 rfl (Nat.le_of_ble_eq_true rfl) dX0_mixedTower_69 ?_
  refine lv_lstore (lv' := [(4, .long (mi (mi (mi (mi (mi (mi d (S 2 t)) (bDv S R t)) (bPr S R t)) (S 3 t)) (S 4 t)) (bOp S R t))), (0, .ref (a 13)), (1, .long (d)), (3, .int (nI t))]) hx hb dX0_mixedTower_72 hl (by decide) rfl (fun ls hl => ?_)
  refine lv_lload hx hb dX0_mixedTower_74 (lv_at hl 0 rfl) ?_
  refine lv_aload_n hx hb dX0_mixedTower_76 rfl (lv_at hl 1 rfl) ?_
  refine lv_iload_n hx hb dX0_mixedTower_77 rfl (lv_at hl 3 rfl) ?_
  refine k_X0_closing hC (c_X0_closing l D cI cQ a S hI (t := t) (by omega)) hB rfl ⟨rfl, rfl⟩ ⟨Nat.le_of_ble_eq_true rfl, Nat.le_of_ble_eq_true rfl⟩ ⟨Nat.zero_le _, Nat.zero_le _⟩ hl.1 rfl (Nat.le_of_ble_eq_true rfl) dX0_mixedTower_78 ?_
  refine k_X0_mixed hC (c_X0_mixed l (mi (mi (mi (mi (mi (mi d (S 2 t)) (bDv S R t)) (bPr S R t)) (S 3 t)) (S 4 t)) (bOp S R t)) (bCl S R t)) mov_T trivial rfl ⟨rfl, rfl⟩ ⟨Nat.le_of_ble_eq_true rfl, Nat.le_of_ble_eq_true rfl⟩ ⟨Nat.zero_le _, Nat.zero_le _⟩ hl.1 rfl (Nat.le_of_ble_eq_true rfl) dX0_mixedTower_81 ?_
  exact rd_l hC hr hlocks dX0_mixedTower_84 (by rfl)
set_option maxHeartbeats 4000000 in
set_option maxRecDepth 100000 in
theorem c_X0_mixedTrader (l : Launch) (D : va_G) (cI cQ : ClassId) (a : Nat → Nat) (S : bS) {T R : Nat} {r : Nat} (d : Int64) (hI : BI S T R) (hr9 : r < R) : Rd l yX0_mixedTrader cX0_mixedTrader 7 (some .long) ({ frames := 5, cells := 0, slots := 0, locals := 118 } : Room) (BW D cI cQ a S) [.ref (a 13), .long (d), .int (nI r)] (.long (bMr S T R d r)) := by
  refine Rd.of (by decide) (Nat.le_of_ble_eq_true rfl) ?_
  intro p e s m args below meth c ls hC hr hlocks hB hl
  have hx := hC.1
  have hb := hC.2.1
  obtain ⟨hT, hR, hT8, hR6⟩ := id hI
  have hl : lv_has ls 7 [(0, .ref (a 13)), (1, .long (d)), (3, .int (nI r))] := hl
  refine lv_lload_n hx hb dX0_mixedTrader_0 rfl (lv_at hl 1 rfl) ?_
  refine lv_aload_n hx hb dX0_mixedTrader_1 rfl (lv_at hl 0 rfl) ?_
  refine gB_purse hC hB dX0_mixedTrader_2 ?_
  refine lv_iload_n hx hb dX0_mixedTrader_5 rfl (lv_at hl 2 rfl) ?_
  refine lB_purse (r) hC hB rfl (by omega) rfl dX0_mixedTrader_6 ?_
  refine k_X0_mixed hC (c_X0_mixed l (d) (S 5 r)) mov_T trivial rfl ⟨rfl, rfl⟩ ⟨Nat.le_of_ble_eq_true rfl, Nat.le_of_ble_eq_true rfl⟩ ⟨Nat.zero_le _, Nat.zero_le _⟩ hl.1 rfl (Nat.le_of_ble_eq_true rfl) dX0_mixedTrader_7 ?_
  refine lv_lstore (lv' := [(4, .long (mi d (S 5 r))), (0, .ref (a 13)), (1, .long (d)), (3, .int (nI r))]) hx hb dX0_mixedTrader_10 hl (by decide) rfl (fun ls hl => ?_)
  refine lv_lload hx hb dX0_mixedTrader_12 (lv_at hl 0 rfl) ?_
  refine lv_aload_n hx hb dX0_mixedTrader_14 rfl (lv_at hl 1 rfl) ?_
  refine lv_iload_n hx hb dX0_mixedTrader_15 rfl (lv_at hl 3 rfl) ?_
  refine lv_iconst (v := 0) hx hb dX0_mixedTrader_16 (by decide) ?_
  refine k_X0_worthBehind hC (c_X0_worthBehind l D cI cQ a S hI (r := r) (k := 0) (by omega)) hB rfl ⟨rfl, rfl⟩ ⟨Nat.le_of_ble_eq_true rfl, Nat.le_of_ble_eq_true rfl⟩ ⟨Nat.zero_le _, Nat.zero_le _⟩ hl.1 rfl (Nat.le_of_ble_eq_true rfl) dX0_mixedTrader_17 ?_
  refine k_X0_mixed hC (c_X0_mixed l (mi d (S 5 r)) (bWb S T R r 0)) mov_T trivial rfl ⟨rfl, rfl⟩ ⟨Nat.le_of_ble_eq_true rfl, Nat.le_of_ble_eq_true rfl⟩ ⟨Nat.zero_le _, Nat.zero_le _⟩ hl.1 rfl (Nat.le_of_ble_eq_true rfl) dX0_mixedTrader_20 ?_
  refine lv_lstore (lv' := [(4, .long (mi (mi d (S 5 r)) (bWb S T R r 0))), (0, .ref (a 13)), (1, .long (d)), (3, .int (nI r))]) hx hb dX0_mixedTrader_23 hl (by decide) rfl (fun ls hl => ?_)
  refine lv_lload hx hb dX0_mixedTrader_25 (lv_at hl 0 rfl) ?_
  refine lv_aload_n hx hb dX0_mixedTrader_27 rfl (lv_at hl 1 rfl) ?_
  refine lv_iload_n hx hb dX0_mixedTrader_28 rfl (lv_at hl 3 rfl) ?_
  refine k_X0_shortTowers hC (c_X0_shortTowers l D cI cQ a S hI (r := r) (by omega)) hB rfl ⟨rfl, rfl⟩ ⟨Nat.le_of_ble_eq_true rfl, Nat.le_of_ble_eq_true rfl⟩ ⟨Nat.zero_le _, Nat.zero_le _⟩ hl.1 rfl (Nat.le_of_ble_eq_true rfl) dX0_mixedTrader_29 ?_
  refine k_X0_mixed hC (c_X0_mixed l (mi (mi d (S 5 r)) (bWb S T R r 0)) (bSh S T r)) mov_T trivial rfl ⟨rfl, rfl⟩ ⟨Nat.le_of_ble_eq_true rfl, Nat.le_of_ble_eq_true rfl⟩ ⟨Nat.zero_le _, Nat.zero_le _⟩ hl.1 rfl (Nat.le_of_ble_eq_true rfl) dX0_mixedTrader_32 ?_
  refine lv_lstore (lv' := [(4, .long (mi (mi (mi d (S 5 r)) (bWb S T R r 0)) (bSh S T r))), (0, .ref (a 13)), (1, .long (d)), (3, .int (nI r))]) hx hb dX0_mixedTrader_35 hl (by decide) rfl (fun ls hl => ?_)
  refine lv_iconst (v := 0) hx hb dX0_mixedTrader_37 (by decide) ?_
  refine lv_istore (lv' := [(6, .int (0)), (4, .long (mi (mi (mi d (S 5 r)) (bWb S T R r 0)) (bSh S T r))), (0, .ref (a 13)), (1, .long (d)), (3, .int (nI r))]) hx hb dX0_mixedTrader_38 hl (by decide) rfl (fun ls hl => ?_)
  refine loopU (P := fun i => ∀ ls : Array Slot, lv_has ls 7 [(6, .int (nI i)), (4, .long (lfo (fun d t => mi d (S (7 + r) t)) (mi (mi (mi d (S 5 r)) (bWb S T R r 0)) (bSh S T r)) i)), (0, .ref (a 13)), (3, .int (nI r))] → W p l e ({ frames := 5, cells := 0, slots := 0, locals := 118 } : Room) s m args below meth c s.heap [] 0 0 (MQ below (k2_QcV (.long (bMr S T R d r))) args s 0 0 (fun _ => False)) (F0 m 40 ls [])) (T) ?_ ?_ 0 (by omega) ls (by first | exact lv_sub hl [0, 1, 2, 4] rfl | (simpa using lv_sub hl [0, 1, 2, 4] rfl))
  · intro ls hl
    refine lv_iload hx hb dX0_mixedTrader_40 (lv_at hl 0 rfl) ?_
    refine lv_aload_n hx hb dX0_mixedTrader_42 rfl (lv_at hl 2 rfl) ?_
    refine gB_towerCount hC hB hT dX0_mixedTrader_43 ?_
    refine jge (i := T) (j := T) (tgt := 71) hC dX0_mixedTrader_46 (by decide) rfl rfl (by omega) (by omega) (fun c1 => ?_) (fun c1 => ?_)
    · refine lv_lload hx hb dX0_mixedTrader_71 (lv_at hl 1 rfl) ?_
      exact rd_l hC hr hlocks dX0_mixedTrader_73 (by rfl)
    · exfalso; omega
  · intro i hi ih ls hl
    refine lv_iload hx hb dX0_mixedTrader_40 (lv_at hl 0 rfl) ?_
    refine lv_aload_n hx hb dX0_mixedTrader_42 rfl (lv_at hl 2 rfl) ?_
    refine gB_towerCount hC hB hT dX0_mixedTrader_43 ?_
    refine jge (i := i) (j := T) (tgt := 71) hC dX0_mixedTrader_46 (by decide) rfl rfl (by omega) (by omega) (fun c2 => ?_) (fun c2 => ?_)
    · exfalso; omega
    · refine lv_lload hx hb dX0_mixedTrader_49 (lv_at hl 1 rfl) ?_
      refine lv_aload_n hx hb dX0_mixedTrader_51 rfl (lv_at hl 2 rfl) ?_
      refine gB_held hC hB dX0_mixedTrader_52 ?_
      refine lv_iload_n hx hb dX0_mixedTrader_55 rfl (lv_at hl 3 rfl) ?_
      refine lB_row (r) hC hB rfl (by omega) dX0_mixedTrader_56 ?_
      refine lv_iload hx hb dX0_mixedTrader_57 (lv_at hl 0 rfl) ?_
      refine lB_held (r) (i) hC hB (by omega) rfl (by omega) rfl dX0_mixedTrader_59 ?_
      refine k_X0_mixed hC (c_X0_mixed l (lfo (fun d t => mi d (S (7 + r) t)) (mi (mi (mi d (S 5 r)) (bWb S T R r 0)) (bSh S T r)) i) (S (7 + r) i)) mov_T trivial rfl ⟨rfl, rfl⟩ ⟨Nat.le_of_ble_eq_true rfl, Nat.le_of_ble_eq_true rfl⟩ ⟨Nat.zero_le _, Nat.zero_le _⟩ hl.1 rfl (Nat.le_of_ble_eq_true rfl) dX0_mixedTrader_60 ?_
      refine lv_lstore (lv' := [(4, .long (mi (lfo (fun d t => mi d (S (7 + r) t)) (mi (mi (mi d (S 5 r)) (bWb S T R r 0)) (bSh S T r)) i) (S (7 + r) i))), (6, .int (nI i)), (0, .ref (a 13)), (3, .int (nI r))]) hx hb dX0_mixedTrader_63 hl (by decide) rfl (fun ls hl => ?_)
      refine lv_iinc (v := nI (i + 1)) (lv' := [(6, .int (nI (i + 1))), (4, .long (mi (lfo (fun d t => mi d (S (7 + r) t)) (mi (mi (mi d (S 5 r)) (bWb S T R r 0)) (bSh S T r)) i) (S (7 + r) i))), (0, .ref (a 13)), (3, .int (nI r))]) hx hb dX0_mixedTrader_65 hl (k := 1) rfl (ninc i) (by decide) rfl (fun ls hl => ?_)
      refine lv_goto (tgt := 40) hx hb dX0_mixedTrader_68 (by decide) ?_
      exact ih ls (lv_sub hl [0, 1, 2, 3] rfl)
set_option maxHeartbeats 4000000 in
set_option maxRecDepth 100000 in
theorem c_X0_digest (l : Launch) (D : va_G) (cI cQ : ClassId) (a : Nat → Nat) (S : bS) {T R : Nat} (hI : BI S T R) : Rd l yX0_digest cX0_digest 4 (some .long) ({ frames := 6, cells := 0, slots := 0, locals := 144 } : Room) (BW D cI cQ a S) [.ref (a 13)] (.long (bDg S T R)) := by
  refine Rd.of (by decide) (Nat.le_of_ble_eq_true rfl) ?_
  intro p e s m args below meth c ls hC hr hlocks hB hl
  have hx := hC.1
  have hb := hC.2.1
  obtain ⟨hT, hR, hT8, hR6⟩ := id hI
  have hl : lv_has ls 4 [(0, .ref (a 13))] := hl
  refine lv_ldc2 hx hb hC.2.2.2.1 (v := 2081) (hC.2.2.2.2 _ (List.mem_of_getElem? (i := 534) (by decide +kernel))) dX0_digest_0 ?_
  refine lv_aload_n hx hb dX0_digest_3 rfl (lv_at hl 0 rfl) ?_
  refine gB_second hC hB rfl dX0_digest_4 ?_
  refine k_X0_mixed hC (c_X0_mixed l (2081) (S 6 0)) mov_T trivial rfl ⟨rfl, rfl⟩ ⟨Nat.le_of_ble_eq_true rfl, Nat.le_of_ble_eq_true rfl⟩ ⟨Nat.zero_le _, Nat.zero_le _⟩ hl.1 rfl (Nat.le_of_ble_eq_true rfl) dX0_digest_7 ?_
  refine lv_lstore_n (lv' := [(1, .long (mi 2081 (S 6 0))), (0, .ref (a 13))]) hx hb dX0_digest_10 rfl hl (by decide) rfl (fun ls hl => ?_)
  refine lv_lload_n hx hb dX0_digest_11 rfl (lv_at hl 0 rfl) ?_
  refine lv_aload_n hx hb dX0_digest_12 rfl (lv_at hl 1 rfl) ?_
  refine gB_towerCount hC hB hT dX0_digest_13 ?_
  refine k_X0_mixed hC (c_X0_mixed l (mi 2081 (S 6 0)) (nI T)) mov_T trivial rfl ⟨rfl, rfl⟩ ⟨Nat.le_of_ble_eq_true rfl, Nat.le_of_ble_eq_true rfl⟩ ⟨Nat.zero_le _, Nat.zero_le _⟩ hl.1 rfl (Nat.le_of_ble_eq_true rfl) dX0_digest_16 ?_
  refine lv_lstore_n (lv' := [(1, .long (mi (mi 2081 (S 6 0)) (nI T))), (0, .ref (a 13))]) hx hb dX0_digest_19 rfl hl (by decide) rfl (fun ls hl => ?_)
  refine lv_lload_n hx hb dX0_digest_20 rfl (lv_at hl 0 rfl) ?_
  refine lv_aload_n hx hb dX0_digest_21 rfl (lv_at hl 1 rfl) ?_
  refine gB_traderCount hC hB hR dX0_digest_22 ?_
  refine k_X0_mixed hC (c_X0_mixed l (mi (mi 2081 (S 6 0)) (nI T)) (nI R)) mov_T trivial rfl ⟨rfl, rfl⟩ ⟨Nat.le_of_ble_eq_true rfl, Nat.le_of_ble_eq_true rfl⟩ ⟨Nat.zero_le _, Nat.zero_le _⟩ hl.1 rfl (Nat.le_of_ble_eq_true rfl) dX0_digest_25 ?_
  refine lv_lstore_n (lv' := [(1, .long (mi (mi (mi 2081 (S 6 0)) (nI T)) (nI R))), (0, .ref (a 13))]) hx hb dX0_digest_28 rfl hl (by decide) rfl (fun ls hl => ?_)
  refine lv_lload_n hx hb dX0_digest_29 rfl (lv_at hl 0 rfl) ?_
  refine lv_aload_n hx hb dX0_digest_30 rfl (lv_at hl 1 rfl) ?_
  refine k_X0_dearest hC (c_X0_dearest l D cI cQ a S hI) hB rfl ⟨rfl, rfl⟩ ⟨Nat.le_of_ble_eq_true rfl, Nat.le_of_ble_eq_true rfl⟩ ⟨Nat.zero_le _, Nat.zero_le _⟩ hl.1 rfl (Nat.le_of_ble_eq_true rfl) dX0_digest_31 ?_
  refine k_X0_mixed hC (c_X0_mixed l (mi (mi (mi 2081 (S 6 0)) (nI T)) (nI R)) (oI (bDe S T R))) mov_T trivial rfl ⟨rfl, rfl⟩ ⟨Nat.le_of_ble_eq_true rfl, Nat.le_of_ble_eq_true rfl⟩ ⟨Nat.zero_le _, Nat.zero_le _⟩ hl.1 rfl (Nat.le_of_ble_eq_true rfl) dX0_digest_34 ?_
  refine lv_lstore_n (lv' := [(1, .long (mi (mi (mi (mi 2081 (S 6 0)) (nI T)) (nI R)) (oI (bDe S T R)))), (0, .ref (a 13))]) hx hb dX0_digest_37 rfl hl (by decide) rfl (fun ls hl => ?_)
  refine lv_lload_n hx hb dX0_digest_38 rfl (lv_at hl 0 rfl) ?_
  refine lv_aload_n hx hb dX0_digest_39 rfl (lv_at hl 1 rfl) ?_
  refine k_X0_nextToStrike hC (c_X0_nextToStrike l D cI cQ a S hI) hB rfl ⟨rfl, rfl⟩ ⟨Nat.le_of_ble_eq_true rfl, Nat.le_of_ble_eq_true rfl⟩ ⟨Nat.zero_le _, Nat.zero_le _⟩ hl.1 rfl (Nat.le_of_ble_eq_true rfl) dX0_digest_40 ?_
  refine k_X0_mixed hC (c_X0_mixed l (mi (mi (mi (mi 2081 (S 6 0)) (nI T)) (nI R)) (oI (bDe S T R))) (oI (bNx S T))) mov_T trivial rfl ⟨rfl, rfl⟩ ⟨Nat.le_of_ble_eq_true rfl, Nat.le_of_ble_eq_true rfl⟩ ⟨Nat.zero_le _, Nat.zero_le _⟩ hl.1 rfl (Nat.le_of_ble_eq_true rfl) dX0_digest_43 ?_
  refine lv_lstore_n (lv' := [(1, .long (mi (mi (mi (mi (mi 2081 (S 6 0)) (nI T)) (nI R)) (oI (bDe S T R))) (oI (bNx S T)))), (0, .ref (a 13))]) hx hb dX0_digest_46 rfl hl (by decide) rfl (fun ls hl => ?_)
  refine lv_lload_n hx hb dX0_digest_47 rfl (lv_at hl 0 rfl) ?_
  refine lv_aload_n hx hb dX0_digest_48 rfl (lv_at hl 1 rfl) ?_
  refine k_X0_richest hC (c_X0_richest l D cI cQ a S hI) hB rfl ⟨rfl, rfl⟩ ⟨Nat.le_of_ble_eq_true rfl, Nat.le_of_ble_eq_true rfl⟩ ⟨Nat.zero_le _, Nat.zero_le _⟩ hl.1 rfl (Nat.le_of_ble_eq_true rfl) dX0_digest_49 ?_
  refine k_X0_mixed hC (c_X0_mixed l (mi (mi (mi (mi (mi 2081 (S 6 0)) (nI T)) (nI R)) (oI (bDe S T R))) (oI (bNx S T))) (oI (bRc S T R))) mov_T trivial rfl ⟨rfl, rfl⟩ ⟨Nat.le_of_ble_eq_true rfl, Nat.le_of_ble_eq_true rfl⟩ ⟨Nat.zero_le _, Nat.zero_le _⟩ hl.1 rfl (Nat.le_of_ble_eq_true rfl) dX0_digest_52 ?_
  refine lv_lstore_n (lv' := [(1, .long (mi (mi (mi (mi (mi (mi 2081 (S 6 0)) (nI T)) (nI R)) (oI (bDe S T R))) (oI (bNx S T))) (oI (bRc S T R)))), (0, .ref (a 13))]) hx hb dX0_digest_55 rfl hl (by decide) rfl (fun ls hl => ?_)
  refine lv_lload_n hx hb dX0_digest_56 rfl (lv_at hl 0 rfl) ?_
  refine lv_aload_n hx hb dX0_digest_57 rfl (lv_at hl 1 rfl) ?_
  refine k_X0_inDebt hC (c_X0_inDebt l D cI cQ a S hI) hB rfl ⟨rfl, rfl⟩ ⟨Nat.le_of_ble_eq_true rfl, Nat.le_of_ble_eq_true rfl⟩ ⟨Nat.zero_le _, Nat.zero_le _⟩ hl.1 rfl (Nat.le_of_ble_eq_true rfl) dX0_digest_58 ?_
  refine k_X0_mixed hC (c_X0_mixed l (mi (mi (mi (mi (mi (mi 2081 (S 6 0)) (nI T)) (nI R)) (oI (bDe S T R))) (oI (bNx S T))) (oI (bRc S T R))) (bOw S R)) mov_T trivial rfl ⟨rfl, rfl⟩ ⟨Nat.le_of_ble_eq_true rfl, Nat.le_of_ble_eq_true rfl⟩ ⟨Nat.zero_le _, Nat.zero_le _⟩ hl.1 rfl (Nat.le_of_ble_eq_true rfl) dX0_digest_61 ?_
  refine lv_lstore_n (lv' := [(1, .long (mi (mi (mi (mi (mi (mi (mi 2081 (S 6 0)) (nI T)) (nI R)) (oI (bDe S T R))) (oI (bNx S T))) (oI (bRc S T R))) (bOw S R))), (0, .ref (a 13))]) hx hb dX0_digest_64 rfl hl (by decide) rfl (fun ls hl => ?_)
  refine lv_lload_n hx hb dX0_digest_65 rfl (lv_at hl 0 rfl) ?_
  refine lv_aload_n hx hb dX0_digest_66 rfl (lv_at hl 1 rfl) ?_
  refine k_X0_bestToBuy hC (c_X0_bestToBuy l D cI cQ a S hI) hB rfl ⟨rfl, rfl⟩ ⟨Nat.le_of_ble_eq_true rfl, Nat.le_of_ble_eq_true rfl⟩ ⟨Nat.zero_le _, Nat.zero_le _⟩ hl.1 rfl (Nat.le_of_ble_eq_true rfl) dX0_digest_67 ?_
  refine k_X0_mixed hC (c_X0_mixed l (mi (mi (mi (mi (mi (mi (mi 2081 (S 6 0)) (nI T)) (nI R)) (oI (bDe S T R))) (oI (bNx S T))) (oI (bRc S T R))) (bOw S R)) (oI (bBu S T R))) mov_T trivial rfl ⟨rfl, rfl⟩ ⟨Nat.le_of_ble_eq_true rfl, Nat.le_of_ble_eq_true rfl⟩ ⟨Nat.zero_le _, Nat.zero_le _⟩ hl.1 rfl (Nat.le_of_ble_eq_true rfl) dX0_digest_70 ?_
  refine lv_lstore_n (lv' := [(1, .long (mi (mi (mi (mi (mi (mi (mi (mi 2081 (S 6 0)) (nI T)) (nI R)) (oI (bDe S T R))) (oI (bNx S T))) (oI (bRc S T R))) (bOw S R)) (oI (bBu S T R)))), (0, .ref (a 13))]) hx hb dX0_digest_73 rfl hl (by decide) rfl (fun ls hl => ?_)
  refine lv_iconst (v := 0) hx hb dX0_digest_74 (by decide) ?_
  refine lv_istore_n (lv' := [(3, .int (0)), (1, .long (mi (mi (mi (mi (mi (mi (mi (mi 2081 (S 6 0)) (nI T)) (nI R)) (oI (bDe S T R))) (oI (bNx S T))) (oI (bRc S T R))) (bOw S R)) (oI (bBu S T R)))), (0, .ref (a 13))]) hx hb dX0_digest_75 rfl hl (by decide) rfl (fun ls hl => ?_)
  refine loopU (P := fun i => ∀ ls : Array Slot, lv_has ls 4 [(3, .int (nI i)), (1, .long (lfo (bMt S R) (mi (mi (mi (mi (mi (mi (mi (mi 2081 (S 6 0)) (nI T)) (nI R)) (oI (bDe S T R))) (oI (bNx S T))) (oI (bRc S T R))) (bOw S R)) (oI (bBu S T R))) i)), (0, .ref (a 13))] → W p l e ({ frames := 6, cells := 0, slots := 0, locals := 144 } : Room) s m args below meth c s.heap [] 0 0 (MQ below (k2_QcV (.long (bDg S T R))) args s 0 0 (fun _ => False)) (F0 m 76 ls [])) (T) ?_ ?_ 0 (by omega) ls (by first | exact lv_sub hl [0, 1, 2] rfl | (simpa using lv_sub hl [0, 1, 2] rfl))
  · intro ls hl
    refine lv_iload_n hx hb dX0_digest_76 rfl (lv_at hl 0 rfl) ?_
    refine lv_aload_n hx hb dX0_digest_77 rfl (lv_at hl 2 rfl) ?_
    refine gB_towerCount hC hB hT dX0_digest_78 ?_
    refine jge (i := T) (j := T) (tgt := 97) hC dX0_digest_81 (by decide) rfl rfl (by omega) (by omega) (fun c1 => ?_) (fun c1 => ?_)
    · refine lv_iconst (v := 0) hx hb dX0_digest_97 (by decide) ?_
      refine lv_istore_n (lv' := [(3, .int (0)), (1, .long (lfo (bMt S R) (mi (mi (mi (mi (mi (mi (mi (mi 2081 (S 6 0)) (nI T)) (nI R)) (oI (bDe S T R))) (oI (bNx S T))) (oI (bRc S T R))) (bOw S R)) (oI (bBu S T R))) T)), (0, .ref (a 13))]) hx hb dX0_digest_98 rfl hl (by decide) rfl (fun ls hl => ?_)
      refine loopU (P := fun i => ∀ ls : Array Slot, lv_has ls 4 [(3, .int (nI i)), (1, .long (lfo (bMr S T R) (lfo (bMt S R) (mi (mi (mi (mi (mi (mi (mi (mi 2081 (S 6 0)) (nI T)) (nI R)) (oI (bDe S T R))) (oI (bNx S T))) (oI (bRc S T R))) (bOw S R)) (oI (bBu S T R))) T) i)), (0, .ref (a 13))] → W p l e ({ frames := 6, cells := 0, slots := 0, locals := 144 } : Room) s m args below meth c s.heap [] 0 0 (MQ below (k2_QcV (.long (bDg S T R))) args s 0 0 (fun _ => False)) (F0 m 99 ls [])) (R) ?_ ?_ 0 (by omega) ls (by first | exact lv_sub hl [0, 1, 2] rfl | (simpa using lv_sub hl [0, 1, 2] rfl))
      · intro ls hl
        refine lv_iload_n hx hb dX0_digest_99 rfl (lv_at hl 0 rfl) ?_
        refine lv_aload_n hx hb dX0_digest_100 rfl (lv_at hl 2 rfl) ?_
        refine gB_traderCount hC hB hR dX0_digest_101 ?_
        refine jge (i := R) (j := R) (tgt := 120) hC dX0_digest_104 (by decide) rfl rfl (by omega) (by omega) (fun c2 => ?_) (fun c2 => ?_)
        · refine lv_lload_n hx hb dX0_digest_120 rfl (lv_at hl 1 rfl) ?_
          exact rd_l hC hr hlocks dX0_digest_121 (by rfl)
        · exfalso; omega
      · intro i hi ih ls hl
        refine lv_iload_n hx hb dX0_digest_99 rfl (lv_at hl 0 rfl) ?_
        refine lv_aload_n hx hb dX0_digest_100 rfl (lv_at hl 2 rfl) ?_
        refine gB_traderCount hC hB hR dX0_digest_101 ?_
        refine jge (i := i) (j := R) (tgt := 120) hC dX0_digest_104 (by decide) rfl rfl (by omega) (by omega) (fun c3 => ?_) (fun c3 => ?_)
        · exfalso; omega
        · refine lv_aload_n hx hb dX0_digest_107 rfl (lv_at hl 2 rfl) ?_
          refine lv_lload_n hx hb dX0_digest_108 rfl (lv_at hl 1 rfl) ?_
          refine lv_iload_n hx hb dX0_digest_109 rfl (lv_at hl 0 rfl) ?_
          refine k_X0_mixedTrader hC (c_X0_mixedTrader l D cI cQ a S (r := i) (lfo (bMr S T R) (lfo (bMt S R) (mi (mi (mi (mi (mi (mi (mi (mi 2081 (S 6 0)) (nI T)) (nI R)) (oI (bDe S T R))) (oI (bNx S T))) (oI (bRc S T R))) (bOw S R)) (oI (bBu S T R))) T) i) hI (by omega)) hB rfl ⟨rfl, rfl⟩ ⟨Nat.le_of_ble_eq_true rfl, Nat.le_of_ble_eq_true rfl⟩ ⟨Nat.zero_le _, Nat.zero_le _⟩ hl.1 rfl (Nat.le_of_ble_eq_true rfl) dX0_digest_110 ?_
          refine lv_lstore_n (lv' := [(1, .long (bMr S T R (lfo (bMr S T R) (lfo (bMt S R) (mi (mi (mi (mi (mi (mi (mi (mi 2081 (S 6 0)) (nI T)) (nI R)) (oI (bDe S T R))) (oI (bNx S T))) (oI (bRc S T R))) (bOw S R)) (oI (bBu S T R))) T) i) i)), (3, .int (nI i)), (0, .ref (a 13))]) hx hb dX0_digest_113 rfl hl (by decide) rfl (fun ls hl => ?_)
          refine lv_iinc (v := nI (i + 1)) (lv' := [(3, .int (nI (i + 1))), (1, .long (bMr S T R (lfo (bMr S T R) (lfo (bMt S R) (mi (mi (mi (mi (mi (mi (mi (mi 2081 (S 6 0)) (nI T)) (nI R)) (oI (bDe S T R))) (oI (bNx S T))) (oI (bRc S T R))) (bOw S R)) (oI (bBu S T R))) T) i) i)), (0, .ref (a 13))]) hx hb dX0_digest_114 hl (k := 1) rfl (ninc i) (by decide) rfl (fun ls hl => ?_)
          refine lv_goto (tgt := 99) hx hb dX0_digest_117 (by decide) ?_
          exact ih ls (lv_sub hl [0, 1, 2] rfl)
    · exfalso; omega
  · intro i hi ih ls hl
    refine lv_iload_n hx hb dX0_digest_76 rfl (lv_at hl 0 rfl) ?_
    refine lv_aload_n hx hb dX0_digest_77 rfl (lv_at hl 2 rfl) ?_
    refine gB_towerCount hC hB hT dX0_digest_78 ?_
    refine jge (i := i) (j := T) (tgt := 97) hC dX0_digest_81 (by decide) rfl rfl (by omega) (by omega) (fun c4 => ?_) (fun c4 => ?_)
    · exfalso; omega
    · refine lv_aload_n hx hb dX0_digest_84 rfl (lv_at hl 2 rfl) ?_
      refine lv_lload_n hx hb dX0_digest_85 rfl (lv_at hl 1 rfl) ?_
      refine lv_iload_n hx hb dX0_digest_86 rfl (lv_at hl 0 rfl) ?_
      refine k_X0_mixedTower hC (c_X0_mixedTower l D cI cQ a S (t := i) (lfo (bMt S R) (mi (mi (mi (mi (mi (mi (mi (mi 2081 (S 6 0)) (nI T)) (nI R)) (oI (bDe S T R))) (oI (bNx S T))) (oI (bRc S T R))) (bOw S R)) (oI (bBu S T R))) i) hI (by omega)) hB rfl ⟨rfl, rfl⟩ ⟨Nat.le_of_ble_eq_true rfl, Nat.le_of_ble_eq_true rfl⟩ ⟨Nat.zero_le _, Nat.zero_le _⟩ hl.1 rfl (Nat.le_of_ble_eq_true rfl) dX0_digest_87 ?_
      refine lv_lstore_n (lv' := [(1, .long (bMt S R (lfo (bMt S R) (mi (mi (mi (mi (mi (mi (mi (mi 2081 (S 6 0)) (nI T)) (nI R)) (oI (bDe S T R))) (oI (bNx S T))) (oI (bRc S T R))) (bOw S R)) (oI (bBu S T R))) i) i)), (3, .int (nI i)), (0, .ref (a 13))]) hx hb dX0_digest_90 rfl hl (by decide) rfl (fun ls hl => ?_)
      refine lv_iinc (v := nI (i + 1)) (lv' := [(3, .int (nI (i + 1))), (1, .long (bMt S R (lfo (bMt S R) (mi (mi (mi (mi (mi (mi (mi (mi 2081 (S 6 0)) (nI T)) (nI R)) (oI (bDe S T R))) (oI (bNx S T))) (oI (bRc S T R))) (bOw S R)) (oI (bBu S T R))) i) i)), (0, .ref (a 13))]) hx hb dX0_digest_91 hl (k := 1) rfl (ninc i) (by decide) rfl (fun ls hl => ?_)
      refine lv_goto (tgt := 76) hx hb dX0_digest_94 (by decide) ?_
      exact ih ls (lv_sub hl [0, 1, 2] rfl)
end
section
/-- as Rd.of, for a method of a class that is not plainly named -/
theorem Rd.ofF {l : Launch} {y : MethodName} {bytes : ByteArray} {n : Nat} {ret : Option FieldType} {rm : Room} {Wd : State → Heap → Prop} {As : List Value} {v : Value} (hy : plainFor y = true) (hn : (lg_sl As).length ≤ n)
    (body : ∀ (p : Program) (e : Env) (s : State) (m : MethodId) (args : Array Value) (below : List Frame) (meth : Method) (c : Code) (ls : Array Slot), CallFix p m c bytes n s args wsL_law y.cls → meth.sig.returnType = ret → meth.locks = false → Wd s s.heap → lv_has ls n (lv_args 0 As) →
      W p l e rm s m args below meth c s.heap [] 0 0 (MQ below (k2_QcV v) args s 0 0 (fun _ => False)) (F0 m 0 ls [])) : Rd l y bytes n ret rm Wd As v := by
  unfold Rd Met
  refine MetFree.of_bodySF (code := bytes) (maxLocals := n) (ret := ret) hy ?_ ?_
  · intro args s m h hn
    obtain ⟨meth, c, h1, h2, h3, h4, h5, h6, -, -⟩ := Cond.code_spec hn (atoms_spec (ws := wq y bytes n ret) h _ List.mem_cons_self)
    exact ⟨meth, c, h1, h2, h3, h4, h5, h6⟩
  · intro p e s m args below meth c s₁ B hml hP _
    have hh0 : s₁.heap = s.heap := by rw [B.state]; rfl
    obtain ⟨rfl, hw⟩ := hP
    have hl := lv_entry As (n := n) hn
    have key := body p e s m _ below meth c _ ⟨B.exec, B.bytes, hml, findClass_of_methodNamed B.named, fun w h => atoms_spec (ws := wq y bytes n ret) B.pre w (List.mem_cons_of_mem _ h)⟩ B.returns B.notSynchronized hw hl
    rw [← lg_entry_eq] at key
    obtain ⟨t, a1, o, b1, b2, b3⟩ := key s₁ hh0 (Stand.of_body B)
    exact ⟨t, o, a1, b1, b2, ⟨b3.1, b3.2⟩⟩
set_option maxHeartbeats 4000000 in
set_option maxRecDepth 100000 in
theorem c_J9_floorMod_7cf53 (l : Launch) (x y : Int32) (hy : ¬ y = 0) : Rd l yJ9_floorMod_7cf53 cJ9_floorMod_7cf53 3 (some .int) ({ frames := 0, cells := 0, slots := 0, locals := 0 } : Room) (fun _ _ => True) [.int (x), .int (y)] (.int (flm x y)) := by
  refine Rd.ofF (by decide +kernel) (Nat.le_of_ble_eq_true rfl) ?_
  intro p e s m args below meth c ls hC hr hlocks hB hl
  have hx := hC.1
  have hb := hC.2.1
  have hl : lv_has ls 3 [(0, .int (x)), (1, .int (y))] := hl
  refine lv_iload_n hx hb dJ9_floorMod_7cf53_0 rfl (lv_at hl 0 rfl) ?_
  refine lv_iload_n hx hb dJ9_floorMod_7cf53_1 rfl (lv_at hl 1 rfl) ?_
  refine lv_irem hx hb dJ9_floorMod_7cf53_2 (hy) ?_
  refine lv_istore_n (lv' := [(2, .int (rmi x y)), (0, .int (x)), (1, .int (y))]) hx hb dJ9_floorMod_7cf53_3 rfl hl (by decide) rfl (fun ls hl => ?_)
  refine lv_iload_n hx hb dJ9_floorMod_7cf53_4 rfl (lv_at hl 1 rfl) ?_
  refine lv_iload_n hx hb dJ9_floorMod_7cf53_5 rfl (lv_at hl 2 rfl) ?_
  refine lv_ixor hx hb dJ9_floorMod_7cf53_6 ?_
  refine lv_if_ge (tgt := 18) hx hb dJ9_floorMod_7cf53_7 (by decide) (fun c1 => ?_) (fun c1 => ?_)
  · refine lv_iload_n hx hb dJ9_floorMod_7cf53_18 rfl (lv_at hl 0 rfl) ?_
    exact rd_i hC hr hlocks dJ9_floorMod_7cf53_19 (by unfold flm; rw [if_pos c1])
  · refine lv_iload_n hx hb dJ9_floorMod_7cf53_10 rfl (lv_at hl 0 rfl) ?_
    refine lv_if_eq (tgt := 18) hx hb dJ9_floorMod_7cf53_11 (by decide) (fun c2 => ?_) (fun c2 => ?_)
    · refine lv_iload_n hx hb dJ9_floorMod_7cf53_18 rfl (lv_at hl 0 rfl) ?_
      exact rd_i hC hr hlocks dJ9_floorMod_7cf53_19 (by unfold flm; rw [if_neg c1, if_pos c2])
    · refine lv_iload_n hx hb dJ9_floorMod_7cf53_14 rfl (lv_at hl 0 rfl) ?_
      refine lv_iload_n hx hb dJ9_floorMod_7cf53_15 rfl (lv_at hl 2 rfl) ?_
      refine lv_iadd hx hb dJ9_floorMod_7cf53_16 ?_
      exact rd_i hC hr hlocks dJ9_floorMod_7cf53_17 (by unfold flm; rw [if_neg c1, if_neg c2])
set_option maxHeartbeats 4000000 in
set_option maxRecDepth 100000 in
theorem c_X0_strike (l : Launch) (D : va_G) (cI cQ : ClassId) (a : Nat → Nat) (S : bS) {T R : Nat} {t : Nat} (hI : BI S T R) (ht : t < T) : Wr l yX0_strike cX0_strike 4 none ({ frames := 4, cells := 0, slots := 0, locals := 88 } : Room) (BW D cI cQ a S) (BW D cI cQ a (bStr S R t)) (inB a) [.ref (a 13), .int (nI t)] none 0 0 := by
  refine Wr.of (by decide) (Nat.le_of_ble_eq_true rfl) ?_
  intro p e s m args below meth c ls hC hr hlocks hB hS hl
  have hx := hC.1
  have hb := hC.2.1
  have hA : ∀ q, (inB a) q → (inB a) q := fun _ h => h
  obtain ⟨hT, hR, hT8, hR6⟩ := id hI
  have hl : lv_has ls 4 [(0, .ref (a 13)), (1, .int (nI t))] := hl
  refine lv_aload_n hx hb dX0_strike_0 rfl (lv_at hl 0 rfl) ?_
  refine lv_iload_n hx hb dX0_strike_1 rfl (lv_at hl 1 rfl) ?_
  refine k_X0_priceNow hC (c_X0_priceNow l D cI cQ a S hI (t := t) (by omega)) hB rfl ⟨rfl, rfl⟩ ⟨Nat.le_of_ble_eq_true rfl, Nat.le_of_ble_eq_true rfl⟩ ⟨Nat.zero_le _, Nat.zero_le _⟩ hl.1 rfl (Nat.le_of_ble_eq_true rfl) dX0_strike_2 ?_
  refine lv_istore_n (lv' := [(2, .int (bPr S R t)), (0, .ref (a 13)), (1, .int (nI t))]) hx hb dX0_strike_5 rfl hl (by decide) rfl (fun ls hl => ?_)
  refine lv_iconst (v := 0) hx hb dX0_strike_6 (by decide) ?_
  refine lv_istore_n (lv' := [(3, .int (0)), (2, .int (bPr S R t)), (0, .ref (a 13)), (1, .int (nI t))]) hx hb dX0_strike_7 rfl hl (by decide) rfl (fun ls hl => ?_)
  refine loopU (P := fun i => ∀ (H : Heap) (locs : List Loc), BW D cI cQ a (bSt1 S (bPr S R t) t i) s H → va_S (inB a) s.heap H locs → ∀ ls : Array Slot, lv_has ls 4 [(3, .int (nI i)), (2, .int (bPr S R t)), (0, .ref (a 13)), (1, .int (nI t))] → W p l e ({ frames := 4, cells := 0, slots := 0, locals := 88 } : Room) s m args below meth c H locs 0 0 (MQ below (qW none (BW D cI cQ a (bStr S R t)) (inB a)) args s 0 0 (inB a)) (F0 m 8 ls [])) (R) ?_ ?_ 0 (by omega) s.heap [] hB hS ls (by first | exact lv_sub hl [0, 1, 2, 3] rfl | (simpa using lv_sub hl [0, 1, 2, 3] rfl))
  · intro H locs hB hS ls hl
    refine lv_iload_n hx hb dX0_strike_8 rfl (lv_at hl 0 rfl) ?_
    refine lv_aload_n hx hb dX0_strike_9 rfl (lv_at hl 2 rfl) ?_
    refine gB_traderCount hC hB ((bSt1_row S _ t 2 (by decide) (by decide) _).trans hR) dX0_strike_10 ?_
    refine jge (i := R) (j := R) (tgt := 50) hC dX0_strike_13 (by decide) rfl rfl (by omega) (by omega) (fun c1 => ?_) (fun c1 => ?_)
    · refine lv_aload_n hx hb dX0_strike_50 rfl (lv_at hl 2 rfl) ?_
      refine gB_silence hC hB dX0_strike_51 ?_
      refine lv_iload_n hx hb dX0_strike_54 rfl (lv_at hl 3 rfl) ?_
      refine lv_iconst (v := 0) hx hb dX0_strike_55 (by decide) ?_
      refine sB_silence (t) hC hB rfl (by omega) hS hA dX0_strike_56 (fun H locs hB hS => ?_)
      refine lv_aload_n hx hb dX0_strike_57 rfl (lv_at hl 2 rfl) ?_
      refine gB_strokes hC hB dX0_strike_58 ?_
      refine lv_iload_n hx hb dX0_strike_61 rfl (lv_at hl 3 rfl) ?_
      refine lv_dup2_11 hx hb dX0_strike_62 rfl rfl ?_
      refine lB_strokes (t) hC hB rfl (by omega) (by rw [up2_ne _ _ (by omega)]) dX0_strike_63 ?_
      refine lv_iconst (v := 1) hx hb dX0_strike_64 (by decide) ?_
      refine lv_iadd hx hb dX0_strike_65 ?_
      refine sB_strokes (t) hC hB rfl (by omega) hS hA dX0_strike_66 (fun H locs hB hS => ?_)
      refine lv_aload_n hx hb dX0_strike_67 rfl (lv_at hl 2 rfl) ?_
      refine gB_untilStroke hC hB dX0_strike_68 ?_
      refine lv_iload_n hx hb dX0_strike_71 rfl (lv_at hl 3 rfl) ?_
      refine lv_aload_n hx hb dX0_strike_72 rfl (lv_at hl 2 rfl) ?_
      refine gB_period hC hB dX0_strike_73 ?_
      refine lv_iload_n hx hb dX0_strike_76 rfl (lv_at hl 3 rfl) ?_
      refine lB_period (t) hC hB rfl (by omega) (by rw [up2_ne _ _ (by omega), up2_ne _ _ (by omega)]) dX0_strike_77 ?_
      refine sB_untilStroke (t) hC hB rfl (by omega) hS hA dX0_strike_78 (fun H locs hB hS => ?_)
      exact wr_v hC hr hlocks mov_B (hB) hS dX0_strike_79
    · exfalso; omega
  · intro i hi ih H locs hB hS ls hl
    refine lv_iload_n hx hb dX0_strike_8 rfl (lv_at hl 0 rfl) ?_
    refine lv_aload_n hx hb dX0_strike_9 rfl (lv_at hl 2 rfl) ?_
    refine gB_traderCount hC hB ((bSt1_row S _ t 2 (by decide) (by decide) _).trans hR) dX0_strike_10 ?_
    refine jge (i := i) (j := R) (tgt := 50) hC dX0_strike_13 (by decide) rfl rfl (by omega) (by omega) (fun c5 => ?_) (fun c5 => ?_)
    · exfalso; omega
    · refine lv_aload_n hx hb dX0_strike_16 rfl (lv_at hl 2 rfl) ?_
      refine gB_purse hC hB dX0_strike_17 ?_
      refine lv_iload_n hx hb dX0_strike_20 rfl (lv_at hl 0 rfl) ?_
      refine lv_dup2_11 hx hb dX0_strike_21 rfl rfl ?_
      refine lB_purse (i) hC hB rfl (by omega) rfl dX0_strike_22 ?_
      refine lv_iload_n hx hb dX0_strike_23 rfl (lv_at hl 1 rfl) ?_
      refine lv_aload_n hx hb dX0_strike_24 rfl (lv_at hl 2 rfl) ?_
      refine gB_held hC hB dX0_strike_25 ?_
      refine lv_iload_n hx hb dX0_strike_28 rfl (lv_at hl 0 rfl) ?_
      refine lB_row (i) hC hB rfl (by omega) dX0_strike_29 ?_
      refine lv_iload_n hx hb dX0_strike_30 rfl (lv_at hl 3 rfl) ?_
      refine lB_held (i) (t) hC hB (by omega) rfl (by omega) rfl dX0_strike_31 ?_
      refine lv_imul hx hb dX0_strike_32 ?_
      refine lv_iadd hx hb dX0_strike_33 ?_
      refine sB_purse (i) hC hB rfl (by omega) hS hA dX0_strike_34 (fun H locs hB hS => ?_)
      refine lv_aload_n hx hb dX0_strike_35 rfl (lv_at hl 2 rfl) ?_
      refine gB_held hC hB dX0_strike_36 ?_
      refine lv_iload_n hx hb dX0_strike_39 rfl (lv_at hl 0 rfl) ?_
      refine lB_row (i) hC hB rfl (by omega) dX0_strike_40 ?_
      refine lv_iload_n hx hb dX0_strike_41 rfl (lv_at hl 3 rfl) ?_
      refine lv_iconst (v := 0) hx hb dX0_strike_42 (by decide) ?_
      refine sB_held (i) (t) hC hB (by omega) rfl (by omega) hS hA dX0_strike_43 (fun H locs hB hS => ?_)
      refine lv_iinc (v := nI (i + 1)) (lv' := [(3, .int (nI (i + 1))), (2, .int (bPr S R t)), (0, .ref (a 13)), (1, .int (nI t))]) hx hb dX0_strike_44 hl (k := 0) rfl (ninc i) (by decide) rfl (fun ls hl => ?_)
      refine lv_goto (tgt := 8) hx hb dX0_strike_47 (by decide) ?_
      exact ih H locs (hB) hS ls (lv_sub hl [0, 1, 2, 3] rfl)
set_option maxHeartbeats 4000000 in
set_option maxRecDepth 100000 in
theorem c_X0_goOneSecond (l : Launch) (D : va_G) (cI cQ : ClassId) (a : Nat → Nat) (S : bS) {T R : Nat} (hI : BI S T R) : Wr l yX0_goOneSecond cX0_goOneSecond 3 (some .int) ({ frames := 5, cells := 0, slots := 0, locals := 111 } : Room) (BW D cI cQ a S) (BW D cI cQ a (bGo S R T)) (inB a) [.ref (a 13)] (some (.int (bGc S R T))) 0 0 := by
  refine Wr.of (by decide) (Nat.le_of_ble_eq_true rfl) ?_
  intro p e s m args below meth c ls hC hr hlocks hB hS hl
  have hx := hC.1
  have hb := hC.2.1
  have hA : ∀ q, (inB a) q → (inB a) q := fun _ h => h
  obtain ⟨hT, hR, hT8, hR6⟩ := id hI
  have hl : lv_has ls 3 [(0, .ref (a 13))] := hl
  refine lv_aload_n hx hb dX0_goOneSecond_0 rfl (lv_at hl 0 rfl) ?_
  refine lv_dup hx hb dX0_goOneSecond_1 rfl ?_
  refine gB_second hC hB rfl dX0_goOneSecond_2 ?_
  refine lv_iconst (v := 1) hx hb dX0_goOneSecond_5 (by decide) ?_
  refine lv_iadd hx hb dX0_goOneSecond_6 ?_
  refine pB_second hC hB hS hA dX0_goOneSecond_7 (fun H locs hB hS => ?_)
  refine lv_iconst (v := 0) hx hb dX0_goOneSecond_10 (by decide) ?_
  refine lv_istore_n (lv' := [(1, .int (0)), (0, .ref (a 13))]) hx hb dX0_goOneSecond_11 rfl hl (by decide) rfl (fun ls hl => ?_)
  refine lv_iconst (v := 0) hx hb dX0_goOneSecond_12 (by decide) ?_
  refine lv_istore_n (lv' := [(2, .int (0)), (1, .int (0)), (0, .ref (a 13))]) hx hb dX0_goOneSecond_13 rfl hl (by decide) rfl (fun ls hl => ?_)
  refine loopU (P := fun i => ∀ (H : Heap) (locs : List Loc), BW D cI cQ a (bGo S R i) s H → va_S (inB a) s.heap H locs → ∀ ls : Array Slot, lv_has ls 3 [(2, .int (nI i)), (1, .int (bGc S R i)), (0, .ref (a 13))] → W p l e ({ frames := 5, cells := 0, slots := 0, locals := 111 } : Room) s m args below meth c H locs 0 0 (MQ below (qW (some (.int (bGc S R T))) (BW D cI cQ a (bGo S R T)) (inB a)) args s 0 0 (inB a)) (F0 m 14 ls [])) (T) ?_ ?_ 0 (by omega) H locs hB hS ls (by first | exact lv_sub hl [0, 1, 2] rfl | (simpa using lv_sub hl [0, 1, 2] rfl))
  · intro H locs hB hS ls hl
    refine lv_iload_n hx hb dX0_goOneSecond_14 rfl (lv_at hl 0 rfl) ?_
    refine lv_aload_n hx hb dX0_goOneSecond_15 rfl (lv_at hl 2 rfl) ?_
    refine gB_towerCount hC hB ((BI_go hI).1) dX0_goOneSecond_16 ?_
    refine jge (i := T) (j := T) (tgt := 69) hC dX0_goOneSecond_19 (by decide) rfl rfl (by omega) (by omega) (fun c1 => ?_) (fun c1 => ?_)
    · refine lv_iload_n hx hb dX0_goOneSecond_69 rfl (lv_at hl 1 rfl) ?_
      exact wr_i hC hr hlocks mov_B (hB) hS dX0_goOneSecond_70 (by rfl)
    · exfalso; omega
  · intro i hi ih H locs hB hS ls hl
    refine lv_iload_n hx hb dX0_goOneSecond_14 rfl (lv_at hl 0 rfl) ?_
    refine lv_aload_n hx hb dX0_goOneSecond_15 rfl (lv_at hl 2 rfl) ?_
    refine gB_towerCount hC hB ((BI_go hI).1) dX0_goOneSecond_16 ?_
    refine jge (i := i) (j := T) (tgt := 69) hC dX0_goOneSecond_19 (by decide) rfl rfl (by omega) (by omega) (fun c2 => ?_) (fun c2 => ?_)
    · exfalso; omega
    · refine lv_aload_n hx hb dX0_goOneSecond_22 rfl (lv_at hl 2 rfl) ?_
      refine gB_untilStroke hC hB dX0_goOneSecond_23 ?_
      refine lv_iload_n hx hb dX0_goOneSecond_26 rfl (lv_at hl 0 rfl) ?_
      refine lB_untilStroke (i) hC hB rfl (by omega) rfl dX0_goOneSecond_27 ?_
      refine lv_iconst (v := 1) hx hb dX0_goOneSecond_28 (by decide) ?_
      refine lv_icmp_gt (tgt := 43) hx hb dX0_goOneSecond_29 (by decide) (fun c3 => ?_) (fun c3 => ?_)
      · refine lv_aload_n hx hb dX0_goOneSecond_43 rfl (lv_at hl 2 rfl) ?_
        refine gB_untilStroke hC hB dX0_goOneSecond_44 ?_
        refine lv_iload_n hx hb dX0_goOneSecond_47 rfl (lv_at hl 0 rfl) ?_
        refine lv_dup2_11 hx hb dX0_goOneSecond_48 rfl rfl ?_
        refine lB_untilStroke (i) hC hB rfl (by omega) rfl dX0_goOneSecond_49 ?_
        refine lv_iconst (v := 1) hx hb dX0_goOneSecond_50 (by decide) ?_
        refine lv_isub hx hb dX0_goOneSecond_51 ?_
        refine sB_untilStroke (i) hC hB rfl (by omega) hS hA dX0_goOneSecond_52 (fun H locs hB hS => ?_)
        refine lv_aload_n hx hb dX0_goOneSecond_53 rfl (lv_at hl 2 rfl) ?_
        refine gB_silence hC hB dX0_goOneSecond_54 ?_
        refine lv_iload_n hx hb dX0_goOneSecond_57 rfl (lv_at hl 0 rfl) ?_
        refine lv_dup2_11 hx hb dX0_goOneSecond_58 rfl rfl ?_
        refine lB_silence (i) hC hB rfl (by omega) (by rw [up2_ne _ _ (by omega)]) dX0_goOneSecond_59 ?_
        refine lv_iconst (v := 1) hx hb dX0_goOneSecond_60 (by decide) ?_
        refine lv_iadd hx hb dX0_goOneSecond_61 ?_
        refine sB_silence (i) hC hB rfl (by omega) hS hA dX0_goOneSecond_62 (fun H locs hB hS => ?_)
        refine lv_iinc (v := nI (i + 1)) (lv' := [(2, .int (nI (i + 1))), (1, .int (bGc S R i)), (0, .ref (a 13))]) hx hb dX0_goOneSecond_63 hl (k := 0) rfl (ninc i) (by decide) rfl (fun ls hl => ?_)
        refine lv_goto (tgt := 14) hx hb dX0_goOneSecond_66 (by decide) ?_
        have e6 : bGc S R (i + 1) = bGc S R i := by rw [bGc_keep c3] <;> rfl
        exact ih H locs (by rw [bGo_keep c3]; exact hB) hS ls (by rw [e6]; exact lv_sub hl [0, 1, 2] rfl)
      · refine lv_aload_n hx hb dX0_goOneSecond_32 rfl (lv_at hl 2 rfl) ?_
        refine lv_iload_n hx hb dX0_goOneSecond_33 rfl (lv_at hl 0 rfl) ?_
        refine kw_X0_strike hC (c_X0_strike l D cI cQ a (bGo S R i) (BI_go hI) (t := i) (by omega)) hB rfl ⟨rfl, rfl⟩ ⟨Nat.le_of_ble_eq_true rfl, Nat.le_of_ble_eq_true rfl⟩ ⟨Nat.le_of_ble_eq_true rfl, Nat.le_of_ble_eq_true rfl⟩ hS hA hl.1 rfl (Nat.le_of_ble_eq_true rfl) dX0_goOneSecond_34 (fun H locs hB hS => ?_)
        refine lv_iinc (v := (bGc S R i) + 1) (lv' := [(1, .int ((bGc S R i) + 1)), (2, .int (nI i)), (0, .ref (a 13))]) hx hb dX0_goOneSecond_37 hl (k := 1) rfl (rfl) (by decide) rfl (fun ls hl => ?_)
        refine lv_goto (tgt := 63) hx hb dX0_goOneSecond_40 (by decide) ?_
        refine lv_iinc (v := nI (i + 1)) (lv' := [(2, .int (nI (i + 1))), (1, .int ((bGc S R i) + 1)), (0, .ref (a 13))]) hx hb dX0_goOneSecond_63 hl (k := 1) rfl (ninc i) (by decide) rfl (fun ls hl => ?_)
        refine lv_goto (tgt := 14) hx hb dX0_goOneSecond_66 (by decide) ?_
        have e7 : bGc S R (i + 1) = (bGc S R i) + 1 := by rw [bGc_str c3] <;> rfl
        exact ih H locs (by rw [bGo_str c3]; exact hB) hS ls (by rw [e7]; exact lv_sub hl [0, 1, 2] rfl)
set_option maxHeartbeats 4000000 in
set_option maxRecDepth 100000 in
theorem c_X0_pass (l : Launch) (D : va_G) (cI cQ : ClassId) (a : Nat → Nat) (S : bS) {T R : Nat} {k : Nat} (hI : BI S T R) (hk1 : 1 ≤ k) (hk9 : k ≤ 60) : Wr l yX0_pass cX0_pass 4 (some .int) ({ frames := 6, cells := 0, slots := 0, locals := 133 } : Room) (BW D cI cQ a S) (BW D cI cQ a (bPa S T R k)) (inB a) [.ref (a 13), .int (nI k)] (some (.int (bPc S T R k))) 0 0 := by
  refine Wr.of (by decide) (Nat.le_of_ble_eq_true rfl) ?_
  intro p e s m args below meth c ls hC hr hlocks hB hS hl
  have hx := hC.1
  have hb := hC.2.1
  have hA : ∀ q, (inB a) q → (inB a) q := fun _ h => h
  obtain ⟨hT, hR, hT8, hR6⟩ := id hI
  have hl : lv_has ls 4 [(0, .ref (a 13)), (1, .int (nI k))] := hl
  refine lv_iload_n hx hb dX0_pass_0 rfl (lv_at hl 1 rfl) ?_
  refine kn_X0_requirePassable hC (c_X0_requirePassable l (k := k) (by omega) (by omega)) mov_T trivial rfl ⟨rfl, rfl⟩ ⟨Nat.le_of_ble_eq_true rfl, Nat.le_of_ble_eq_true rfl⟩ ⟨Nat.zero_le _, Nat.zero_le _⟩ hl.1 rfl (Nat.le_of_ble_eq_true rfl) dX0_pass_1 ?_
  refine lv_iconst (v := 0) hx hb dX0_pass_4 (by decide) ?_
  refine lv_istore_n (lv' := [(2, .int (0)), (0, .ref (a 13)), (1, .int (nI k))]) hx hb dX0_pass_5 rfl hl (by decide) rfl (fun ls hl => ?_)
  refine lv_iconst (v := 0) hx hb dX0_pass_6 (by decide) ?_
  refine lv_istore_n (lv' := [(3, .int (0)), (2, .int (0)), (0, .ref (a 13)), (1, .int (nI k))]) hx hb dX0_pass_7 rfl hl (by decide) rfl (fun ls hl => ?_)
  refine loopU (P := fun i => ∀ (H : Heap) (locs : List Loc), BW D cI cQ a (bPa S T R i) s H → va_S (inB a) s.heap H locs → ∀ ls : Array Slot, lv_has ls 4 [(3, .int (nI i)), (2, .int (bPc S T R i)), (0, .ref (a 13)), (1, .int (nI k))] → W p l e ({ frames := 6, cells := 0, slots := 0, locals := 133 } : Room) s m args below meth c H locs 0 0 (MQ below (qW (some (.int (bPc S T R k))) (BW D cI cQ a (bPa S T R k)) (inB a)) args s 0 0 (inB a)) (F0 m 8 ls [])) (k) ?_ ?_ 0 (by omega) s.heap [] hB hS ls (by first | exact lv_sub hl [0, 1, 2, 3] rfl | (simpa using lv_sub hl [0, 1, 2, 3] rfl))
  · intro H locs hB hS ls hl
    refine lv_iload_n hx hb dX0_pass_8 rfl (lv_at hl 0 rfl) ?_
    refine lv_iload_n hx hb dX0_pass_9 rfl (lv_at hl 3 rfl) ?_
    refine jge (i := k) (j := k) (tgt := 26) hC dX0_pass_10 (by decide) rfl rfl (by omega) (by omega) (fun c1 => ?_) (fun c1 => ?_)
    · refine lv_iload_n hx hb dX0_pass_26 rfl (lv_at hl 1 rfl) ?_
      exact wr_i hC hr hlocks mov_B (hB) hS dX0_pass_27 (by rfl)
    · exfalso; omega
  · intro i hi ih H locs hB hS ls hl
    refine lv_iload_n hx hb dX0_pass_8 rfl (lv_at hl 0 rfl) ?_
    refine lv_iload_n hx hb dX0_pass_9 rfl (lv_at hl 3 rfl) ?_
    refine jge (i := i) (j := k) (tgt := 26) hC dX0_pass_10 (by decide) rfl rfl (by omega) (by omega) (fun c2 => ?_) (fun c2 => ?_)
    · exfalso; omega
    · refine lv_iload_n hx hb dX0_pass_13 rfl (lv_at hl 1 rfl) ?_
      refine lv_aload_n hx hb dX0_pass_14 rfl (lv_at hl 2 rfl) ?_
      refine kw_X0_goOneSecond hC (c_X0_goOneSecond l D cI cQ a (bPa S T R i) (BI_pa hI _)) hB rfl ⟨rfl, rfl⟩ ⟨Nat.le_of_ble_eq_true rfl, Nat.le_of_ble_eq_true rfl⟩ ⟨Nat.le_of_ble_eq_true rfl, Nat.le_of_ble_eq_true rfl⟩ hS hA hl.1 rfl (Nat.le_of_ble_eq_true rfl) dX0_pass_15 (fun H locs hB hS => ?_)
      refine lv_iadd hx hb dX0_pass_18 ?_
      refine lv_istore_n (lv' := [(2, .int ((bPc S T R i) + (bGc (bPa S T R i) R T))), (3, .int (nI i)), (0, .ref (a 13)), (1, .int (nI k))]) hx hb dX0_pass_19 rfl hl (by decide) rfl (fun ls hl => ?_)
      refine lv_iinc (v := nI (i + 1)) (lv' := [(3, .int (nI (i + 1))), (2, .int ((bPc S T R i) + (bGc (bPa S T R i) R T))), (0, .ref (a 13)), (1, .int (nI k))]) hx hb dX0_pass_20 hl (k := 1) rfl (ninc i) (by decide) rfl (fun ls hl => ?_)
      refine lv_goto (tgt := 8) hx hb dX0_pass_23 (by decide) ?_
      exact ih H locs (hB) hS ls (lv_sub hl [0, 1, 2, 3] rfl)
set_option maxHeartbeats 4000000 in
set_option maxRecDepth 100000 in
theorem c_X0_addTrader (l : Launch) (D : va_G) (cI cQ : ClassId) (a : Nat → Nat) (S : bS) {T R : Nat} (hI : BI S T R) (hlt : R < 6) : Wr l yX0_addTrader cX0_addTrader 2 (some .int) ({ frames := 0, cells := 0, slots := 0, locals := 0 } : Room) (BW D cI cQ a S) (BW D cI cQ a (up2 (up2 S 5 R 100) 6 2 (nI (R + 1)))) (inB a) [.ref (a 13)] (some (.int (nI R))) 0 0 := by
  refine Wr.of (by decide) (Nat.le_of_ble_eq_true rfl) ?_
  intro p e s m args below meth c ls hC hr hlocks hB hS hl
  have hx := hC.1
  have hb := hC.2.1
  have hA : ∀ q, (inB a) q → (inB a) q := fun _ h => h
  obtain ⟨hT, hR, hT8, hR6⟩ := id hI
  have hl : lv_has ls 2 [(0, .ref (a 13))] := hl
  refine lv_aload_n hx hb dX0_addTrader_0 rfl (lv_at hl 0 rfl) ?_
  refine gB_traderCount hC hB hR dX0_addTrader_1 ?_
  refine lv_bipush (v := 6) hx hb dX0_addTrader_4 (by decide) ?_
  refine jlt (i := R) (j := 6) (tgt := 19) hC dX0_addTrader_6 (by decide) rfl rfl (by omega) (by omega) (fun c1 => ?_) (fun c1 => ?_)
  · refine lv_aload_n hx hb dX0_addTrader_19 rfl (lv_at hl 0 rfl) ?_
    refine gB_traderCount hC hB hR dX0_addTrader_20 ?_
    refine lv_istore_n (lv' := [(1, .int (nI R)), (0, .ref (a 13))]) hx hb dX0_addTrader_23 rfl hl (by decide) rfl (fun ls hl => ?_)
    refine lv_aload_n hx hb dX0_addTrader_24 rfl (lv_at hl 1 rfl) ?_
    refine gB_purse hC hB dX0_addTrader_25 ?_
    refine lv_iload_n hx hb dX0_addTrader_28 rfl (lv_at hl 0 rfl) ?_
    refine lv_bipush (v := 100) hx hb dX0_addTrader_29 (by decide) ?_
    refine sB_purse (R) hC hB rfl (by omega) hS hA dX0_addTrader_31 (fun H locs hB hS => ?_)
    refine lv_aload_n hx hb dX0_addTrader_32 rfl (lv_at hl 1 rfl) ?_
    refine lv_iload_n hx hb dX0_addTrader_33 rfl (lv_at hl 0 rfl) ?_
    refine lv_iconst (v := 1) hx hb dX0_addTrader_34 (by decide) ?_
    refine xadd (v := nI (R + 1)) hC dX0_addTrader_35 (nadd (i := R) (j := 1) rfl rfl) ?_
    refine pB_traderCount hC hB hS hA dX0_addTrader_36 (fun H locs hB hS => ?_)
    refine lv_iload_n hx hb dX0_addTrader_39 rfl (lv_at hl 0 rfl) ?_
    exact wr_i hC hr hlocks mov_B (hB) hS dX0_addTrader_40 (by rfl)
  · exfalso; omega
set_option maxHeartbeats 4000000 in
set_option maxRecDepth 100000 in
theorem c_X0_buy (l : Launch) (D : va_G) (cI cQ : ClassId) (a : Nat → Nat) (S : bS) {T R : Nat} {r t k : Nat} (hI : BI S T R) (hr9 : r < R) (ht : t < T) (hk1 : 1 ≤ k) (hk9 : k ≤ 9) (h1 : S (7 + r) t + nI k ≤ 9) (h2 : bPr S R t * nI k ≤ S 5 r) : Wr l yX0_buy cX0_buy 5 (some .int) ({ frames := 4, cells := 0, slots := 0, locals := 88 } : Room) (BW D cI cQ a S) (BW D cI cQ a (up2 (up2 S 5 r (S 5 r - bPr S R t * nI k)) (7 + r) t (S (7 + r) t + nI k))) (inB a) [.ref (a 13), .int (nI r), .int (nI t), .int (nI k)] (some (.int (bPr S R t * nI k))) 0 0 := by
  refine Wr.of (by decide) (Nat.le_of_ble_eq_true rfl) ?_
  intro p e s m args below meth c ls hC hr hlocks hB hS hl
  have hx := hC.1
  have hb := hC.2.1
  have hA : ∀ q, (inB a) q → (inB a) q := fun _ h => h
  obtain ⟨hT, hR, hT8, hR6⟩ := id hI
  have hl : lv_has ls 5 [(0, .ref (a 13)), (1, .int (nI r)), (2, .int (nI t)), (3, .int (nI k))] := hl
  refine lv_aload_n hx hb dX0_buy_0 rfl (lv_at hl 0 rfl) ?_
  refine lv_iload_n hx hb dX0_buy_1 rfl (lv_at hl 1 rfl) ?_
  refine kn_X0_requireTrader hC (c_X0_requireTrader l D cI cQ a S hI (r := r) (by omega)) hB rfl ⟨rfl, rfl⟩ ⟨Nat.le_of_ble_eq_true rfl, Nat.le_of_ble_eq_true rfl⟩ ⟨Nat.zero_le _, Nat.zero_le _⟩ hl.1 rfl (Nat.le_of_ble_eq_true rfl) dX0_buy_2 ?_
  refine lv_aload_n hx hb dX0_buy_5 rfl (lv_at hl 0 rfl) ?_
  refine lv_iload_n hx hb dX0_buy_6 rfl (lv_at hl 2 rfl) ?_
  refine kn_X0_requireTower hC (c_X0_requireTower l D cI cQ a S hI (t := t) (by omega)) hB rfl ⟨rfl, rfl⟩ ⟨Nat.le_of_ble_eq_true rfl, Nat.le_of_ble_eq_true rfl⟩ ⟨Nat.zero_le _, Nat.zero_le _⟩ hl.1 rfl (Nat.le_of_ble_eq_true rfl) dX0_buy_7 ?_
  refine lv_iload_n hx hb dX0_buy_10 rfl (lv_at hl 3 rfl) ?_
  refine kn_X0_requireTradable hC (c_X0_requireTradable l (k := k) (by omega) (by omega)) mov_T trivial rfl ⟨rfl, rfl⟩ ⟨Nat.le_of_ble_eq_true rfl, Nat.le_of_ble_eq_true rfl⟩ ⟨Nat.zero_le _, Nat.zero_le _⟩ hl.1 rfl (Nat.le_of_ble_eq_true rfl) dX0_buy_11 ?_
  refine lv_aload_n hx hb dX0_buy_14 rfl (lv_at hl 0 rfl) ?_
  refine lv_iload_n hx hb dX0_buy_15 rfl (lv_at hl 2 rfl) ?_
  refine k_X0_priceNow hC (c_X0_priceNow l D cI cQ a S hI (t := t) (by omega)) hB rfl ⟨rfl, rfl⟩ ⟨Nat.le_of_ble_eq_true rfl, Nat.le_of_ble_eq_true rfl⟩ ⟨Nat.zero_le _, Nat.zero_le _⟩ hl.1 rfl (Nat.le_of_ble_eq_true rfl) dX0_buy_16 ?_
  refine lv_iload_n hx hb dX0_buy_19 rfl (lv_at hl 3 rfl) ?_
  refine lv_imul hx hb dX0_buy_20 ?_
  refine lv_istore (lv' := [(4, .int ((bPr S R t) * (nI k))), (0, .ref (a 13)), (1, .int (nI r)), (2, .int (nI t)), (3, .int (nI k))]) hx hb dX0_buy_21 hl (by decide) rfl (fun ls hl => ?_)
  refine lv_aload_n hx hb dX0_buy_23 rfl (lv_at hl 1 rfl) ?_
  refine gB_held hC hB dX0_buy_24 ?_
  refine lv_iload_n hx hb dX0_buy_27 rfl (lv_at hl 2 rfl) ?_
  refine lB_row (r) hC hB rfl (by omega) dX0_buy_28 ?_
  refine lv_iload_n hx hb dX0_buy_29 rfl (lv_at hl 3 rfl) ?_
  refine lB_held (r) (t) hC hB (by omega) rfl (by omega) rfl dX0_buy_30 ?_
  refine lv_iload_n hx hb dX0_buy_31 rfl (lv_at hl 4 rfl) ?_
  refine lv_iadd hx hb dX0_buy_32 ?_
  refine lv_bipush (v := 9) hx hb dX0_buy_33 (by decide) ?_
  refine lv_icmp_le (tgt := 48) hx hb dX0_buy_35 (by decide) (fun c1 => ?_) (fun c1 => ?_)
  · refine lv_aload_n hx hb dX0_buy_48 rfl (lv_at hl 1 rfl) ?_
    refine gB_purse hC hB dX0_buy_49 ?_
    refine lv_iload_n hx hb dX0_buy_52 rfl (lv_at hl 2 rfl) ?_
    refine lB_purse (r) hC hB rfl (by omega) rfl dX0_buy_53 ?_
    refine lv_iload hx hb dX0_buy_54 (lv_at hl 0 rfl) ?_
    refine lv_icmp_ge (tgt := 69) hx hb dX0_buy_56 (by decide) (fun c2 => ?_) (fun c2 => ?_)
    · refine lv_aload_n hx hb dX0_buy_69 rfl (lv_at hl 1 rfl) ?_
      refine gB_purse hC hB dX0_buy_70 ?_
      refine lv_iload_n hx hb dX0_buy_73 rfl (lv_at hl 2 rfl) ?_
      refine lv_dup2_11 hx hb dX0_buy_74 rfl rfl ?_
      refine lB_purse (r) hC hB rfl (by omega) rfl dX0_buy_75 ?_
      refine lv_iload hx hb dX0_buy_76 (lv_at hl 0 rfl) ?_
      refine lv_isub hx hb dX0_buy_78 ?_
      refine sB_purse (r) hC hB rfl (by omega) hS hA dX0_buy_79 (fun H locs hB hS => ?_)
      refine lv_aload_n hx hb dX0_buy_80 rfl (lv_at hl 1 rfl) ?_
      refine gB_held hC hB dX0_buy_81 ?_
      refine lv_iload_n hx hb dX0_buy_84 rfl (lv_at hl 2 rfl) ?_
      refine lB_row (r) hC hB rfl (by omega) dX0_buy_85 ?_
      refine lv_iload_n hx hb dX0_buy_86 rfl (lv_at hl 3 rfl) ?_
      refine lv_dup2_11 hx hb dX0_buy_87 rfl rfl ?_
      refine lB_held (r) (t) hC hB (by omega) rfl (by omega) (by rw [up2_ne _ _ (by omega)]) dX0_buy_88 ?_
      refine lv_iload_n hx hb dX0_buy_89 rfl (lv_at hl 4 rfl) ?_
      refine lv_iadd hx hb dX0_buy_90 ?_
      refine sB_held (r) (t) hC hB (by omega) rfl (by omega) hS hA dX0_buy_91 (fun H locs hB hS => ?_)
      refine lv_iload hx hb dX0_buy_92 (lv_at hl 0 rfl) ?_
      exact wr_i hC hr hlocks mov_B (hB) hS dX0_buy_94 (by rfl)
    · exfalso; exact c2 h2
  · exfalso; exact c1 h1
set_option maxHeartbeats 4000000 in
set_option maxRecDepth 100000 in
theorem c_X0_sell (l : Launch) (D : va_G) (cI cQ : ClassId) (a : Nat → Nat) (S : bS) {T R : Nat} {r t k : Nat} (hI : BI S T R) (hr9 : r < R) (ht : t < T) (hk1 : 1 ≤ k) (hk9 : k ≤ 9) (h1 : -9 ≤ S (7 + r) t - nI k) : Wr l yX0_sell cX0_sell 5 (some .int) ({ frames := 4, cells := 0, slots := 0, locals := 88 } : Room) (BW D cI cQ a S) (BW D cI cQ a (up2 (up2 S 5 r (S 5 r + bPr S R t * nI k)) (7 + r) t (S (7 + r) t - nI k))) (inB a) [.ref (a 13), .int (nI r), .int (nI t), .int (nI k)] (some (.int (bPr S R t * nI k))) 0 0 := by
  refine Wr.of (by decide) (Nat.le_of_ble_eq_true rfl) ?_
  intro p e s m args below meth c ls hC hr hlocks hB hS hl
  have hx := hC.1
  have hb := hC.2.1
  have hA : ∀ q, (inB a) q → (inB a) q := fun _ h => h
  obtain ⟨hT, hR, hT8, hR6⟩ := id hI
  have hl : lv_has ls 5 [(0, .ref (a 13)), (1, .int (nI r)), (2, .int (nI t)), (3, .int (nI k))] := hl
  refine lv_aload_n hx hb dX0_sell_0 rfl (lv_at hl 0 rfl) ?_
  refine lv_iload_n hx hb dX0_sell_1 rfl (lv_at hl 1 rfl) ?_
  refine kn_X0_requireTrader hC (c_X0_requireTrader l D cI cQ a S hI (r := r) (by omega)) hB rfl ⟨rfl, rfl⟩ ⟨Nat.le_of_ble_eq_true rfl, Nat.le_of_ble_eq_true rfl⟩ ⟨Nat.zero_le _, Nat.zero_le _⟩ hl.1 rfl (Nat.le_of_ble_eq_true rfl) dX0_sell_2 ?_
  refine lv_aload_n hx hb dX0_sell_5 rfl (lv_at hl 0 rfl) ?_
  refine lv_iload_n hx hb dX0_sell_6 rfl (lv_at hl 2 rfl) ?_
  refine kn_X0_requireTower hC (c_X0_requireTower l D cI cQ a S hI (t := t) (by omega)) hB rfl ⟨rfl, rfl⟩ ⟨Nat.le_of_ble_eq_true rfl, Nat.le_of_ble_eq_true rfl⟩ ⟨Nat.zero_le _, Nat.zero_le _⟩ hl.1 rfl (Nat.le_of_ble_eq_true rfl) dX0_sell_7 ?_
  refine lv_iload_n hx hb dX0_sell_10 rfl (lv_at hl 3 rfl) ?_
  refine kn_X0_requireTradable hC (c_X0_requireTradable l (k := k) (by omega) (by omega)) mov_T trivial rfl ⟨rfl, rfl⟩ ⟨Nat.le_of_ble_eq_true rfl, Nat.le_of_ble_eq_true rfl⟩ ⟨Nat.zero_le _, Nat.zero_le _⟩ hl.1 rfl (Nat.le_of_ble_eq_true rfl) dX0_sell_11 ?_
  refine lv_aload_n hx hb dX0_sell_14 rfl (lv_at hl 0 rfl) ?_
  refine gB_held hC hB dX0_sell_15 ?_
  refine lv_iload_n hx hb dX0_sell_18 rfl (lv_at hl 1 rfl) ?_
  refine lB_row (r) hC hB rfl (by omega) dX0_sell_19 ?_
  refine lv_iload_n hx hb dX0_sell_20 rfl (lv_at hl 2 rfl) ?_
  refine lB_held (r) (t) hC hB (by omega) rfl (by omega) rfl dX0_sell_21 ?_
  refine lv_iload_n hx hb dX0_sell_22 rfl (lv_at hl 3 rfl) ?_
  refine lv_isub hx hb dX0_sell_23 ?_
  refine lv_bipush (v := -9) hx hb dX0_sell_24 (by decide) ?_
  refine lv_icmp_ge (tgt := 39) hx hb dX0_sell_26 (by decide) (fun c1 => ?_) (fun c1 => ?_)
  · refine lv_aload_n hx hb dX0_sell_39 rfl (lv_at hl 0 rfl) ?_
    refine lv_iload_n hx hb dX0_sell_40 rfl (lv_at hl 2 rfl) ?_
    refine k_X0_priceNow hC (c_X0_priceNow l D cI cQ a S hI (t := t) (by omega)) hB rfl ⟨rfl, rfl⟩ ⟨Nat.le_of_ble_eq_true rfl, Nat.le_of_ble_eq_true rfl⟩ ⟨Nat.zero_le _, Nat.zero_le _⟩ hl.1 rfl (Nat.le_of_ble_eq_true rfl) dX0_sell_41 ?_
    refine lv_iload_n hx hb dX0_sell_44 rfl (lv_at hl 3 rfl) ?_
    refine lv_imul hx hb dX0_sell_45 ?_
    refine lv_istore (lv' := [(4, .int ((bPr S R t) * (nI k))), (0, .ref (a 13)), (1, .int (nI r)), (2, .int (nI t)), (3, .int (nI k))]) hx hb dX0_sell_46 hl (by decide) rfl (fun ls hl => ?_)
    refine lv_aload_n hx hb dX0_sell_48 rfl (lv_at hl 1 rfl) ?_
    refine gB_purse hC hB dX0_sell_49 ?_
    refine lv_iload_n hx hb dX0_sell_52 rfl (lv_at hl 2 rfl) ?_
    refine lv_dup2_11 hx hb dX0_sell_53 rfl rfl ?_
    refine lB_purse (r) hC hB rfl (by omega) rfl dX0_sell_54 ?_
    refine lv_iload hx hb dX0_sell_55 (lv_at hl 0 rfl) ?_
    refine lv_iadd hx hb dX0_sell_57 ?_
    refine sB_purse (r) hC hB rfl (by omega) hS hA dX0_sell_58 (fun H locs hB hS => ?_)
    refine lv_aload_n hx hb dX0_sell_59 rfl (lv_at hl 1 rfl) ?_
    refine gB_held hC hB dX0_sell_60 ?_
    refine lv_iload_n hx hb dX0_sell_63 rfl (lv_at hl 2 rfl) ?_
    refine lB_row (r) hC hB rfl (by omega) dX0_sell_64 ?_
    refine lv_iload_n hx hb dX0_sell_65 rfl (lv_at hl 3 rfl) ?_
    refine lv_dup2_11 hx hb dX0_sell_66 rfl rfl ?_
    refine lB_held (r) (t) hC hB (by omega) rfl (by omega) (by rw [up2_ne _ _ (by omega)]) dX0_sell_67 ?_
    refine lv_iload_n hx hb dX0_sell_68 rfl (lv_at hl 4 rfl) ?_
    refine lv_isub hx hb dX0_sell_69 ?_
    refine sB_held (r) (t) hC hB (by omega) rfl (by omega) hS hA dX0_sell_70 (fun H locs hB hS => ?_)
    refine lv_iload hx hb dX0_sell_71 (lv_at hl 0 rfl) ?_
    exact wr_i hC hr hlocks mov_B (hB) hS dX0_sell_73 (by rfl)
  · exfalso; exact c1 h1
set_option maxHeartbeats 4000000 in
set_option maxRecDepth 100000 in
theorem c_X0_list (l : Launch) (D : va_G) (cI cQ : ClassId) (a : Nat → Nat) (S : bS) {T R : Nat} {w0 p0 b0 : Nat} (hI : BI S T R) (hT7 : T < 8) (hw1 : 1 ≤ w0) (hw9 : w0 ≤ 9) (hp2 : 2 ≤ p0) (hp20 : p0 ≤ 20) (hb0 : b0 < p0) : Wr l yX0_list cX0_list 6 (some .int) ({ frames := 1, cells := 0, slots := 0, locals := 22 } : Room) (BW D cI cQ a S) (BW D cI cQ a (up2 (up2 (up2 (up2 S 0 T (nI w0)) 1 T (nI p0)) 3 T (if flm (nI b0 - S 6 0) (nI p0) = 0 then nI p0 else flm (nI b0 - S 6 0) (nI p0))) 6 1 (nI (T + 1)))) (inB a) [.ref (a 13), .int (nI w0), .int (nI p0), .int (nI b0)] (some (.int (nI T))) 0 0 := by
  refine Wr.of (by decide) (Nat.le_of_ble_eq_true rfl) ?_
  intro p e s m args below meth c ls hC hr hlocks hB hS hl
  have hx := hC.1
  have hb := hC.2.1
  have hA : ∀ q, (inB a) q → (inB a) q := fun _ h => h
  obtain ⟨hT, hR, hT8, hR6⟩ := id hI
  have hl : lv_has ls 6 [(0, .ref (a 13)), (1, .int (nI w0)), (2, .int (nI p0)), (3, .int (nI b0))] := hl
  have hp0 : ¬ nI p0 = 0 := nI_ne0 (by omega) (by omega)
  refine lv_iload_n hx hb dX0_list_0 rfl (lv_at hl 1 rfl) ?_
  refine lv_iconst (v := 1) hx hb dX0_list_1 (by decide) ?_
  refine jlt (i := w0) (j := 1) (tgt := 11) hC dX0_list_2 (by decide) rfl rfl (by omega) (by omega) (fun c1 => ?_) (fun c1 => ?_)
  · exfalso; omega
  · refine lv_iload_n hx hb dX0_list_5 rfl (lv_at hl 1 rfl) ?_
    refine lv_bipush (v := 9) hx hb dX0_list_6 (by decide) ?_
    refine jle (i := w0) (j := 9) (tgt := 21) hC dX0_list_8 (by decide) rfl rfl (by omega) (by omega) (fun c2 => ?_) (fun c2 => ?_)
    · refine lv_iload_n hx hb dX0_list_21 rfl (lv_at hl 2 rfl) ?_
      refine lv_iconst (v := 2) hx hb dX0_list_22 (by decide) ?_
      refine jlt (i := p0) (j := 2) (tgt := 32) hC dX0_list_23 (by decide) rfl rfl (by omega) (by omega) (fun c3 => ?_) (fun c3 => ?_)
      · exfalso; omega
      · refine lv_iload_n hx hb dX0_list_26 rfl (lv_at hl 2 rfl) ?_
        refine lv_bipush (v := 20) hx hb dX0_list_27 (by decide) ?_
        refine jle (i := p0) (j := 20) (tgt := 42) hC dX0_list_29 (by decide) rfl rfl (by omega) (by omega) (fun c4 => ?_) (fun c4 => ?_)
        · refine lv_iload_n hx hb dX0_list_42 rfl (lv_at hl 3 rfl) ?_
          refine lv_if_lt (tgt := 51) hx hb dX0_list_43 (by decide) (fun c5 => ?_) (fun c5 => ?_)
          · exfalso; exact absurd c5 (nI_pos (by omega))
          · refine lv_iload_n hx hb dX0_list_46 rfl (lv_at hl 3 rfl) ?_
            refine lv_iload_n hx hb dX0_list_47 rfl (lv_at hl 2 rfl) ?_
            refine jlt (i := b0) (j := p0) (tgt := 61) hC dX0_list_48 (by decide) rfl rfl (by omega) (by omega) (fun c6 => ?_) (fun c6 => ?_)
            · refine lv_aload_n hx hb dX0_list_61 rfl (lv_at hl 0 rfl) ?_
              refine gB_towerCount hC hB hT dX0_list_62 ?_
              refine lv_bipush (v := 8) hx hb dX0_list_65 (by decide) ?_
              refine jlt (i := T) (j := 8) (tgt := 80) hC dX0_list_67 (by decide) rfl rfl (by omega) (by omega) (fun c7 => ?_) (fun c7 => ?_)
              · refine lv_aload_n hx hb dX0_list_80 rfl (lv_at hl 0 rfl) ?_
                refine gB_towerCount hC hB hT dX0_list_81 ?_
                refine lv_istore (lv' := [(4, .int (nI T)), (0, .ref (a 13)), (1, .int (nI w0)), (2, .int (nI p0)), (3, .int (nI b0))]) hx hb dX0_list_84 hl (by decide) rfl (fun ls hl => ?_)
                refine lv_iload_n hx hb dX0_list_86 rfl (lv_at hl 4 rfl) ?_
                refine lv_aload_n hx hb dX0_list_87 rfl (lv_at hl 1 rfl) ?_
                refine gB_second hC hB rfl dX0_list_88 ?_
                refine lv_isub hx hb dX0_list_91 ?_
                refine lv_iload_n hx hb dX0_list_92 rfl (lv_at hl 3 rfl) ?_
                refine k_J9_floorMod_7cf53 hC (c_J9_floorMod_7cf53 l ((nI b0) - (S 6 0)) (nI p0) (by exact hp0)) mov_T trivial rfl ⟨rfl, rfl⟩ ⟨Nat.le_of_ble_eq_true rfl, Nat.le_of_ble_eq_true rfl⟩ ⟨Nat.zero_le _, Nat.zero_le _⟩ hl.1 rfl (Nat.le_of_ble_eq_true rfl) dX0_list_93 ?_
                refine lv_istore (lv' := [(5, .int (flm ((nI b0) - (S 6 0)) (nI p0))), (4, .int (nI T)), (0, .ref (a 13)), (1, .int (nI w0)), (2, .int (nI p0)), (3, .int (nI b0))]) hx hb dX0_list_96 hl (by decide) rfl (fun ls hl => ?_)
                refine lv_aload_n hx hb dX0_list_98 rfl (lv_at hl 2 rfl) ?_
                refine gB_loudness hC hB dX0_list_99 ?_
                refine lv_iload hx hb dX0_list_102 (lv_at hl 1 rfl) ?_
                refine lv_iload_n hx hb dX0_list_104 rfl (lv_at hl 3 rfl) ?_
                refine sB_loudness (T) hC hB rfl (by omega) hS hA dX0_list_105 (fun H locs hB hS => ?_)
                refine lv_aload_n hx hb dX0_list_106 rfl (lv_at hl 2 rfl) ?_
                refine gB_period hC hB dX0_list_107 ?_
                refine lv_iload hx hb dX0_list_110 (lv_at hl 1 rfl) ?_
                refine lv_iload_n hx hb dX0_list_112 rfl (lv_at hl 4 rfl) ?_
                refine sB_period (T) hC hB rfl (by omega) hS hA dX0_list_113 (fun H locs hB hS => ?_)
                refine lv_aload_n hx hb dX0_list_114 rfl (lv_at hl 2 rfl) ?_
                refine gB_untilStroke hC hB dX0_list_115 ?_
                refine lv_iload hx hb dX0_list_118 (lv_at hl 1 rfl) ?_
                refine lv_iload hx hb dX0_list_120 (lv_at hl 0 rfl) ?_
                refine lv_if_ne (tgt := 129) hx hb dX0_list_122 (by decide) (fun c10 => ?_) (fun c10 => ?_)
                · refine lv_iload hx hb dX0_list_129 (lv_at hl 0 rfl) ?_
                  refine sB_untilStroke (T) hC hB rfl (by omega) hS hA dX0_list_131 (fun H locs hB hS => ?_)
                  refine lv_aload_n hx hb dX0_list_132 rfl (lv_at hl 2 rfl) ?_
                  refine lv_iload hx hb dX0_list_133 (lv_at hl 1 rfl) ?_
                  refine lv_iconst (v := 1) hx hb dX0_list_135 (by decide) ?_
                  refine xadd (v := nI (T + 1)) hC dX0_list_136 (nadd (i := T) (j := 1) rfl rfl) ?_
                  refine pB_towerCount hC hB hS hA dX0_list_137 (fun H locs hB hS => ?_)
                  refine lv_iload hx hb dX0_list_140 (lv_at hl 1 rfl) ?_
                  exact wr_i hC hr hlocks mov_B (by rw [if_neg c10]; exact hB) hS dX0_list_142 (by rfl)
                · refine lv_iload_n hx hb dX0_list_125 rfl (lv_at hl 4 rfl) ?_
                  refine lv_goto (tgt := 131) hx hb dX0_list_126 (by decide) ?_
                  refine sB_untilStroke (T) hC hB rfl (by omega) hS hA dX0_list_131 (fun H locs hB hS => ?_)
                  refine lv_aload_n hx hb dX0_list_132 rfl (lv_at hl 2 rfl) ?_
                  refine lv_iload hx hb dX0_list_133 (lv_at hl 1 rfl) ?_
                  refine lv_iconst (v := 1) hx hb dX0_list_135 (by decide) ?_
                  refine xadd (v := nI (T + 1)) hC dX0_list_136 (nadd (i := T) (j := 1) rfl rfl) ?_
                  refine pB_towerCount hC hB hS hA dX0_list_137 (fun H locs hB hS => ?_)
                  refine lv_iload hx hb dX0_list_140 (lv_at hl 1 rfl) ?_
                  exact wr_i hC hr hlocks mov_B (by rw [if_pos c10]; exact hB) hS dX0_list_142 (by rfl)
              · exfalso; omega
            · exfalso; omega
        · exfalso; omega
    · exfalso; omega
end
section
/-! BellHushModel: what its methods answer -/
def amN (f : Nat → Nat) : Nat → Option Nat
  | 0 => none
  | n + 1 => match amN f n with
    | none => some n
    | some b => if f b ≤ f n then some b else some n
theorem amN_lt {f : Nat → Nat} {b : Nat} : ∀ n : Nat, amN f n = some b → b < n
  | 0, h => by cases h
  | n + 1, h => by
    unfold amN at h
    cases e : amN f n with
    | none => rw [e] at h; cases h; exact Nat.lt_succ_self _
    | some q =>
      rw [e] at h
      have := amN_lt (f := f) (b := q) n e
      dsimp only at h
      split at h <;> cases h <;> omega
theorem amN_none {f : Nat → Nat} {i : Nat} (h : amN f i = none) : amN f (i + 1) = some i := by unfold amN; rw [h]
theorem amN_keep {f : Nat → Nat} {i b : Nat} (h : amN f i = some b) (c : f b ≤ f i) : amN f (i + 1) = some b := by unfold amN; rw [h]; exact if_pos c
theorem amN_new {f : Nat → Nat} {i b : Nat} (h : amN f i = some b) (c : f i < f b) : amN f (i + 1) = some i := by unfold amN; rw [h]; exact if_neg (Nat.not_le.mpr c)
def mTb (f : Nat → Int32) : Nat → Option Nat × Int32
  | 0 => (none, 0)
  | n + 1 => if (mTb f n).2 < f n then (some n, f n) else mTb f n
theorem mTb_new {f : Nat → Int32} {n : Nat} (c : (mTb f n).2 < f n) : mTb f (n + 1) = (some n, f n) := if_pos c
theorem mTb_keep {f : Nat → Int32} {n : Nat} (c : ¬ (mTb f n).2 < f n) : mTb f (n + 1) = mTb f n := if_neg c
def isI (v lo hi : Int32) : Int32 := if v < lo then 0 else if hi < v then 0 else 1
theorem isI_nar (v lo hi : Int32) : narrow .boolean (.int (isI v lo hi)) = .int (isI v lo hi) := by
  unfold isI
  split
  · rfl
  · split <;> rfl
theorem isI_one {v lo hi : Nat} (h1 : lo ≤ v) (h2 : v ≤ hi) (h3 : hi < 2 ^ 31) : isI (nI v) (nI lo) (nI hi) = 1 := by
  unfold isI
  rw [if_neg (fun h => absurd ((nI_ltI (by omega) (by omega)).mp h) (by omega)), if_neg (fun h => absurd ((nI_ltI h3 (by omega)).mp h) (by omega))]
def mU (N : bS) (t u : Nat) : Prop := 1 ≤ u ∧ u ≤ 20 ∧ rmi (N 3 0 + nI u) (N 1 t) = N 2 t ∧ ∀ k : Nat, 1 ≤ k → k < u → ¬ rmi (N 3 0 + nI k) (N 1 t) = N 2 t
def mDv (N : bS) (R t : Nat) : Int32 := sma 0 (fun r => mx 0 (-(N 3 (23 + 8 * r + t)))) R
def mPb (N : bS) (R t : Nat) (x : Int32) : Int32 := mx 0 ((N 3 (1 + t) + x) * N 0 t - 2 * mDv N R t)
def mPr (N : bS) (R t : Nat) : Int32 := mPb N R t 0
def mOp (N : bS) (R t : Nat) : Int32 := sma 0 (fun r => N 3 (23 + 8 * r + t)) R
def mDe (N : bS) (T R : Nat) : Option Nat := amx (mPr N R) T
def mWo (N : bS) (T R r : Nat) : Int32 := sma (N 3 (17 + r)) (fun t => mPr N R t * N 3 (23 + 8 * r + t)) T
def mRi (N : bS) (T R : Nat) : Option Nat := amx (mWo N T R) R
def mSh (N : bS) (T r : Nat) : Int32 := sma 0 (fun t => if 0 ≤ N 3 (23 + 8 * r + t) then 0 else 1) T
def mOw (N : bS) (R : Nat) : Int32 := sma 0 (fun r => if 0 ≤ N 3 (17 + r) then 0 else 1) R
def mCl (N : bS) (R : Nat) (u : Nat → Nat) (t : Nat) : Int32 := mPb N R t (nI (u t) - 1)
def mBu (N : bS) (T R : Nat) (u : Nat → Nat) : Option Nat × Int32 := mTb (fun t => mCl N R u t - mPr N R t) T
/-! its changes -/
def upR (N : bS) (k : Nat) (f : Nat → Int32) : bS := fun k' => if k' = k then f else N k'
def kp (N : bS) : bS := upR N 4 (va_cpy (N 3) (N 4) 0 0 71)
def bk (N : bS) : bS := upR N 3 (va_cpy (N 4) (N 3) 0 0 71)
def mS1 (N : bS) (p : Int32) (t : Nat) : Nat → bS
  | 0 => N
  | i + 1 => up2 (up2 (mS1 N p t i) 3 (17 + i) (mS1 N p t i 3 (17 + i) + p * mS1 N p t i 3 (23 + 8 * i + t))) 3 (23 + 8 * i + t) 0
def mStr (N : bS) (R t : Nat) : bS := up2 (up2 (mS1 N (mPr N R t) t R) 3 (1 + t) 0) 3 (9 + t) (mS1 N (mPr N R t) t R 3 (9 + t) + 1)
def mGo (N : bS) (R : Nat) : Nat → bS
  | 0 => up2 N 3 0 (N 3 0 + 1)
  | t + 1 => if rmi (mGo N R t 3 0) (mGo N R t 1 t) = mGo N R t 2 t then mStr (mGo N R t) R t else up2 (mGo N R t) 3 (1 + t) (mGo N R t 3 (1 + t) + 1)
def mGc (N : bS) (R : Nat) : Nat → Int32
  | 0 => 0
  | t + 1 => if rmi (mGo N R t 3 0) (mGo N R t 1 t) = mGo N R t 2 t then mGc N R t + 1 else mGc N R t
def mPa (N : bS) (T R : Nat) : Nat → bS
  | 0 => N
  | i + 1 => mGo (mPa N T R i) R T
def mPc (N : bS) (T R : Nat) : Nat → Int32
  | 0 => 0
  | i + 1 => mPc N T R i + mGc (mPa N T R i) R T
def mSo (N : bS) (R r t k : Nat) : bS := up2 (up2 N 3 (23 + 8 * r + t) (N 3 (23 + 8 * r + t) - nI k)) 3 (17 + r) (N 3 (17 + r) + mPr N R t * nI k)
def mBn (N : bS) (T R r t far : Nat) : Nat → bS
  | 0 => N
  | k + 1 => bk (mPa (mSo (mBn N T R r t far k) R r t k) T R far)
def mVl (N : bS) (T R r t far k : Nat) : Int32 := mWo (mPa (mSo (mBn N T R r t far k) R r t k) T R far) T R r
def mBm (g : Nat → Int32) : Nat → Nat × Int32
  | 0 => (0, 0)
  | k + 1 => if nI k ≤ 0 then (k, g k) else if (mBm g k).2 < g k then (k, g k) else mBm g k
def dbn (g : Nat → Int32) : Nat → Nat → Nat
  | 0, k => k
  | n + 1, k => if 0 ≤ g k then dbn g n (k + 1) else k
theorem dbn_hit {g : Nat → Int32} {i : Nat} (hi : ¬ 0 ≤ g i) : ∀ n k : Nat, k ≤ i → i < k + n → (∀ j, k ≤ j → j < i → 0 ≤ g j) → dbn g n k = i
  | 0, k, h1, h2, _ => absurd h2 (by omega)
  | n + 1, k, h1, h2, h3 => by
    unfold dbn
    by_cases e : k = i
    · subst e
      exact if_neg hi
    · rw [if_pos (h3 k (Nat.le_refl k) (by omega))]
      exact dbn_hit hi n (k + 1) (by omega) (by omega) (fun j h4 h5 => h3 j (by omega) h5)
theorem dbn_miss {g : Nat → Int32} : ∀ n k : Nat, (∀ j, k ≤ j → j < k + n → 0 ≤ g j) → dbn g n k = k + n
  | 0, k, _ => rfl
  | n + 1, k, h => by
    unfold dbn
    rw [if_pos (h k (Nat.le_refl k) (by omega)), dbn_miss n (k + 1) (fun j h1 h2 => h j (by omega) (by omega))]
    omega
theorem mS1_row (N : bS) (p : Int32) (t : Nat) {k : Nat} (j : Nat) (h : k ≠ 3) : ∀ i : Nat, mS1 N p t i k j = N k j
  | 0 => rfl
  | i + 1 => by
    unfold mS1
    rw [up2_ne _ _ (Or.inl h), up2_ne _ _ (Or.inl h)]
    exact mS1_row N p t j h i
theorem mStr_row (N : bS) (R t : Nat) {k : Nat} (j : Nat) (h : k ≠ 3) : mStr N R t k j = N k j := by
  unfold mStr
  rw [up2_ne _ _ (Or.inl h), up2_ne _ _ (Or.inl h)]
  exact mS1_row N _ t j h R
theorem mGo_str {N : bS} {R t : Nat} (c : rmi (mGo N R t 3 0) (mGo N R t 1 t) = mGo N R t 2 t) : mGo N R (t + 1) = mStr (mGo N R t) R t := if_pos c
theorem mGo_keep {N : bS} {R t : Nat} (c : ¬ rmi (mGo N R t 3 0) (mGo N R t 1 t) = mGo N R t 2 t) : mGo N R (t + 1) = up2 (mGo N R t) 3 (1 + t) (mGo N R t 3 (1 + t) + 1) := if_neg c
theorem mGc_str {N : bS} {R t : Nat} (c : rmi (mGo N R t 3 0) (mGo N R t 1 t) = mGo N R t 2 t) : mGc N R (t + 1) = mGc N R t + 1 := if_pos c
theorem mGc_keep {N : bS} {R t : Nat} (c : ¬ rmi (mGo N R t 3 0) (mGo N R t 1 t) = mGo N R t 2 t) : mGc N R (t + 1) = mGc N R t := if_neg c
theorem mGo_row (N : bS) (R : Nat) {k : Nat} (j : Nat) (h : k ≠ 3) : ∀ t : Nat, mGo N R t k j = N k j
  | 0 => up2_ne _ _ (Or.inl h)
  | t + 1 => by
    by_cases c : rmi (mGo N R t 3 0) (mGo N R t 1 t) = mGo N R t 2 t
    · rw [mGo_str c, mStr_row _ R t j h]
      exact mGo_row N R j h t
    · rw [mGo_keep c, up2_ne _ _ (Or.inl h)]
      exact mGo_row N R j h t
theorem mPa_row (N : bS) (T R : Nat) {k : Nat} (j : Nat) (h : k ≠ 3) : ∀ i : Nat, mPa N T R i k j = N k j
  | 0 => rfl
  | i + 1 => (mGo_row _ R j h T).trans (mPa_row N T R j h i)
theorem MI_3 {N : bS} {T R j : Nat} {v : Int32} (h : MI N T R) : MI (up2 N 3 j v) T R := ⟨(up2_ne _ _ (Or.inl (by decide))).trans h.1, (up2_ne _ _ (Or.inl (by decide))).trans h.2.1, h.2.2⟩
theorem MI_5 {N : bS} {T R : Nat} {v : Int32} (h : MI N T R) : MI (up2 N 5 0 v) T R := ⟨(up2_ne _ _ (Or.inr (by decide))).trans h.1, (up2_ne _ _ (Or.inr (by decide))).trans h.2.1, h.2.2⟩
theorem MI_kp {N : bS} {T R : Nat} (h : MI N T R) : MI (kp N) T R := h
theorem MI_bk {N : bS} {T R : Nat} (h : MI N T R) : MI (bk N) T R := h
theorem MI_s1 {N : bS} {T R t i : Nat} {p : Int32} (h : MI N T R) : MI (mS1 N p t i) T R := ⟨(mS1_row _ _ _ _ (by decide) _).trans h.1, (mS1_row _ _ _ _ (by decide) _).trans h.2.1, h.2.2⟩
theorem MI_go {N : bS} {T R t : Nat} (h : MI N T R) : MI (mGo N R t) T R := ⟨(mGo_row _ _ _ (by decide) _).trans h.1, (mGo_row _ _ _ (by decide) _).trans h.2.1, h.2.2⟩
theorem MI_pa {N : bS} {T R i : Nat} (h : MI N T R) : MI (mPa N T R i) T R := ⟨(mPa_row _ _ _ _ (by decide) _).trans h.1, (mPa_row _ _ _ _ (by decide) _).trans h.2.1, h.2.2⟩
theorem MI_so {N : bS} {T R r t k : Nat} (h : MI N T R) : MI (mSo N R r t k) T R := MI_3 (MI_3 h)
theorem MI_bn {N : bS} {T R r t far : Nat} (h : MI N T R) : ∀ k : Nat, MI (mBn N T R r t far k) T R
  | 0 => h
  | k + 1 => MI_bk (MI_pa (MI_so (MI_bn h k)))
/-- the periods are no 0 -/
def mP (N : bS) (T : Nat) : Prop := ∀ t : Nat, t < T → ¬ N 1 t = 0
theorem mP_row {N N' : bS} {T : Nat} (h : mP N T) (e : ∀ t, N' 1 t = N 1 t) : mP N' T := fun t ht q => h t ht ((e t).symm.trans q)
theorem mP_3 {N : bS} {T j : Nat} {v : Int32} (h : mP N T) : mP (up2 N 3 j v) T := mP_row h (fun _ => up2_ne _ _ (Or.inl (by decide)))
theorem mP_5 {N : bS} {T j : Nat} {v : Int32} (h : mP N T) : mP (up2 N 5 j v) T := mP_row h (fun _ => up2_ne _ _ (Or.inl (by decide)))
theorem mP_kp {N : bS} {T : Nat} (h : mP N T) : mP (kp N) T := h
theorem mP_bk {N : bS} {T : Nat} (h : mP N T) : mP (bk N) T := h
theorem mP_go {N : bS} {T R t : Nat} (h : mP N T) : mP (mGo N R t) T := mP_row h (fun _ => mGo_row _ _ _ (by decide) _)
theorem mP_pa {N : bS} {T R i : Nat} (h : mP N T) : mP (mPa N T R i) T := mP_row h (fun _ => mPa_row _ _ _ _ (by decide) _)
theorem mP_so {N : bS} {T R r t k : Nat} (h : mP N T) : mP (mSo N R r t k) T := mP_3 (mP_3 h)
theorem mP_bn {N : bS} {T R r t far : Nat} (h : mP N T) : ∀ k : Nat, mP (mBn N T R r t far k) T
  | 0 => h
  | k + 1 => mP_bk (mP_pa (mP_so (mP_bn h k)))
theorem mU_5 {N : bS} {T j : Nat} {v : Int32} {u : Nat → Nat} (h : ∀ t, t < T → mU N t (u t)) : ∀ t, t < T → mU (up2 N 5 j v) t (u t) := h
end
section
set_option maxHeartbeats 4000000 in
set_option maxRecDepth 100000 in
theorem c_X1_isIn (l : Launch) (x y z : Int32)  : Rd l yX1_isIn cX1_isIn 3 (some .boolean) ({ frames := 0, cells := 0, slots := 0, locals := 0 } : Room) (fun _ _ => True) [.int (x), .int (y), .int (z)] (.int (isI x y z)) := by
  refine Rd.of (by decide) (Nat.le_of_ble_eq_true rfl) ?_
  intro p e s m args below meth c ls hC hr hlocks hB hl
  have hx := hC.1
  have hb := hC.2.1
  have hl : lv_has ls 3 [(0, .int (x)), (1, .int (y)), (2, .int (z))] := hl
  refine lv_iload_n hx hb dX1_isIn_0 rfl (lv_at hl 0 rfl) ?_
  refine lv_iload_n hx hb dX1_isIn_1 rfl (lv_at hl 1 rfl) ?_
  refine lv_icmp_lt (tgt := 14) hx hb dX1_isIn_2 (by decide) (fun c1 => ?_) (fun c1 => ?_)
  · refine lv_iconst (v := 0) hx hb dX1_isIn_14 (by decide) ?_
    exact rd_z hC hr hlocks (rfl) dX1_isIn_15 (by unfold isI; rw [if_pos c1])
  · refine lv_iload_n hx hb dX1_isIn_5 rfl (lv_at hl 0 rfl) ?_
    refine lv_iload_n hx hb dX1_isIn_6 rfl (lv_at hl 2 rfl) ?_
    refine lv_icmp_gt (tgt := 14) hx hb dX1_isIn_7 (by decide) (fun c2 => ?_) (fun c2 => ?_)
    · refine lv_iconst (v := 0) hx hb dX1_isIn_14 (by decide) ?_
      exact rd_z hC hr hlocks (rfl) dX1_isIn_15 (by unfold isI; rw [if_neg c1, if_pos c2])
    · refine lv_iconst (v := 1) hx hb dX1_isIn_10 (by decide) ?_
      refine lv_goto (tgt := 15) hx hb dX1_isIn_11 (by decide) ?_
      exact rd_z hC hr hlocks (rfl) dX1_isIn_15 (by unfold isI; rw [if_neg c1, if_neg c2])
theorem c_X1_isIn_ok (l : Launch) {v lo hi : Nat} (h1 : lo ≤ v) (h2 : v ≤ hi) (h3 : hi < 2 ^ 31) : Rd l yX1_isIn cX1_isIn 3 (some .boolean) ({ frames := 0, cells := 0, slots := 0, locals := 0 } : Room) (fun _ _ => True) [.int (nI v), .int (nI lo), .int (nI hi)] (.int 1) := by
  have h := c_X1_isIn l (nI v) (nI lo) (nI hi)
  rw [isI_one h1 h2 h3] at h
  exact h
theorem c_X1_isIn_no (l : Launch) (x y z : Int32) (h0 : isI x y z = 0) : Rd l yX1_isIn cX1_isIn 3 (some .boolean) ({ frames := 0, cells := 0, slots := 0, locals := 0 } : Room) (fun _ _ => True) [.int x, .int y, .int z] (.int 0) := by
  have h := c_X1_isIn l x y z
  rw [h0] at h
  exact h
set_option maxHeartbeats 4000000 in
set_option maxRecDepth 100000 in
theorem c_X1_at (l : Launch) {r t : Nat}  : Rd l yX1_at cX1_at 2 (some .int) ({ frames := 0, cells := 0, slots := 0, locals := 0 } : Room) (fun _ _ => True) [.int (nI r), .int (nI t)] (.int (nI (23 + 8 * r + t))) := by
  refine Rd.of (by decide) (Nat.le_of_ble_eq_true rfl) ?_
  intro p e s m args below meth c ls hC hr hlocks hB hl
  have hx := hC.1
  have hb := hC.2.1
  have hl : lv_has ls 2 [(0, .int (nI r)), (1, .int (nI t))] := hl
  refine lv_bipush (v := 23) hx hb dX1_at_0 (by decide) ?_
  refine lv_bipush (v := 8) hx hb dX1_at_2 (by decide) ?_
  refine lv_iload_n hx hb dX1_at_4 rfl (lv_at hl 0 rfl) ?_
  refine xmul (v := nI (8 * r)) hC dX1_at_5 (nmul (i := 8) (j := r) rfl rfl) ?_
  refine xadd (v := nI (23 + (8 * r))) hC dX1_at_6 (nadd (i := 23) (j := 8 * r) rfl rfl) ?_
  refine lv_iload_n hx hb dX1_at_7 rfl (lv_at hl 1 rfl) ?_
  refine xadd (v := nI ((23 + (8 * r)) + t)) hC dX1_at_8 (nadd (i := 23 + (8 * r)) (j := t) rfl rfl) ?_
  exact rd_i hC hr hlocks dX1_at_9 (by rfl)
set_option maxHeartbeats 4000000 in
set_option maxRecDepth 100000 in
theorem c_X1_isTower (l : Launch) (D : va_G) (cI : ClassId) (b : Nat → Nat) (N : bS) {T R : Nat} (x : Int32) (hI : MI N T R) : Rd l yX1_isTower cX1_isTower 2 (some .boolean) ({ frames := 1, cells := 0, slots := 0, locals := 22 } : Room) (MW D cI b N) [.ref (b 5), .int (x)] (.int (isI x 0 (nI T - 1))) := by
  refine Rd.of (by decide) (Nat.le_of_ble_eq_true rfl) ?_
  intro p e s m args below meth c ls hC hr hlocks hB hl
  have hx := hC.1
  have hb := hC.2.1
  obtain ⟨hT, hR, hT8, hR6⟩ := id hI
  have hl : lv_has ls 2 [(0, .ref (b 5)), (1, .int (x))] := hl
  refine lv_iload_n hx hb dX1_isTower_0 rfl (lv_at hl 1 rfl) ?_
  refine lv_iconst (v := 0) hx hb dX1_isTower_1 (by decide) ?_
  refine lv_aload_n hx hb dX1_isTower_2 rfl (lv_at hl 0 rfl) ?_
  refine gM_towers hC hB hT dX1_isTower_3 ?_
  refine lv_iconst (v := 1) hx hb dX1_isTower_6 (by decide) ?_
  refine lv_isub hx hb dX1_isTower_7 ?_
  refine k_X1_isIn hC (c_X1_isIn l (x) (0) ((nI T) - 1)) mov_T trivial rfl ⟨rfl, rfl⟩ ⟨Nat.le_of_ble_eq_true rfl, Nat.le_of_ble_eq_true rfl⟩ ⟨Nat.zero_le _, Nat.zero_le _⟩ hl.1 rfl (Nat.le_of_ble_eq_true rfl) dX1_isTower_8 ?_
  exact rd_z hC hr hlocks (isI_nar _ _ _) dX1_isTower_11 (by rfl)
theorem c_X1_isTower_ok (l : Launch) (D : va_G) (cI : ClassId) (b : Nat → Nat) (N : bS) {T R t : Nat} (hI : MI N T R) (ht : t < T) : Rd l yX1_isTower cX1_isTower 2 (some .boolean) ({ frames := 1, cells := 0, slots := 0, locals := 22 } : Room) (MW D cI b N) [.ref (b 5), .int (nI t)] (.int 1) := by
  have h := c_X1_isTower l D cI b N (nI t) hI
  have h8 := hI.2.2
  rw [show nI T - 1 = nI (T - 1) from pk_sub (a := T) (b := 1) (by omega), show (0 : Int32) = nI 0 from rfl, isI_one (Nat.zero_le t) (by omega) (by omega)] at h
  exact h
theorem c_X1_isTower_no (l : Launch) (D : va_G) (cI : ClassId) (b : Nat → Nat) (N : bS) {T R : Nat} (x : Int32) (hI : MI N T R) (h0 : isI x 0 (nI T - 1) = 0) : Rd l yX1_isTower cX1_isTower 2 (some .boolean) ({ frames := 1, cells := 0, slots := 0, locals := 22 } : Room) (MW D cI b N) [.ref (b 5), .int x] (.int 0) := by
  have h := c_X1_isTower l D cI b N x hI
  rw [h0] at h
  exact h
set_option maxHeartbeats 4000000 in
set_option maxRecDepth 100000 in
theorem c_X1_isTrader (l : Launch) (D : va_G) (cI : ClassId) (b : Nat → Nat) (N : bS) {T R : Nat} (x : Int32) (hI : MI N T R) : Rd l yX1_isTrader cX1_isTrader 2 (some .boolean) ({ frames := 1, cells := 0, slots := 0, locals := 22 } : Room) (MW D cI b N) [.ref (b 5), .int (x)] (.int (isI x 0 (nI R - 1))) := by
  refine Rd.of (by decide) (Nat.le_of_ble_eq_true rfl) ?_
  intro p e s m args below meth c ls hC hr hlocks hB hl
  have hx := hC.1
  have hb := hC.2.1
  obtain ⟨hT, hR, hT8, hR6⟩ := id hI
  have hl : lv_has ls 2 [(0, .ref (b 5)), (1, .int (x))] := hl
  refine lv_iload_n hx hb dX1_isTrader_0 rfl (lv_at hl 1 rfl) ?_
  refine lv_iconst (v := 0) hx hb dX1_isTrader_1 (by decide) ?_
  refine lv_aload_n hx hb dX1_isTrader_2 rfl (lv_at hl 0 rfl) ?_
  refine gM_traders hC hB hR dX1_isTrader_3 ?_
  refine lv_iconst (v := 1) hx hb dX1_isTrader_6 (by decide) ?_
  refine lv_isub hx hb dX1_isTrader_7 ?_
  refine k_X1_isIn hC (c_X1_isIn l (x) (0) ((nI R) - 1)) mov_T trivial rfl ⟨rfl, rfl⟩ ⟨Nat.le_of_ble_eq_true rfl, Nat.le_of_ble_eq_true rfl⟩ ⟨Nat.zero_le _, Nat.zero_le _⟩ hl.1 rfl (Nat.le_of_ble_eq_true rfl) dX1_isTrader_8 ?_
  exact rd_z hC hr hlocks (isI_nar _ _ _) dX1_isTrader_11 (by rfl)
theorem c_X1_isTrader_ok (l : Launch) (D : va_G) (cI : ClassId) (b : Nat → Nat) (N : bS) {T R t : Nat} (hI : MI N T R) (ht : t < R) : Rd l yX1_isTrader cX1_isTrader 2 (some .boolean) ({ frames := 1, cells := 0, slots := 0, locals := 22 } : Room) (MW D cI b N) [.ref (b 5), .int (nI t)] (.int 1) := by
  have h := c_X1_isTrader l D cI b N (nI t) hI
  have h8 := hI.2.2
  rw [show nI R - 1 = nI (R - 1) from pk_sub (a := R) (b := 1) (by omega), show (0 : Int32) = nI 0 from rfl, isI_one (Nat.zero_le t) (by omega) (by omega)] at h
  exact h
theorem c_X1_isTrader_no (l : Launch) (D : va_G) (cI : ClassId) (b : Nat → Nat) (N : bS) {T R : Nat} (x : Int32) (hI : MI N T R) (h0 : isI x 0 (nI R - 1) = 0) : Rd l yX1_isTrader cX1_isTrader 2 (some .boolean) ({ frames := 1, cells := 0, slots := 0, locals := 22 } : Room) (MW D cI b N) [.ref (b 5), .int x] (.int 0) := by
  have h := c_X1_isTrader l D cI b N x hI
  rw [h0] at h
  exact h
set_option maxHeartbeats 4000000 in
set_option maxRecDepth 100000 in
theorem c_X1_doves (l : Launch) (D : va_G) (cI : ClassId) (b : Nat → Nat) (N : bS) {T R : Nat} {t : Nat} (hI : MI N T R) (ht : t < T) : Rd l yX1_doves cX1_doves 4 (some .int) ({ frames := 1, cells := 0, slots := 0, locals := 24 } : Room) (MW D cI b N) [.ref (b 5), .int (nI t)] (.int (mDv N R t)) := by
  refine Rd.of (by decide) (Nat.le_of_ble_eq_true rfl) ?_
  intro p e s m args below meth c ls hC hr hlocks hB hl
  have hx := hC.1
  have hb := hC.2.1
  obtain ⟨hT, hR, hT8, hR6⟩ := id hI
  have hl : lv_has ls 4 [(0, .ref (b 5)), (1, .int (nI t))] := hl
  refine lv_iconst (v := 0) hx hb dX1_doves_0 (by decide) ?_
  refine lv_istore_n (lv' := [(2, .int (0)), (0, .ref (b 5)), (1, .int (nI t))]) hx hb dX1_doves_1 rfl hl (by decide) rfl (fun ls hl => ?_)
  refine lv_iconst (v := 0) hx hb dX1_doves_2 (by decide) ?_
  refine lv_istore_n (lv' := [(3, .int (0)), (2, .int (0)), (0, .ref (b 5)), (1, .int (nI t))]) hx hb dX1_doves_3 rfl hl (by decide) rfl (fun ls hl => ?_)
  refine loopU (P := fun i => ∀ ls : Array Slot, lv_has ls 4 [(3, .int (nI i)), (2, .int (mDv N i t)), (0, .ref (b 5)), (1, .int (nI t))] → W p l e ({ frames := 1, cells := 0, slots := 0, locals := 24 } : Room) s m args below meth c s.heap [] 0 0 (MQ below (k2_QcV (.int (mDv N R t))) args s 0 0 (fun _ => False)) (F0 m 4 ls [])) (R) ?_ ?_ 0 (by omega) ls (by first | exact lv_sub hl [0, 1, 2, 3] rfl | (simpa using lv_sub hl [0, 1, 2, 3] rfl))
  · intro ls hl
    refine lv_iload_n hx hb dX1_doves_4 rfl (lv_at hl 0 rfl) ?_
    refine lv_aload_n hx hb dX1_doves_5 rfl (lv_at hl 2 rfl) ?_
    refine gM_traders hC hB hR dX1_doves_6 ?_
    refine jge (i := R) (j := R) (tgt := 36) hC dX1_doves_9 (by decide) rfl rfl (by omega) (by omega) (fun c1 => ?_) (fun c1 => ?_)
    · refine lv_iload_n hx hb dX1_doves_36 rfl (lv_at hl 1 rfl) ?_
      exact rd_i hC hr hlocks dX1_doves_37 (by rfl)
    · exfalso; omega
  · intro i hi ih ls hl
    refine lv_iload_n hx hb dX1_doves_4 rfl (lv_at hl 0 rfl) ?_
    refine lv_aload_n hx hb dX1_doves_5 rfl (lv_at hl 2 rfl) ?_
    refine gM_traders hC hB hR dX1_doves_6 ?_
    refine jge (i := i) (j := R) (tgt := 36) hC dX1_doves_9 (by decide) rfl rfl (by omega) (by omega) (fun c2 => ?_) (fun c2 => ?_)
    · exfalso; omega
    · refine lv_iload_n hx hb dX1_doves_12 rfl (lv_at hl 1 rfl) ?_
      refine lv_iconst (v := 0) hx hb dX1_doves_13 (by decide) ?_
      refine lv_aload_n hx hb dX1_doves_14 rfl (lv_at hl 2 rfl) ?_
      refine gM_now hC hB dX1_doves_15 ?_
      refine lv_iload_n hx hb dX1_doves_18 rfl (lv_at hl 0 rfl) ?_
      refine lv_iload_n hx hb dX1_doves_19 rfl (lv_at hl 3 rfl) ?_
      refine k_X1_at hC (c_X1_at l (r := i) (t := t)) mov_T trivial rfl ⟨rfl, rfl⟩ ⟨Nat.le_of_ble_eq_true rfl, Nat.le_of_ble_eq_true rfl⟩ ⟨Nat.zero_le _, Nat.zero_le _⟩ hl.1 rfl (Nat.le_of_ble_eq_true rfl) dX1_doves_20 ?_
      refine lM_now (23 + 8 * i + t) hC hB rfl (by omega) rfl dX1_doves_23 ?_
      refine lv_ineg hx hb dX1_doves_24 ?_
      refine k_X1_max hC hl.1 ⟨Nat.le_of_ble_eq_true rfl, Nat.le_of_ble_eq_true rfl⟩ ⟨Nat.le_of_ble_eq_true rfl, Nat.le_of_ble_eq_true rfl⟩ dX1_doves_25 ?_
      refine lv_iadd hx hb dX1_doves_28 ?_
      refine lv_istore_n (lv' := [(2, .int ((mDv N i t) + (mx 0 (-(N 3 (23 + 8 * i + t)))))), (3, .int (nI i)), (0, .ref (b 5)), (1, .int (nI t))]) hx hb dX1_doves_29 rfl hl (by decide) rfl (fun ls hl => ?_)
      refine lv_iinc (v := nI (i + 1)) (lv' := [(3, .int (nI (i + 1))), (2, .int ((mDv N i t) + (mx 0 (-(N 3 (23 + 8 * i + t)))))), (0, .ref (b 5)), (1, .int (nI t))]) hx hb dX1_doves_30 hl (k := 1) rfl (ninc i) (by decide) rfl (fun ls hl => ?_)
      refine lv_goto (tgt := 4) hx hb dX1_doves_33 (by decide) ?_
      exact ih ls (lv_sub hl [0, 1, 2, 3] rfl)
set_option maxHeartbeats 4000000 in
set_option maxRecDepth 100000 in
theorem c_X1_priceBehind (l : Launch) (D : va_G) (cI : ClassId) (b : Nat → Nat) (N : bS) {T R : Nat} {t : Nat} (x : Int32) (hI : MI N T R) (ht : t < T) : Rd l yX1_priceBehind cX1_priceBehind 3 (some .int) ({ frames := 2, cells := 0, slots := 0, locals := 47 } : Room) (MW D cI b N) [.ref (b 5), .int (nI t), .int (x)] (.int (mPb N R t x)) := by
  refine Rd.of (by decide) (Nat.le_of_ble_eq_true rfl) ?_
  intro p e s m args below meth c ls hC hr hlocks hB hl
  have hx := hC.1
  have hb := hC.2.1
  obtain ⟨hT, hR, hT8, hR6⟩ := id hI
  have hl : lv_has ls 3 [(0, .ref (b 5)), (1, .int (nI t)), (2, .int (x))] := hl
  refine lv_iconst (v := 0) hx hb dX1_priceBehind_0 (by decide) ?_
  refine lv_aload_n hx hb dX1_priceBehind_1 rfl (lv_at hl 0 rfl) ?_
  refine gM_now hC hB dX1_priceBehind_2 ?_
  refine lv_iconst (v := 1) hx hb dX1_priceBehind_5 (by decide) ?_
  refine lv_iload_n hx hb dX1_priceBehind_6 rfl (lv_at hl 1 rfl) ?_
  refine xadd (v := nI (1 + t)) hC dX1_priceBehind_7 (nadd (i := 1) (j := t) rfl rfl) ?_
  refine lM_now (1 + t) hC hB rfl (by omega) rfl dX1_priceBehind_8 ?_
  refine lv_iload_n hx hb dX1_priceBehind_9 rfl (lv_at hl 2 rfl) ?_
  refine lv_iadd hx hb dX1_priceBehind_10 ?_
  refine lv_aload_n hx hb dX1_priceBehind_11 rfl (lv_at hl 0 rfl) ?_
  refine gM_loud hC hB dX1_priceBehind_12 ?_
  refine lv_iload_n hx hb dX1_priceBehind_15 rfl (lv_at hl 1 rfl) ?_
  refine lM_loud (t) hC hB rfl (by omega) rfl dX1_priceBehind_16 ?_
  refine lv_imul hx hb dX1_priceBehind_17 ?_
  refine lv_iconst (v := 2) hx hb dX1_priceBehind_18 (by decide) ?_
  refine lv_aload_n hx hb dX1_priceBehind_19 rfl (lv_at hl 0 rfl) ?_
  refine lv_iload_n hx hb dX1_priceBehind_20 rfl (lv_at hl 1 rfl) ?_
  refine k_X1_doves hC (c_X1_doves l D cI b N (t := t) (hI) (by omega)) hB rfl ⟨rfl, rfl⟩ ⟨Nat.le_of_ble_eq_true rfl, Nat.le_of_ble_eq_true rfl⟩ ⟨Nat.zero_le _, Nat.zero_le _⟩ hl.1 rfl (Nat.le_of_ble_eq_true rfl) dX1_priceBehind_21 ?_
  refine lv_imul hx hb dX1_priceBehind_24 ?_
  refine lv_isub hx hb dX1_priceBehind_25 ?_
  refine k_X1_max hC hl.1 ⟨Nat.le_of_ble_eq_true rfl, Nat.le_of_ble_eq_true rfl⟩ ⟨Nat.le_of_ble_eq_true rfl, Nat.le_of_ble_eq_true rfl⟩ dX1_priceBehind_26 ?_
  exact rd_i hC hr hlocks dX1_priceBehind_29 (by rfl)
set_option maxHeartbeats 4000000 in
set_option maxRecDepth 100000 in
theorem c_X1_price (l : Launch) (D : va_G) (cI : ClassId) (b : Nat → Nat) (N : bS) {T R : Nat} {t : Nat} (hI : MI N T R) (ht : t < T) : Rd l yX1_price cX1_price 2 (some .int) ({ frames := 3, cells := 0, slots := 0, locals := 69 } : Room) (MW D cI b N) [.ref (b 5), .int (nI t)] (.int (mPr N R t)) := by
  refine Rd.of (by decide) (Nat.le_of_ble_eq_true rfl) ?_
  intro p e s m args below meth c ls hC hr hlocks hB hl
  have hx := hC.1
  have hb := hC.2.1
  obtain ⟨hT, hR, hT8, hR6⟩ := id hI
  have hl : lv_has ls 2 [(0, .ref (b 5)), (1, .int (nI t))] := hl
  refine lv_aload_n hx hb dX1_price_0 rfl (lv_at hl 0 rfl) ?_
  refine lv_iload_n hx hb dX1_price_1 rfl (lv_at hl 1 rfl) ?_
  refine lv_iconst (v := 0) hx hb dX1_price_2 (by decide) ?_
  refine k_X1_priceBehind hC (c_X1_priceBehind l D cI b N (t := t) (0) (hI) (by omega)) hB rfl ⟨rfl, rfl⟩ ⟨Nat.le_of_ble_eq_true rfl, Nat.le_of_ble_eq_true rfl⟩ ⟨Nat.zero_le _, Nat.zero_le _⟩ hl.1 rfl (Nat.le_of_ble_eq_true rfl) dX1_price_3 ?_
  exact rd_i hC hr hlocks dX1_price_6 (by rfl)
set_option maxHeartbeats 4000000 in
set_option maxRecDepth 100000 in
theorem c_X1_until (l : Launch) (D : va_G) (cI : ClassId) (b : Nat → Nat) (N : bS) {T R : Nat} {t u : Nat} (hI : MI N T R) (ht : t < T) (hU : mU N t u) (hP : mP N T) : Rd l yX1_until cX1_until 3 (some .int) ({ frames := 0, cells := 0, slots := 0, locals := 0 } : Room) (MW D cI b N) [.ref (b 5), .int (nI t)] (.int (nI u)) := by
  refine Rd.of (by decide) (Nat.le_of_ble_eq_true rfl) ?_
  intro p e s m args below meth c ls hC hr hlocks hB hl
  have hx := hC.1
  have hb := hC.2.1
  obtain ⟨hT, hR, hT8, hR6⟩ := id hI
  have hl : lv_has ls 3 [(0, .ref (b 5)), (1, .int (nI t))] := hl
  obtain ⟨w9, rfl⟩ : ∃ w, u = w + 1 := ⟨u - 1, by have := hU.1; omega⟩
  have hw9 := hU.2.1
  refine lv_iconst (v := 1) hx hb dX1_until_0 (by decide) ?_
  refine lv_istore_n (lv' := [(2, .int (1)), (0, .ref (b 5)), (1, .int (nI t))]) hx hb dX1_until_1 rfl hl (by decide) rfl (fun ls hl => ?_)
  refine loopU (P := fun i => ∀ ls : Array Slot, lv_has ls 3 [(2, .int (nI (i + 1))), (0, .ref (b 5)), (1, .int (nI t))] → W p l e ({ frames := 0, cells := 0, slots := 0, locals := 0 } : Room) s m args below meth c s.heap [] 0 0 (MQ below (k2_QcV (.int (nI (w9 + 1)))) args s 0 0 (fun _ => False)) (F0 m 2 ls [])) (w9) ?_ ?_ 0 (by omega) ls (by first | exact lv_sub hl [0, 1, 2] rfl | (simpa using lv_sub hl [0, 1, 2] rfl))
  · intro ls hl
    refine lv_aload_n hx hb dX1_until_2 rfl (lv_at hl 1 rfl) ?_
    refine gM_now hC hB dX1_until_3 ?_
    refine lv_iconst (v := 0) hx hb dX1_until_6 (by decide) ?_
    refine lM_now (0) hC hB rfl (by omega) rfl dX1_until_7 ?_
    refine lv_iload_n hx hb dX1_until_8 rfl (lv_at hl 0 rfl) ?_
    refine lv_iadd hx hb dX1_until_9 ?_
    refine lv_aload_n hx hb dX1_until_10 rfl (lv_at hl 1 rfl) ?_
    refine gM_period hC hB dX1_until_11 ?_
    refine lv_iload_n hx hb dX1_until_14 rfl (lv_at hl 2 rfl) ?_
    refine lM_period (t) hC hB rfl (by omega) rfl dX1_until_15 ?_
    refine lv_irem hx hb dX1_until_16 (hP t ht) ?_
    refine lv_aload_n hx hb dX1_until_17 rfl (lv_at hl 1 rfl) ?_
    refine gM_beat hC hB dX1_until_18 ?_
    refine lv_iload_n hx hb dX1_until_21 rfl (lv_at hl 2 rfl) ?_
    refine lM_beat (t) hC hB rfl (by omega) rfl dX1_until_22 ?_
    refine lv_icmp_eq (tgt := 32) hx hb dX1_until_23 (by decide) (fun c1 => ?_) (fun c1 => ?_)
    · refine lv_iload_n hx hb dX1_until_32 rfl (lv_at hl 0 rfl) ?_
      exact rd_i hC hr hlocks dX1_until_33 (by rfl)
    · exfalso; exact c1 hU.2.2.1
  · intro i hi ih ls hl
    refine lv_aload_n hx hb dX1_until_2 rfl (lv_at hl 1 rfl) ?_
    refine gM_now hC hB dX1_until_3 ?_
    refine lv_iconst (v := 0) hx hb dX1_until_6 (by decide) ?_
    refine lM_now (0) hC hB rfl (by omega) rfl dX1_until_7 ?_
    refine lv_iload_n hx hb dX1_until_8 rfl (lv_at hl 0 rfl) ?_
    refine lv_iadd hx hb dX1_until_9 ?_
    refine lv_aload_n hx hb dX1_until_10 rfl (lv_at hl 1 rfl) ?_
    refine gM_period hC hB dX1_until_11 ?_
    refine lv_iload_n hx hb dX1_until_14 rfl (lv_at hl 2 rfl) ?_
    refine lM_period (t) hC hB rfl (by omega) rfl dX1_until_15 ?_
    refine lv_irem hx hb dX1_until_16 (hP t ht) ?_
    refine lv_aload_n hx hb dX1_until_17 rfl (lv_at hl 1 rfl) ?_
    refine gM_beat hC hB dX1_until_18 ?_
    refine lv_iload_n hx hb dX1_until_21 rfl (lv_at hl 2 rfl) ?_
    refine lM_beat (t) hC hB rfl (by omega) rfl dX1_until_22 ?_
    refine lv_icmp_eq (tgt := 32) hx hb dX1_until_23 (by decide) (fun c2 => ?_) (fun c2 => ?_)
    · exfalso; exact hU.2.2.2 (i + 1) (by omega) (by omega) c2
    · refine lv_iinc (v := nI (i + 1 + 1)) (lv' := [(2, .int (nI (i + 1 + 1))), (0, .ref (b 5)), (1, .int (nI t))]) hx hb dX1_until_26 hl (k := 0) rfl (ninc (i + 1)) (by decide) rfl (fun ls hl => ?_)
      refine lv_goto (tgt := 2) hx hb dX1_until_29 (by decide) ?_
      exact ih ls (lv_sub hl [0, 1, 2] rfl)
set_option maxHeartbeats 4000000 in
set_option maxRecDepth 100000 in
theorem c_X1_open (l : Launch) (D : va_G) (cI : ClassId) (b : Nat → Nat) (N : bS) {T R : Nat} {t : Nat} (hI : MI N T R) (ht : t < T) : Rd l yX1_open cX1_open 4 (some .int) ({ frames := 1, cells := 0, slots := 0, locals := 21 } : Room) (MW D cI b N) [.ref (b 5), .int (nI t)] (.int (mOp N R t)) := by
  refine Rd.of (by decide) (Nat.le_of_ble_eq_true rfl) ?_
  intro p e s m args below meth c ls hC hr hlocks hB hl
  have hx := hC.1
  have hb := hC.2.1
  obtain ⟨hT, hR, hT8, hR6⟩ := id hI
  have hl : lv_has ls 4 [(0, .ref (b 5)), (1, .int (nI t))] := hl
  refine lv_iconst (v := 0) hx hb dX1_open_0 (by decide) ?_
  refine lv_istore_n (lv' := [(2, .int (0)), (0, .ref (b 5)), (1, .int (nI t))]) hx hb dX1_open_1 rfl hl (by decide) rfl (fun ls hl => ?_)
  refine lv_iconst (v := 0) hx hb dX1_open_2 (by decide) ?_
  refine lv_istore_n (lv' := [(3, .int (0)), (2, .int (0)), (0, .ref (b 5)), (1, .int (nI t))]) hx hb dX1_open_3 rfl hl (by decide) rfl (fun ls hl => ?_)
  refine loopU (P := fun i => ∀ ls : Array Slot, lv_has ls 4 [(3, .int (nI i)), (2, .int (mOp N i t)), (0, .ref (b 5)), (1, .int (nI t))] → W p l e ({ frames := 1, cells := 0, slots := 0, locals := 21 } : Room) s m args below meth c s.heap [] 0 0 (MQ below (k2_QcV (.int (mOp N R t))) args s 0 0 (fun _ => False)) (F0 m 4 ls [])) (R) ?_ ?_ 0 (by omega) ls (by first | exact lv_sub hl [0, 1, 2, 3] rfl | (simpa using lv_sub hl [0, 1, 2, 3] rfl))
  · intro ls hl
    refine lv_iload_n hx hb dX1_open_4 rfl (lv_at hl 0 rfl) ?_
    refine lv_aload_n hx hb dX1_open_5 rfl (lv_at hl 2 rfl) ?_
    refine gM_traders hC hB hR dX1_open_6 ?_
    refine jge (i := R) (j := R) (tgt := 31) hC dX1_open_9 (by decide) rfl rfl (by omega) (by omega) (fun c1 => ?_) (fun c1 => ?_)
    · refine lv_iload_n hx hb dX1_open_31 rfl (lv_at hl 1 rfl) ?_
      exact rd_i hC hr hlocks dX1_open_32 (by rfl)
    · exfalso; omega
  · intro i hi ih ls hl
    refine lv_iload_n hx hb dX1_open_4 rfl (lv_at hl 0 rfl) ?_
    refine lv_aload_n hx hb dX1_open_5 rfl (lv_at hl 2 rfl) ?_
    refine gM_traders hC hB hR dX1_open_6 ?_
    refine jge (i := i) (j := R) (tgt := 31) hC dX1_open_9 (by decide) rfl rfl (by omega) (by omega) (fun c2 => ?_) (fun c2 => ?_)
    · exfalso; omega
    · refine lv_iload_n hx hb dX1_open_12 rfl (lv_at hl 1 rfl) ?_
      refine lv_aload_n hx hb dX1_open_13 rfl (lv_at hl 2 rfl) ?_
      refine gM_now hC hB dX1_open_14 ?_
      refine lv_iload_n hx hb dX1_open_17 rfl (lv_at hl 0 rfl) ?_
      refine lv_iload_n hx hb dX1_open_18 rfl (lv_at hl 3 rfl) ?_
      refine k_X1_at hC (c_X1_at l (r := i) (t := t)) mov_T trivial rfl ⟨rfl, rfl⟩ ⟨Nat.le_of_ble_eq_true rfl, Nat.le_of_ble_eq_true rfl⟩ ⟨Nat.zero_le _, Nat.zero_le _⟩ hl.1 rfl (Nat.le_of_ble_eq_true rfl) dX1_open_19 ?_
      refine lM_now (23 + 8 * i + t) hC hB rfl (by omega) rfl dX1_open_22 ?_
      refine lv_iadd hx hb dX1_open_23 ?_
      refine lv_istore_n (lv' := [(2, .int ((mOp N i t) + (N 3 (23 + 8 * i + t)))), (3, .int (nI i)), (0, .ref (b 5)), (1, .int (nI t))]) hx hb dX1_open_24 rfl hl (by decide) rfl (fun ls hl => ?_)
      refine lv_iinc (v := nI (i + 1)) (lv' := [(3, .int (nI (i + 1))), (2, .int ((mOp N i t) + (N 3 (23 + 8 * i + t)))), (0, .ref (b 5)), (1, .int (nI t))]) hx hb dX1_open_25 hl (k := 1) rfl (ninc i) (by decide) rfl (fun ls hl => ?_)
      refine lv_goto (tgt := 4) hx hb dX1_open_28 (by decide) ?_
      exact ih ls (lv_sub hl [0, 1, 2, 3] rfl)
set_option maxHeartbeats 4000000 in
set_option maxRecDepth 100000 in
theorem c_X1_dear (l : Launch) (D : va_G) (cI : ClassId) (b : Nat → Nat) (N : bS) {T R : Nat} (hI : MI N T R) : Rd l yX1_dear cX1_dear 3 (some .int) ({ frames := 4, cells := 0, slots := 0, locals := 90 } : Room) (MW D cI b N) [.ref (b 5)] (.int (oI (mDe N T R))) := by
  refine Rd.of (by decide) (Nat.le_of_ble_eq_true rfl) ?_
  intro p e s m args below meth c ls hC hr hlocks hB hl
  have hx := hC.1
  have hb := hC.2.1
  obtain ⟨hT, hR, hT8, hR6⟩ := id hI
  have hl : lv_has ls 3 [(0, .ref (b 5))] := hl
  refine lv_iconst (v := -1) hx hb dX1_dear_0 (by decide) ?_
  refine lv_istore_n (lv' := [(1, .int (-1)), (0, .ref (b 5))]) hx hb dX1_dear_1 rfl hl (by decide) rfl (fun ls hl => ?_)
  refine lv_iconst (v := 0) hx hb dX1_dear_2 (by decide) ?_
  refine lv_istore_n (lv' := [(2, .int (0)), (1, .int (-1)), (0, .ref (b 5))]) hx hb dX1_dear_3 rfl hl (by decide) rfl (fun ls hl => ?_)
  refine loopU (P := fun i => ∀ ls : Array Slot, lv_has ls 3 [(2, .int (nI i)), (1, .int (oI (amx (mPr N R) i))), (0, .ref (b 5))] → W p l e ({ frames := 4, cells := 0, slots := 0, locals := 90 } : Room) s m args below meth c s.heap [] 0 0 (MQ below (k2_QcV (.int (oI (mDe N T R)))) args s 0 0 (fun _ => False)) (F0 m 4 ls [])) (T) ?_ ?_ 0 (by omega) ls (by first | exact lv_sub hl [0, 1, 2] rfl | (simpa using lv_sub hl [0, 1, 2] rfl))
  · intro ls hl
    refine lv_iload_n hx hb dX1_dear_4 rfl (lv_at hl 0 rfl) ?_
    refine lv_aload_n hx hb dX1_dear_5 rfl (lv_at hl 2 rfl) ?_
    refine gM_towers hC hB hT dX1_dear_6 ?_
    refine jge (i := T) (j := T) (tgt := 38) hC dX1_dear_9 (by decide) rfl rfl (by omega) (by omega) (fun c1 => ?_) (fun c1 => ?_)
    · refine lv_iload_n hx hb dX1_dear_38 rfl (lv_at hl 1 rfl) ?_
      exact rd_i hC hr hlocks dX1_dear_39 (by rfl)
    · exfalso; omega
  · intro i hi ih ls hl
    rcases hq : amx (mPr N R) i with _ | b9
    · rw [hq] at hl
      have hl : lv_has ls 3 [(2, .int (nI i)), (1, .int (-1)), (0, .ref (b 5))] := hl
      refine lv_iload_n hx hb dX1_dear_4 rfl (lv_at hl 0 rfl) ?_
      refine lv_aload_n hx hb dX1_dear_5 rfl (lv_at hl 2 rfl) ?_
      refine gM_towers hC hB hT dX1_dear_6 ?_
      refine jge (i := i) (j := T) (tgt := 38) hC dX1_dear_9 (by decide) rfl rfl (by omega) (by omega) (fun c2 => ?_) (fun c2 => ?_)
      · exfalso; omega
      · refine lv_iload_n hx hb dX1_dear_12 rfl (lv_at hl 1 rfl) ?_
        refine lv_iconst (v := -1) hx hb dX1_dear_13 (by decide) ?_
        refine lv_icmp_eq (tgt := 30) hx hb dX1_dear_14 (by decide) (fun c3 => ?_) (fun c3 => ?_)
        · refine lv_iload_n hx hb dX1_dear_30 rfl (lv_at hl 0 rfl) ?_
          refine lv_istore_n (lv' := [(1, .int (nI i)), (2, .int (nI i)), (0, .ref (b 5))]) hx hb dX1_dear_31 rfl hl (by decide) rfl (fun ls hl => ?_)
          refine lv_iinc (v := nI (i + 1)) (lv' := [(2, .int (nI (i + 1))), (1, .int (nI i)), (0, .ref (b 5))]) hx hb dX1_dear_32 hl (k := 1) rfl (ninc i) (by decide) rfl (fun ls hl => ?_)
          refine lv_goto (tgt := 4) hx hb dX1_dear_35 (by decide) ?_
          have e4 : oI (amx (mPr N R) (i + 1)) = nI i := by rw [amx_none hq] <;> rfl
          exact ih ls (by rw [e4]; exact lv_sub hl [0, 1, 2] rfl)
        · exfalso; revert c3; decide
    · rw [hq] at hl
      have hl : lv_has ls 3 [(2, .int (nI i)), (1, .int (nI b9)), (0, .ref (b 5))] := hl
      have hb9 := amx_lt i hq
      refine lv_iload_n hx hb dX1_dear_4 rfl (lv_at hl 0 rfl) ?_
      refine lv_aload_n hx hb dX1_dear_5 rfl (lv_at hl 2 rfl) ?_
      refine gM_towers hC hB hT dX1_dear_6 ?_
      refine jge (i := i) (j := T) (tgt := 38) hC dX1_dear_9 (by decide) rfl rfl (by omega) (by omega) (fun c5 => ?_) (fun c5 => ?_)
      · exfalso; omega
      · refine lv_iload_n hx hb dX1_dear_12 rfl (lv_at hl 1 rfl) ?_
        refine lv_iconst (v := -1) hx hb dX1_dear_13 (by decide) ?_
        refine lv_icmp_eq (tgt := 30) hx hb dX1_dear_14 (by decide) (fun c6 => ?_) (fun c6 => ?_)
        · exfalso; exact nI_m1 (by omega) c6
        · refine lv_aload_n hx hb dX1_dear_17 rfl (lv_at hl 2 rfl) ?_
          refine lv_iload_n hx hb dX1_dear_18 rfl (lv_at hl 0 rfl) ?_
          refine k_X1_price hC (c_X1_price l D cI b N (t := i) (hI) (by omega)) hB rfl ⟨rfl, rfl⟩ ⟨Nat.le_of_ble_eq_true rfl, Nat.le_of_ble_eq_true rfl⟩ ⟨Nat.zero_le _, Nat.zero_le _⟩ hl.1 rfl (Nat.le_of_ble_eq_true rfl) dX1_dear_19 ?_
          refine lv_aload_n hx hb dX1_dear_22 rfl (lv_at hl 2 rfl) ?_
          refine lv_iload_n hx hb dX1_dear_23 rfl (lv_at hl 1 rfl) ?_
          refine k_X1_price hC (c_X1_price l D cI b N (t := b9) (hI) (by omega)) hB rfl ⟨rfl, rfl⟩ ⟨Nat.le_of_ble_eq_true rfl, Nat.le_of_ble_eq_true rfl⟩ ⟨Nat.zero_le _, Nat.zero_le _⟩ hl.1 rfl (Nat.le_of_ble_eq_true rfl) dX1_dear_24 ?_
          refine lv_icmp_le (tgt := 32) hx hb dX1_dear_27 (by decide) (fun c7 => ?_) (fun c7 => ?_)
          · refine lv_iinc (v := nI (i + 1)) (lv' := [(2, .int (nI (i + 1))), (1, .int (nI b9)), (0, .ref (b 5))]) hx hb dX1_dear_32 hl (k := 0) rfl (ninc i) (by decide) rfl (fun ls hl => ?_)
            refine lv_goto (tgt := 4) hx hb dX1_dear_35 (by decide) ?_
            have e8 : oI (amx (mPr N R) (i + 1)) = nI b9 := by rw [amx_keep hq c7] <;> rfl
            exact ih ls (by rw [e8]; exact lv_sub hl [0, 1, 2] rfl)
          · refine lv_iload_n hx hb dX1_dear_30 rfl (lv_at hl 0 rfl) ?_
            refine lv_istore_n (lv' := [(1, .int (nI i)), (2, .int (nI i)), (0, .ref (b 5))]) hx hb dX1_dear_31 rfl hl (by decide) rfl (fun ls hl => ?_)
            refine lv_iinc (v := nI (i + 1)) (lv' := [(2, .int (nI (i + 1))), (1, .int (nI i)), (0, .ref (b 5))]) hx hb dX1_dear_32 hl (k := 1) rfl (ninc i) (by decide) rfl (fun ls hl => ?_)
            refine lv_goto (tgt := 4) hx hb dX1_dear_35 (by decide) ?_
            have e9 : oI (amx (mPr N R) (i + 1)) = nI i := by rw [amx_new hq c7] <;> rfl
            exact ih ls (by rw [e9]; exact lv_sub hl [0, 1, 2] rfl)
set_option maxHeartbeats 4000000 in
set_option maxRecDepth 100000 in
theorem c_X1_next (l : Launch) (D : va_G) (cI : ClassId) (b : Nat → Nat) (N : bS) {T R : Nat} {u : Nat → Nat} (hI : MI N T R) (hU : ∀ t, t < T → mU N t (u t)) (hP : mP N T) : Rd l yX1_next cX1_next 3 (some .int) ({ frames := 1, cells := 0, slots := 0, locals := 22 } : Room) (MW D cI b N) [.ref (b 5)] (.int (oI (amN u T))) := by
  refine Rd.of (by decide) (Nat.le_of_ble_eq_true rfl) ?_
  intro p e s m args below meth c ls hC hr hlocks hB hl
  have hx := hC.1
  have hb := hC.2.1
  obtain ⟨hT, hR, hT8, hR6⟩ := id hI
  have hl : lv_has ls 3 [(0, .ref (b 5))] := hl
  refine lv_iconst (v := -1) hx hb dX1_next_0 (by decide) ?_
  refine lv_istore_n (lv' := [(1, .int (-1)), (0, .ref (b 5))]) hx hb dX1_next_1 rfl hl (by decide) rfl (fun ls hl => ?_)
  refine lv_iconst (v := 0) hx hb dX1_next_2 (by decide) ?_
  refine lv_istore_n (lv' := [(2, .int (0)), (1, .int (-1)), (0, .ref (b 5))]) hx hb dX1_next_3 rfl hl (by decide) rfl (fun ls hl => ?_)
  refine loopU (P := fun i => ∀ ls : Array Slot, lv_has ls 3 [(2, .int (nI i)), (1, .int (oI (amN u i))), (0, .ref (b 5))] → W p l e ({ frames := 1, cells := 0, slots := 0, locals := 22 } : Room) s m args below meth c s.heap [] 0 0 (MQ below (k2_QcV (.int (oI (amN u T)))) args s 0 0 (fun _ => False)) (F0 m 4 ls [])) (T) ?_ ?_ 0 (by omega) ls (by first | exact lv_sub hl [0, 1, 2] rfl | (simpa using lv_sub hl [0, 1, 2] rfl))
  · intro ls hl
    refine lv_iload_n hx hb dX1_next_4 rfl (lv_at hl 0 rfl) ?_
    refine lv_aload_n hx hb dX1_next_5 rfl (lv_at hl 2 rfl) ?_
    refine gM_towers hC hB hT dX1_next_6 ?_
    refine jge (i := T) (j := T) (tgt := 38) hC dX1_next_9 (by decide) rfl rfl (by omega) (by omega) (fun c1 => ?_) (fun c1 => ?_)
    · refine lv_iload_n hx hb dX1_next_38 rfl (lv_at hl 1 rfl) ?_
      exact rd_i hC hr hlocks dX1_next_39 (by rfl)
    · exfalso; omega
  · intro i hi ih ls hl
    rcases hq : amN u i with _ | b9
    · rw [hq] at hl
      have hl : lv_has ls 3 [(2, .int (nI i)), (1, .int (-1)), (0, .ref (b 5))] := hl
      refine lv_iload_n hx hb dX1_next_4 rfl (lv_at hl 0 rfl) ?_
      refine lv_aload_n hx hb dX1_next_5 rfl (lv_at hl 2 rfl) ?_
      refine gM_towers hC hB hT dX1_next_6 ?_
      refine jge (i := i) (j := T) (tgt := 38) hC dX1_next_9 (by decide) rfl rfl (by omega) (by omega) (fun c2 => ?_) (fun c2 => ?_)
      · exfalso; omega
      · refine lv_iload_n hx hb dX1_next_12 rfl (lv_at hl 1 rfl) ?_
        refine lv_iconst (v := -1) hx hb dX1_next_13 (by decide) ?_
        refine lv_icmp_eq (tgt := 30) hx hb dX1_next_14 (by decide) (fun c3 => ?_) (fun c3 => ?_)
        · refine lv_iload_n hx hb dX1_next_30 rfl (lv_at hl 0 rfl) ?_
          refine lv_istore_n (lv' := [(1, .int (nI i)), (2, .int (nI i)), (0, .ref (b 5))]) hx hb dX1_next_31 rfl hl (by decide) rfl (fun ls hl => ?_)
          refine lv_iinc (v := nI (i + 1)) (lv' := [(2, .int (nI (i + 1))), (1, .int (nI i)), (0, .ref (b 5))]) hx hb dX1_next_32 hl (k := 1) rfl (ninc i) (by decide) rfl (fun ls hl => ?_)
          refine lv_goto (tgt := 4) hx hb dX1_next_35 (by decide) ?_
          have e4 : oI (amN u (i + 1)) = nI i := by rw [amN_none hq] <;> rfl
          exact ih ls (by rw [e4]; exact lv_sub hl [0, 1, 2] rfl)
        · exfalso; revert c3; decide
    · rw [hq] at hl
      have hl : lv_has ls 3 [(2, .int (nI i)), (1, .int (nI b9)), (0, .ref (b 5))] := hl
      have hb9 := amN_lt i hq
      have hu8 := (hU i hi).2.1
      have hu9 := (hU b9 (by omega)).2.1
      refine lv_iload_n hx hb dX1_next_4 rfl (lv_at hl 0 rfl) ?_
      refine lv_aload_n hx hb dX1_next_5 rfl (lv_at hl 2 rfl) ?_
      refine gM_towers hC hB hT dX1_next_6 ?_
      refine jge (i := i) (j := T) (tgt := 38) hC dX1_next_9 (by decide) rfl rfl (by omega) (by omega) (fun c5 => ?_) (fun c5 => ?_)
      · exfalso; omega
      · refine lv_iload_n hx hb dX1_next_12 rfl (lv_at hl 1 rfl) ?_
        refine lv_iconst (v := -1) hx hb dX1_next_13 (by decide) ?_
        refine lv_icmp_eq (tgt := 30) hx hb dX1_next_14 (by decide) (fun c6 => ?_) (fun c6 => ?_)
        · exfalso; exact nI_m1 (by omega) c6
        · refine lv_aload_n hx hb dX1_next_17 rfl (lv_at hl 2 rfl) ?_
          refine lv_iload_n hx hb dX1_next_18 rfl (lv_at hl 0 rfl) ?_
          refine k_X1_until hC (c_X1_until l D cI b N (t := i) (hI) (by omega) ((hU) _ (by omega)) (hP)) hB rfl ⟨rfl, rfl⟩ ⟨Nat.le_of_ble_eq_true rfl, Nat.le_of_ble_eq_true rfl⟩ ⟨Nat.zero_le _, Nat.zero_le _⟩ hl.1 rfl (Nat.le_of_ble_eq_true rfl) dX1_next_19 ?_
          refine lv_aload_n hx hb dX1_next_22 rfl (lv_at hl 2 rfl) ?_
          refine lv_iload_n hx hb dX1_next_23 rfl (lv_at hl 1 rfl) ?_
          refine k_X1_until hC (c_X1_until l D cI b N (t := b9) (hI) (by omega) ((hU) _ (by omega)) (hP)) hB rfl ⟨rfl, rfl⟩ ⟨Nat.le_of_ble_eq_true rfl, Nat.le_of_ble_eq_true rfl⟩ ⟨Nat.zero_le _, Nat.zero_le _⟩ hl.1 rfl (Nat.le_of_ble_eq_true rfl) dX1_next_24 ?_
          refine jge (i := u i) (j := u b9) (tgt := 32) hC dX1_next_27 (by decide) rfl rfl (by omega) (by omega) (fun c7 => ?_) (fun c7 => ?_)
          · refine lv_iinc (v := nI (i + 1)) (lv' := [(2, .int (nI (i + 1))), (1, .int (nI b9)), (0, .ref (b 5))]) hx hb dX1_next_32 hl (k := 0) rfl (ninc i) (by decide) rfl (fun ls hl => ?_)
            refine lv_goto (tgt := 4) hx hb dX1_next_35 (by decide) ?_
            have e8 : oI (amN u (i + 1)) = nI b9 := by rw [amN_keep hq c7] <;> rfl
            exact ih ls (by rw [e8]; exact lv_sub hl [0, 1, 2] rfl)
          · refine lv_iload_n hx hb dX1_next_30 rfl (lv_at hl 0 rfl) ?_
            refine lv_istore_n (lv' := [(1, .int (nI i)), (2, .int (nI i)), (0, .ref (b 5))]) hx hb dX1_next_31 rfl hl (by decide) rfl (fun ls hl => ?_)
            refine lv_iinc (v := nI (i + 1)) (lv' := [(2, .int (nI (i + 1))), (1, .int (nI i)), (0, .ref (b 5))]) hx hb dX1_next_32 hl (k := 1) rfl (ninc i) (by decide) rfl (fun ls hl => ?_)
            refine lv_goto (tgt := 4) hx hb dX1_next_35 (by decide) ?_
            have e9 : oI (amN u (i + 1)) = nI i := by rw [amN_new hq c7] <;> rfl
            exact ih ls (by rw [e9]; exact lv_sub hl [0, 1, 2] rfl)
set_option maxHeartbeats 4000000 in
set_option maxRecDepth 100000 in
theorem c_X1_worth (l : Launch) (D : va_G) (cI : ClassId) (b : Nat → Nat) (N : bS) {T R : Nat} {r : Nat} (hI : MI N T R) (hr9 : r < R) : Rd l yX1_worth cX1_worth 4 (some .int) ({ frames := 4, cells := 0, slots := 0, locals := 90 } : Room) (MW D cI b N) [.ref (b 5), .int (nI r)] (.int (mWo N T R r)) := by
  refine Rd.of (by decide) (Nat.le_of_ble_eq_true rfl) ?_
  intro p e s m args below meth c ls hC hr hlocks hB hl
  have hx := hC.1
  have hb := hC.2.1
  obtain ⟨hT, hR, hT8, hR6⟩ := id hI
  have hl : lv_has ls 4 [(0, .ref (b 5)), (1, .int (nI r))] := hl
  refine lv_aload_n hx hb dX1_worth_0 rfl (lv_at hl 0 rfl) ?_
  refine gM_now hC hB dX1_worth_1 ?_
  refine lv_bipush (v := 17) hx hb dX1_worth_4 (by decide) ?_
  refine lv_iload_n hx hb dX1_worth_6 rfl (lv_at hl 1 rfl) ?_
  refine xadd (v := nI (17 + r)) hC dX1_worth_7 (nadd (i := 17) (j := r) rfl rfl) ?_
  refine lM_now (17 + r) hC hB rfl (by omega) rfl dX1_worth_8 ?_
  refine lv_istore_n (lv' := [(2, .int (N 3 (17 + r))), (0, .ref (b 5)), (1, .int (nI r))]) hx hb dX1_worth_9 rfl hl (by decide) rfl (fun ls hl => ?_)
  refine lv_iconst (v := 0) hx hb dX1_worth_10 (by decide) ?_
  refine lv_istore_n (lv' := [(3, .int (0)), (2, .int (N 3 (17 + r))), (0, .ref (b 5)), (1, .int (nI r))]) hx hb dX1_worth_11 rfl hl (by decide) rfl (fun ls hl => ?_)
  refine loopU (P := fun i => ∀ ls : Array Slot, lv_has ls 4 [(3, .int (nI i)), (2, .int (mWo N i R r)), (0, .ref (b 5)), (1, .int (nI r))] → W p l e ({ frames := 4, cells := 0, slots := 0, locals := 90 } : Room) s m args below meth c s.heap [] 0 0 (MQ below (k2_QcV (.int (mWo N T R r))) args s 0 0 (fun _ => False)) (F0 m 12 ls [])) (T) ?_ ?_ 0 (by omega) ls (by first | exact lv_sub hl [0, 1, 2, 3] rfl | (simpa using lv_sub hl [0, 1, 2, 3] rfl))
  · intro ls hl
    refine lv_iload_n hx hb dX1_worth_12 rfl (lv_at hl 0 rfl) ?_
    refine lv_aload_n hx hb dX1_worth_13 rfl (lv_at hl 2 rfl) ?_
    refine gM_towers hC hB hT dX1_worth_14 ?_
    refine jge (i := T) (j := T) (tgt := 45) hC dX1_worth_17 (by decide) rfl rfl (by omega) (by omega) (fun c1 => ?_) (fun c1 => ?_)
    · refine lv_iload_n hx hb dX1_worth_45 rfl (lv_at hl 1 rfl) ?_
      exact rd_i hC hr hlocks dX1_worth_46 (by rfl)
    · exfalso; omega
  · intro i hi ih ls hl
    refine lv_iload_n hx hb dX1_worth_12 rfl (lv_at hl 0 rfl) ?_
    refine lv_aload_n hx hb dX1_worth_13 rfl (lv_at hl 2 rfl) ?_
    refine gM_towers hC hB hT dX1_worth_14 ?_
    refine jge (i := i) (j := T) (tgt := 45) hC dX1_worth_17 (by decide) rfl rfl (by omega) (by omega) (fun c2 => ?_) (fun c2 => ?_)
    · exfalso; omega
    · refine lv_iload_n hx hb dX1_worth_20 rfl (lv_at hl 1 rfl) ?_
      refine lv_aload_n hx hb dX1_worth_21 rfl (lv_at hl 2 rfl) ?_
      refine lv_iload_n hx hb dX1_worth_22 rfl (lv_at hl 0 rfl) ?_
      refine k_X1_price hC (c_X1_price l D cI b N (t := i) (hI) (by omega)) hB rfl ⟨rfl, rfl⟩ ⟨Nat.le_of_ble_eq_true rfl, Nat.le_of_ble_eq_true rfl⟩ ⟨Nat.zero_le _, Nat.zero_le _⟩ hl.1 rfl (Nat.le_of_ble_eq_true rfl) dX1_worth_23 ?_
      refine lv_aload_n hx hb dX1_worth_26 rfl (lv_at hl 2 rfl) ?_
      refine gM_now hC hB dX1_worth_27 ?_
      refine lv_iload_n hx hb dX1_worth_30 rfl (lv_at hl 3 rfl) ?_
      refine lv_iload_n hx hb dX1_worth_31 rfl (lv_at hl 0 rfl) ?_
      refine k_X1_at hC (c_X1_at l (r := r) (t := i)) mov_T trivial rfl ⟨rfl, rfl⟩ ⟨Nat.le_of_ble_eq_true rfl, Nat.le_of_ble_eq_true rfl⟩ ⟨Nat.zero_le _, Nat.zero_le _⟩ hl.1 rfl (Nat.le_of_ble_eq_true rfl) dX1_worth_32 ?_
      refine lM_now (23 + 8 * r + i) hC hB rfl (by omega) rfl dX1_worth_35 ?_
      refine lv_imul hx hb dX1_worth_36 ?_
      refine lv_iadd hx hb dX1_worth_37 ?_
      refine lv_istore_n (lv' := [(2, .int ((mWo N i R r) + ((mPr N R i) * (N 3 (23 + 8 * r + i))))), (3, .int (nI i)), (0, .ref (b 5)), (1, .int (nI r))]) hx hb dX1_worth_38 rfl hl (by decide) rfl (fun ls hl => ?_)
      refine lv_iinc (v := nI (i + 1)) (lv' := [(3, .int (nI (i + 1))), (2, .int ((mWo N i R r) + ((mPr N R i) * (N 3 (23 + 8 * r + i))))), (0, .ref (b 5)), (1, .int (nI r))]) hx hb dX1_worth_39 hl (k := 1) rfl (ninc i) (by decide) rfl (fun ls hl => ?_)
      refine lv_goto (tgt := 12) hx hb dX1_worth_42 (by decide) ?_
      exact ih ls (lv_sub hl [0, 1, 2, 3] rfl)
set_option maxHeartbeats 4000000 in
set_option maxRecDepth 100000 in
theorem c_X1_rich (l : Launch) (D : va_G) (cI : ClassId) (b : Nat → Nat) (N : bS) {T R : Nat} (hI : MI N T R) : Rd l yX1_rich cX1_rich 3 (some .int) ({ frames := 5, cells := 0, slots := 0, locals := 113 } : Room) (MW D cI b N) [.ref (b 5)] (.int (oI (mRi N T R))) := by
  refine Rd.of (by decide) (Nat.le_of_ble_eq_true rfl) ?_
  intro p e s m args below meth c ls hC hr hlocks hB hl
  have hx := hC.1
  have hb := hC.2.1
  obtain ⟨hT, hR, hT8, hR6⟩ := id hI
  have hl : lv_has ls 3 [(0, .ref (b 5))] := hl
  refine lv_iconst (v := -1) hx hb dX1_rich_0 (by decide) ?_
  refine lv_istore_n (lv' := [(1, .int (-1)), (0, .ref (b 5))]) hx hb dX1_rich_1 rfl hl (by decide) rfl (fun ls hl => ?_)
  refine lv_iconst (v := 0) hx hb dX1_rich_2 (by decide) ?_
  refine lv_istore_n (lv' := [(2, .int (0)), (1, .int (-1)), (0, .ref (b 5))]) hx hb dX1_rich_3 rfl hl (by decide) rfl (fun ls hl => ?_)
  refine loopU (P := fun i => ∀ ls : Array Slot, lv_has ls 3 [(2, .int (nI i)), (1, .int (oI (amx (mWo N T R) i))), (0, .ref (b 5))] → W p l e ({ frames := 5, cells := 0, slots := 0, locals := 113 } : Room) s m args below meth c s.heap [] 0 0 (MQ below (k2_QcV (.int (oI (mRi N T R)))) args s 0 0 (fun _ => False)) (F0 m 4 ls [])) (R) ?_ ?_ 0 (by omega) ls (by first | exact lv_sub hl [0, 1, 2] rfl | (simpa using lv_sub hl [0, 1, 2] rfl))
  · intro ls hl
    refine lv_iload_n hx hb dX1_rich_4 rfl (lv_at hl 0 rfl) ?_
    refine lv_aload_n hx hb dX1_rich_5 rfl (lv_at hl 2 rfl) ?_
    refine gM_traders hC hB hR dX1_rich_6 ?_
    refine jge (i := R) (j := R) (tgt := 38) hC dX1_rich_9 (by decide) rfl rfl (by omega) (by omega) (fun c1 => ?_) (fun c1 => ?_)
    · refine lv_iload_n hx hb dX1_rich_38 rfl (lv_at hl 1 rfl) ?_
      exact rd_i hC hr hlocks dX1_rich_39 (by rfl)
    · exfalso; omega
  · intro i hi ih ls hl
    rcases hq : amx (mWo N T R) i with _ | b9
    · rw [hq] at hl
      have hl : lv_has ls 3 [(2, .int (nI i)), (1, .int (-1)), (0, .ref (b 5))] := hl
      refine lv_iload_n hx hb dX1_rich_4 rfl (lv_at hl 0 rfl) ?_
      refine lv_aload_n hx hb dX1_rich_5 rfl (lv_at hl 2 rfl) ?_
      refine gM_traders hC hB hR dX1_rich_6 ?_
      refine jge (i := i) (j := R) (tgt := 38) hC dX1_rich_9 (by decide) rfl rfl (by omega) (by omega) (fun c2 => ?_) (fun c2 => ?_)
      · exfalso; omega
      · refine lv_iload_n hx hb dX1_rich_12 rfl (lv_at hl 1 rfl) ?_
        refine lv_iconst (v := -1) hx hb dX1_rich_13 (by decide) ?_
        refine lv_icmp_eq (tgt := 30) hx hb dX1_rich_14 (by decide) (fun c3 => ?_) (fun c3 => ?_)
        · refine lv_iload_n hx hb dX1_rich_30 rfl (lv_at hl 0 rfl) ?_
          refine lv_istore_n (lv' := [(1, .int (nI i)), (2, .int (nI i)), (0, .ref (b 5))]) hx hb dX1_rich_31 rfl hl (by decide) rfl (fun ls hl => ?_)
          refine lv_iinc (v := nI (i + 1)) (lv' := [(2, .int (nI (i + 1))), (1, .int (nI i)), (0, .ref (b 5))]) hx hb dX1_rich_32 hl (k := 1) rfl (ninc i) (by decide) rfl (fun ls hl => ?_)
          refine lv_goto (tgt := 4) hx hb dX1_rich_35 (by decide) ?_
          have e4 : oI (amx (mWo N T R) (i + 1)) = nI i := by rw [amx_none hq] <;> rfl
          exact ih ls (by rw [e4]; exact lv_sub hl [0, 1, 2] rfl)
        · exfalso; revert c3; decide
    · rw [hq] at hl
      have hl : lv_has ls 3 [(2, .int (nI i)), (1, .int (nI b9)), (0, .ref (b 5))] := hl
      have hb9 := amx_lt i hq
      refine lv_iload_n hx hb dX1_rich_4 rfl (lv_at hl 0 rfl) ?_
      refine lv_aload_n hx hb dX1_rich_5 rfl (lv_at hl 2 rfl) ?_
      refine gM_traders hC hB hR dX1_rich_6 ?_
      refine jge (i := i) (j := R) (tgt := 38) hC dX1_rich_9 (by decide) rfl rfl (by omega) (by omega) (fun c5 => ?_) (fun c5 => ?_)
      · exfalso; omega
      · refine lv_iload_n hx hb dX1_rich_12 rfl (lv_at hl 1 rfl) ?_
        refine lv_iconst (v := -1) hx hb dX1_rich_13 (by decide) ?_
        refine lv_icmp_eq (tgt := 30) hx hb dX1_rich_14 (by decide) (fun c6 => ?_) (fun c6 => ?_)
        · exfalso; exact nI_m1 (by omega) c6
        · refine lv_aload_n hx hb dX1_rich_17 rfl (lv_at hl 2 rfl) ?_
          refine lv_iload_n hx hb dX1_rich_18 rfl (lv_at hl 0 rfl) ?_
          refine k_X1_worth hC (c_X1_worth l D cI b N (r := i) (hI) (by omega)) hB rfl ⟨rfl, rfl⟩ ⟨Nat.le_of_ble_eq_true rfl, Nat.le_of_ble_eq_true rfl⟩ ⟨Nat.zero_le _, Nat.zero_le _⟩ hl.1 rfl (Nat.le_of_ble_eq_true rfl) dX1_rich_19 ?_
          refine lv_aload_n hx hb dX1_rich_22 rfl (lv_at hl 2 rfl) ?_
          refine lv_iload_n hx hb dX1_rich_23 rfl (lv_at hl 1 rfl) ?_
          refine k_X1_worth hC (c_X1_worth l D cI b N (r := b9) (hI) (by omega)) hB rfl ⟨rfl, rfl⟩ ⟨Nat.le_of_ble_eq_true rfl, Nat.le_of_ble_eq_true rfl⟩ ⟨Nat.zero_le _, Nat.zero_le _⟩ hl.1 rfl (Nat.le_of_ble_eq_true rfl) dX1_rich_24 ?_
          refine lv_icmp_le (tgt := 32) hx hb dX1_rich_27 (by decide) (fun c7 => ?_) (fun c7 => ?_)
          · refine lv_iinc (v := nI (i + 1)) (lv' := [(2, .int (nI (i + 1))), (1, .int (nI b9)), (0, .ref (b 5))]) hx hb dX1_rich_32 hl (k := 0) rfl (ninc i) (by decide) rfl (fun ls hl => ?_)
            refine lv_goto (tgt := 4) hx hb dX1_rich_35 (by decide) ?_
            have e8 : oI (amx (mWo N T R) (i + 1)) = nI b9 := by rw [amx_keep hq c7] <;> rfl
            exact ih ls (by rw [e8]; exact lv_sub hl [0, 1, 2] rfl)
          · refine lv_iload_n hx hb dX1_rich_30 rfl (lv_at hl 0 rfl) ?_
            refine lv_istore_n (lv' := [(1, .int (nI i)), (2, .int (nI i)), (0, .ref (b 5))]) hx hb dX1_rich_31 rfl hl (by decide) rfl (fun ls hl => ?_)
            refine lv_iinc (v := nI (i + 1)) (lv' := [(2, .int (nI (i + 1))), (1, .int (nI i)), (0, .ref (b 5))]) hx hb dX1_rich_32 hl (k := 1) rfl (ninc i) (by decide) rfl (fun ls hl => ?_)
            refine lv_goto (tgt := 4) hx hb dX1_rich_35 (by decide) ?_
            have e9 : oI (amx (mWo N T R) (i + 1)) = nI i := by rw [amx_new hq c7] <;> rfl
            exact ih ls (by rw [e9]; exact lv_sub hl [0, 1, 2] rfl)
set_option maxHeartbeats 4000000 in
set_option maxRecDepth 100000 in
theorem c_X1_shorts (l : Launch) (D : va_G) (cI : ClassId) (b : Nat → Nat) (N : bS) {T R : Nat} {r : Nat} (hI : MI N T R) (hr9 : r < R) : Rd l yX1_shorts cX1_shorts 4 (some .int) ({ frames := 1, cells := 0, slots := 0, locals := 21 } : Room) (MW D cI b N) [.ref (b 5), .int (nI r)] (.int (mSh N T r)) := by
  refine Rd.of (by decide) (Nat.le_of_ble_eq_true rfl) ?_
  intro p e s m args below meth c ls hC hr hlocks hB hl
  have hx := hC.1
  have hb := hC.2.1
  obtain ⟨hT, hR, hT8, hR6⟩ := id hI
  have hl : lv_has ls 4 [(0, .ref (b 5)), (1, .int (nI r))] := hl
  refine lv_iconst (v := 0) hx hb dX1_shorts_0 (by decide) ?_
  refine lv_istore_n (lv' := [(2, .int (0)), (0, .ref (b 5)), (1, .int (nI r))]) hx hb dX1_shorts_1 rfl hl (by decide) rfl (fun ls hl => ?_)
  refine lv_iconst (v := 0) hx hb dX1_shorts_2 (by decide) ?_
  refine lv_istore_n (lv' := [(3, .int (0)), (2, .int (0)), (0, .ref (b 5)), (1, .int (nI r))]) hx hb dX1_shorts_3 rfl hl (by decide) rfl (fun ls hl => ?_)
  refine loopU (P := fun i => ∀ ls : Array Slot, lv_has ls 4 [(3, .int (nI i)), (2, .int (mSh N i r)), (0, .ref (b 5)), (1, .int (nI r))] → W p l e ({ frames := 1, cells := 0, slots := 0, locals := 21 } : Room) s m args below meth c s.heap [] 0 0 (MQ below (k2_QcV (.int (mSh N T r))) args s 0 0 (fun _ => False)) (F0 m 4 ls [])) (T) ?_ ?_ 0 (by omega) ls (by first | exact lv_sub hl [0, 1, 2, 3] rfl | (simpa using lv_sub hl [0, 1, 2, 3] rfl))
  · intro ls hl
    refine lv_iload_n hx hb dX1_shorts_4 rfl (lv_at hl 0 rfl) ?_
    refine lv_aload_n hx hb dX1_shorts_5 rfl (lv_at hl 2 rfl) ?_
    refine gM_towers hC hB hT dX1_shorts_6 ?_
    refine jge (i := T) (j := T) (tgt := 39) hC dX1_shorts_9 (by decide) rfl rfl (by omega) (by omega) (fun c1 => ?_) (fun c1 => ?_)
    · refine lv_iload_n hx hb dX1_shorts_39 rfl (lv_at hl 1 rfl) ?_
      exact rd_i hC hr hlocks dX1_shorts_40 (by rfl)
    · exfalso; omega
  · intro i hi ih ls hl
    refine lv_iload_n hx hb dX1_shorts_4 rfl (lv_at hl 0 rfl) ?_
    refine lv_aload_n hx hb dX1_shorts_5 rfl (lv_at hl 2 rfl) ?_
    refine gM_towers hC hB hT dX1_shorts_6 ?_
    refine jge (i := i) (j := T) (tgt := 39) hC dX1_shorts_9 (by decide) rfl rfl (by omega) (by omega) (fun c2 => ?_) (fun c2 => ?_)
    · exfalso; omega
    · refine lv_iload_n hx hb dX1_shorts_12 rfl (lv_at hl 1 rfl) ?_
      refine lv_aload_n hx hb dX1_shorts_13 rfl (lv_at hl 2 rfl) ?_
      refine gM_now hC hB dX1_shorts_14 ?_
      refine lv_iload_n hx hb dX1_shorts_17 rfl (lv_at hl 3 rfl) ?_
      refine lv_iload_n hx hb dX1_shorts_18 rfl (lv_at hl 0 rfl) ?_
      refine k_X1_at hC (c_X1_at l (r := r) (t := i)) mov_T trivial rfl ⟨rfl, rfl⟩ ⟨Nat.le_of_ble_eq_true rfl, Nat.le_of_ble_eq_true rfl⟩ ⟨Nat.zero_le _, Nat.zero_le _⟩ hl.1 rfl (Nat.le_of_ble_eq_true rfl) dX1_shorts_19 ?_
      refine lM_now (23 + 8 * r + i) hC hB rfl (by omega) rfl dX1_shorts_22 ?_
      refine lv_if_ge (tgt := 30) hx hb dX1_shorts_23 (by decide) (fun c3 => ?_) (fun c3 => ?_)
      · refine lv_iconst (v := 0) hx hb dX1_shorts_30 (by decide) ?_
        refine lv_iadd hx hb dX1_shorts_31 ?_
        refine lv_istore_n (lv' := [(2, .int ((mSh N i r) + 0)), (3, .int (nI i)), (0, .ref (b 5)), (1, .int (nI r))]) hx hb dX1_shorts_32 rfl hl (by decide) rfl (fun ls hl => ?_)
        refine lv_iinc (v := nI (i + 1)) (lv' := [(3, .int (nI (i + 1))), (2, .int ((mSh N i r) + 0)), (0, .ref (b 5)), (1, .int (nI r))]) hx hb dX1_shorts_33 hl (k := 1) rfl (ninc i) (by decide) rfl (fun ls hl => ?_)
        refine lv_goto (tgt := 4) hx hb dX1_shorts_36 (by decide) ?_
        have e4 : mSh N (i + 1) r = (mSh N i r) + 0 := by show _ + (if _ then _ else _) = _; rw [if_pos c3] <;> rfl
        exact ih ls (by rw [e4]; exact lv_sub hl [0, 1, 2, 3] rfl)
      · refine lv_iconst (v := 1) hx hb dX1_shorts_26 (by decide) ?_
        refine lv_goto (tgt := 31) hx hb dX1_shorts_27 (by decide) ?_
        refine lv_iadd hx hb dX1_shorts_31 ?_
        refine lv_istore_n (lv' := [(2, .int ((mSh N i r) + 1)), (3, .int (nI i)), (0, .ref (b 5)), (1, .int (nI r))]) hx hb dX1_shorts_32 rfl hl (by decide) rfl (fun ls hl => ?_)
        refine lv_iinc (v := nI (i + 1)) (lv' := [(3, .int (nI (i + 1))), (2, .int ((mSh N i r) + 1)), (0, .ref (b 5)), (1, .int (nI r))]) hx hb dX1_shorts_33 hl (k := 1) rfl (ninc i) (by decide) rfl (fun ls hl => ?_)
        refine lv_goto (tgt := 4) hx hb dX1_shorts_36 (by decide) ?_
        have e5 : mSh N (i + 1) r = (mSh N i r) + 1 := by show _ + (if _ then _ else _) = _; rw [if_neg c3] <;> rfl
        exact ih ls (by rw [e5]; exact lv_sub hl [0, 1, 2, 3] rfl)
set_option maxHeartbeats 4000000 in
set_option maxRecDepth 100000 in
theorem c_X1_owing (l : Launch) (D : va_G) (cI : ClassId) (b : Nat → Nat) (N : bS) {T R : Nat} (hI : MI N T R) : Rd l yX1_owing cX1_owing 3 (some .int) ({ frames := 0, cells := 0, slots := 0, locals := 0 } : Room) (MW D cI b N) [.ref (b 5)] (.int (mOw N R)) := by
  refine Rd.of (by decide) (Nat.le_of_ble_eq_true rfl) ?_
  intro p e s m args below meth c ls hC hr hlocks hB hl
  have hx := hC.1
  have hb := hC.2.1
  obtain ⟨hT, hR, hT8, hR6⟩ := id hI
  have hl : lv_has ls 3 [(0, .ref (b 5))] := hl
  refine lv_iconst (v := 0) hx hb dX1_owing_0 (by decide) ?_
  refine lv_istore_n (lv' := [(1, .int (0)), (0, .ref (b 5))]) hx hb dX1_owing_1 rfl hl (by decide) rfl (fun ls hl => ?_)
  refine lv_iconst (v := 0) hx hb dX1_owing_2 (by decide) ?_
  refine lv_istore_n (lv' := [(2, .int (0)), (1, .int (0)), (0, .ref (b 5))]) hx hb dX1_owing_3 rfl hl (by decide) rfl (fun ls hl => ?_)
  refine loopU (P := fun i => ∀ ls : Array Slot, lv_has ls 3 [(2, .int (nI i)), (1, .int (mOw N i)), (0, .ref (b 5))] → W p l e ({ frames := 0, cells := 0, slots := 0, locals := 0 } : Room) s m args below meth c s.heap [] 0 0 (MQ below (k2_QcV (.int (mOw N R))) args s 0 0 (fun _ => False)) (F0 m 4 ls [])) (R) ?_ ?_ 0 (by omega) ls (by first | exact lv_sub hl [0, 1, 2] rfl | (simpa using lv_sub hl [0, 1, 2] rfl))
  · intro ls hl
    refine lv_iload_n hx hb dX1_owing_4 rfl (lv_at hl 0 rfl) ?_
    refine lv_aload_n hx hb dX1_owing_5 rfl (lv_at hl 2 rfl) ?_
    refine gM_traders hC hB hR dX1_owing_6 ?_
    refine jge (i := R) (j := R) (tgt := 38) hC dX1_owing_9 (by decide) rfl rfl (by omega) (by omega) (fun c1 => ?_) (fun c1 => ?_)
    · refine lv_iload_n hx hb dX1_owing_38 rfl (lv_at hl 1 rfl) ?_
      exact rd_i hC hr hlocks dX1_owing_39 (by rfl)
    · exfalso; omega
  · intro i hi ih ls hl
    refine lv_iload_n hx hb dX1_owing_4 rfl (lv_at hl 0 rfl) ?_
    refine lv_aload_n hx hb dX1_owing_5 rfl (lv_at hl 2 rfl) ?_
    refine gM_traders hC hB hR dX1_owing_6 ?_
    refine jge (i := i) (j := R) (tgt := 38) hC dX1_owing_9 (by decide) rfl rfl (by omega) (by omega) (fun c2 => ?_) (fun c2 => ?_)
    · exfalso; omega
    · refine lv_iload_n hx hb dX1_owing_12 rfl (lv_at hl 1 rfl) ?_
      refine lv_aload_n hx hb dX1_owing_13 rfl (lv_at hl 2 rfl) ?_
      refine gM_now hC hB dX1_owing_14 ?_
      refine lv_bipush (v := 17) hx hb dX1_owing_17 (by decide) ?_
      refine lv_iload_n hx hb dX1_owing_19 rfl (lv_at hl 0 rfl) ?_
      refine xadd (v := nI (17 + i)) hC dX1_owing_20 (nadd (i := 17) (j := i) rfl rfl) ?_
      refine lM_now (17 + i) hC hB rfl (by omega) rfl dX1_owing_21 ?_
      refine lv_if_ge (tgt := 29) hx hb dX1_owing_22 (by decide) (fun c3 => ?_) (fun c3 => ?_)
      · refine lv_iconst (v := 0) hx hb dX1_owing_29 (by decide) ?_
        refine lv_iadd hx hb dX1_owing_30 ?_
        refine lv_istore_n (lv' := [(1, .int ((mOw N i) + 0)), (2, .int (nI i)), (0, .ref (b 5))]) hx hb dX1_owing_31 rfl hl (by decide) rfl (fun ls hl => ?_)
        refine lv_iinc (v := nI (i + 1)) (lv' := [(2, .int (nI (i + 1))), (1, .int ((mOw N i) + 0)), (0, .ref (b 5))]) hx hb dX1_owing_32 hl (k := 1) rfl (ninc i) (by decide) rfl (fun ls hl => ?_)
        refine lv_goto (tgt := 4) hx hb dX1_owing_35 (by decide) ?_
        have e4 : mOw N (i + 1) = (mOw N i) + 0 := by show _ + (if _ then _ else _) = _; rw [if_pos c3] <;> rfl
        exact ih ls (by rw [e4]; exact lv_sub hl [0, 1, 2] rfl)
      · refine lv_iconst (v := 1) hx hb dX1_owing_25 (by decide) ?_
        refine lv_goto (tgt := 30) hx hb dX1_owing_26 (by decide) ?_
        refine lv_iadd hx hb dX1_owing_30 ?_
        refine lv_istore_n (lv' := [(1, .int ((mOw N i) + 1)), (2, .int (nI i)), (0, .ref (b 5))]) hx hb dX1_owing_31 rfl hl (by decide) rfl (fun ls hl => ?_)
        refine lv_iinc (v := nI (i + 1)) (lv' := [(2, .int (nI (i + 1))), (1, .int ((mOw N i) + 1)), (0, .ref (b 5))]) hx hb dX1_owing_32 hl (k := 1) rfl (ninc i) (by decide) rfl (fun ls hl => ?_)
        refine lv_goto (tgt := 4) hx hb dX1_owing_35 (by decide) ?_
        have e5 : mOw N (i + 1) = (mOw N i) + 1 := by show _ + (if _ then _ else _) = _; rw [if_neg c3] <;> rfl
        exact ih ls (by rw [e5]; exact lv_sub hl [0, 1, 2] rfl)
set_option maxHeartbeats 4000000 in
set_option maxRecDepth 100000 in
theorem c_X1_closing (l : Launch) (D : va_G) (cI : ClassId) (b : Nat → Nat) (N : bS) {T R : Nat} {u : Nat → Nat} {t : Nat} (hI : MI N T R) (ht : t < T) (hU : ∀ t, t < T → mU N t (u t)) (hP : mP N T) : Rd l yX1_closing cX1_closing 2 (some .int) ({ frames := 3, cells := 0, slots := 0, locals := 69 } : Room) (MW D cI b N) [.ref (b 5), .int (nI t)] (.int (mCl N R u t)) := by
  refine Rd.of (by decide) (Nat.le_of_ble_eq_true rfl) ?_
  intro p e s m args below meth c ls hC hr hlocks hB hl
  have hx := hC.1
  have hb := hC.2.1
  obtain ⟨hT, hR, hT8, hR6⟩ := id hI
  have hl : lv_has ls 2 [(0, .ref (b 5)), (1, .int (nI t))] := hl
  refine lv_aload_n hx hb dX1_closing_0 rfl (lv_at hl 0 rfl) ?_
  refine lv_iload_n hx hb dX1_closing_1 rfl (lv_at hl 1 rfl) ?_
  refine lv_aload_n hx hb dX1_closing_2 rfl (lv_at hl 0 rfl) ?_
  refine lv_iload_n hx hb dX1_closing_3 rfl (lv_at hl 1 rfl) ?_
  refine k_X1_until hC (c_X1_until l D cI b N (t := t) (hI) (by omega) ((hU) _ (by omega)) (hP)) hB rfl ⟨rfl, rfl⟩ ⟨Nat.le_of_ble_eq_true rfl, Nat.le_of_ble_eq_true rfl⟩ ⟨Nat.zero_le _, Nat.zero_le _⟩ hl.1 rfl (Nat.le_of_ble_eq_true rfl) dX1_closing_4 ?_
  refine lv_iconst (v := 1) hx hb dX1_closing_7 (by decide) ?_
  refine lv_isub hx hb dX1_closing_8 ?_
  refine k_X1_priceBehind hC (c_X1_priceBehind l D cI b N (t := t) ((nI (u t)) - 1) (hI) (by omega)) hB rfl ⟨rfl, rfl⟩ ⟨Nat.le_of_ble_eq_true rfl, Nat.le_of_ble_eq_true rfl⟩ ⟨Nat.zero_le _, Nat.zero_le _⟩ hl.1 rfl (Nat.le_of_ble_eq_true rfl) dX1_closing_9 ?_
  exact rd_i hC hr hlocks dX1_closing_12 (by rfl)
set_option maxHeartbeats 4000000 in
set_option maxRecDepth 100000 in
theorem c_X1_toBuy (l : Launch) (D : va_G) (cI : ClassId) (b : Nat → Nat) (N : bS) {T R : Nat} {u : Nat → Nat} (hI : MI N T R) (hU : ∀ t, t < T → mU N t (u t)) (hP : mP N T) : Rd l yX1_toBuy cX1_toBuy 5 (some .int) ({ frames := 4, cells := 0, slots := 0, locals := 90 } : Room) (MW D cI b N) [.ref (b 5)] (.int (oI (mBu N T R u).1)) := by
  refine Rd.of (by decide) (Nat.le_of_ble_eq_true rfl) ?_
  intro p e s m args below meth c ls hC hr hlocks hB hl
  have hx := hC.1
  have hb := hC.2.1
  obtain ⟨hT, hR, hT8, hR6⟩ := id hI
  have hl : lv_has ls 5 [(0, .ref (b 5))] := hl
  refine lv_iconst (v := -1) hx hb dX1_toBuy_0 (by decide) ?_
  refine lv_istore_n (lv' := [(1, .int (-1)), (0, .ref (b 5))]) hx hb dX1_toBuy_1 rfl hl (by decide) rfl (fun ls hl => ?_)
  refine lv_iconst (v := 0) hx hb dX1_toBuy_2 (by decide) ?_
  refine lv_istore_n (lv' := [(2, .int (0)), (1, .int (-1)), (0, .ref (b 5))]) hx hb dX1_toBuy_3 rfl hl (by decide) rfl (fun ls hl => ?_)
  refine lv_iconst (v := 0) hx hb dX1_toBuy_4 (by decide) ?_
  refine lv_istore_n (lv' := [(3, .int (0)), (2, .int (0)), (1, .int (-1)), (0, .ref (b 5))]) hx hb dX1_toBuy_5 rfl hl (by decide) rfl (fun ls hl => ?_)
  refine loopU (P := fun i => ∀ ls : Array Slot, lv_has ls 5 [(3, .int (nI i)), (2, .int ((mTb (fun t => mCl N R u t - mPr N R t) i).2)), (1, .int (oI (mTb (fun t => mCl N R u t - mPr N R t) i).1)), (0, .ref (b 5))] → W p l e ({ frames := 4, cells := 0, slots := 0, locals := 90 } : Room) s m args below meth c s.heap [] 0 0 (MQ below (k2_QcV (.int (oI (mBu N T R u).1))) args s 0 0 (fun _ => False)) (F0 m 6 ls [])) (T) ?_ ?_ 0 (by omega) ls (by first | exact lv_sub hl [0, 1, 2, 3] rfl | (simpa using lv_sub hl [0, 1, 2, 3] rfl))
  · intro ls hl
    refine lv_iload_n hx hb dX1_toBuy_6 rfl (lv_at hl 0 rfl) ?_
    refine lv_aload_n hx hb dX1_toBuy_7 rfl (lv_at hl 3 rfl) ?_
    refine gM_towers hC hB hT dX1_toBuy_8 ?_
    refine jge (i := T) (j := T) (tgt := 47) hC dX1_toBuy_11 (by decide) rfl rfl (by omega) (by omega) (fun c1 => ?_) (fun c1 => ?_)
    · refine lv_iload_n hx hb dX1_toBuy_47 rfl (lv_at hl 2 rfl) ?_
      exact rd_i hC hr hlocks dX1_toBuy_48 (by rfl)
    · exfalso; omega
  · intro i hi ih ls hl
    refine lv_iload_n hx hb dX1_toBuy_6 rfl (lv_at hl 0 rfl) ?_
    refine lv_aload_n hx hb dX1_toBuy_7 rfl (lv_at hl 3 rfl) ?_
    refine gM_towers hC hB hT dX1_toBuy_8 ?_
    refine jge (i := i) (j := T) (tgt := 47) hC dX1_toBuy_11 (by decide) rfl rfl (by omega) (by omega) (fun c2 => ?_) (fun c2 => ?_)
    · exfalso; omega
    · refine lv_aload_n hx hb dX1_toBuy_14 rfl (lv_at hl 3 rfl) ?_
      refine lv_iload_n hx hb dX1_toBuy_15 rfl (lv_at hl 0 rfl) ?_
      refine k_X1_closing hC (c_X1_closing l D cI b N (u := u) (t := i) (hI) (by omega) (hU) (hP)) hB rfl ⟨rfl, rfl⟩ ⟨Nat.le_of_ble_eq_true rfl, Nat.le_of_ble_eq_true rfl⟩ ⟨Nat.zero_le _, Nat.zero_le _⟩ hl.1 rfl (Nat.le_of_ble_eq_true rfl) dX1_toBuy_16 ?_
      refine lv_aload_n hx hb dX1_toBuy_19 rfl (lv_at hl 3 rfl) ?_
      refine lv_iload_n hx hb dX1_toBuy_20 rfl (lv_at hl 0 rfl) ?_
      refine k_X1_price hC (c_X1_price l D cI b N (t := i) (hI) (by omega)) hB rfl ⟨rfl, rfl⟩ ⟨Nat.le_of_ble_eq_true rfl, Nat.le_of_ble_eq_true rfl⟩ ⟨Nat.zero_le _, Nat.zero_le _⟩ hl.1 rfl (Nat.le_of_ble_eq_true rfl) dX1_toBuy_21 ?_
      refine lv_isub hx hb dX1_toBuy_24 ?_
      refine lv_istore (lv' := [(4, .int ((mCl N R u i) - (mPr N R i))), (3, .int (nI i)), (2, .int ((mTb (fun t => mCl N R u t - mPr N R t) i).2)), (1, .int (oI (mTb (fun t => mCl N R u t - mPr N R t) i).1)), (0, .ref (b 5))]) hx hb dX1_toBuy_25 hl (by decide) rfl (fun ls hl => ?_)
      refine lv_iload hx hb dX1_toBuy_27 (lv_at hl 0 rfl) ?_
      refine lv_iload_n hx hb dX1_toBuy_29 rfl (lv_at hl 2 rfl) ?_
      refine lv_icmp_gt (tgt := 36) hx hb dX1_toBuy_30 (by decide) (fun c3 => ?_) (fun c3 => ?_)
      · refine lv_iload_n hx hb dX1_toBuy_36 rfl (lv_at hl 1 rfl) ?_
        refine lv_istore_n (lv' := [(1, .int (nI i)), (4, .int ((mCl N R u i) - (mPr N R i))), (3, .int (nI i)), (2, .int ((mTb (fun t => mCl N R u t - mPr N R t) i).2)), (0, .ref (b 5))]) hx hb dX1_toBuy_37 rfl hl (by decide) rfl (fun ls hl => ?_)
        refine lv_iload hx hb dX1_toBuy_38 (lv_at hl 1 rfl) ?_
        refine lv_istore_n (lv' := [(2, .int ((mCl N R u i) - (mPr N R i))), (1, .int (nI i)), (4, .int ((mCl N R u i) - (mPr N R i))), (3, .int (nI i)), (0, .ref (b 5))]) hx hb dX1_toBuy_40 rfl hl (by decide) rfl (fun ls hl => ?_)
        refine lv_iinc (v := nI (i + 1)) (lv' := [(3, .int (nI (i + 1))), (2, .int ((mCl N R u i) - (mPr N R i))), (1, .int (nI i)), (4, .int ((mCl N R u i) - (mPr N R i))), (0, .ref (b 5))]) hx hb dX1_toBuy_41 hl (k := 3) rfl (ninc i) (by decide) rfl (fun ls hl => ?_)
        refine lv_goto (tgt := 6) hx hb dX1_toBuy_44 (by decide) ?_
        have e4 : (mTb (fun t => mCl N R u t - mPr N R t) (i + 1)).2 = (mCl N R u i) - (mPr N R i) := by rw [mTb_new c3] <;> rfl
        have e5 : oI (mTb (fun t => mCl N R u t - mPr N R t) (i + 1)).1 = nI i := by rw [mTb_new c3] <;> rfl
        exact ih ls (by rw [e4, e5]; exact lv_sub hl [0, 1, 2, 4] rfl)
      · refine lv_goto (tgt := 41) hx hb dX1_toBuy_33 (by decide) ?_
        refine lv_iinc (v := nI (i + 1)) (lv' := [(3, .int (nI (i + 1))), (4, .int ((mCl N R u i) - (mPr N R i))), (2, .int ((mTb (fun t => mCl N R u t - mPr N R t) i).2)), (1, .int (oI (mTb (fun t => mCl N R u t - mPr N R t) i).1)), (0, .ref (b 5))]) hx hb dX1_toBuy_41 hl (k := 1) rfl (ninc i) (by decide) rfl (fun ls hl => ?_)
        refine lv_goto (tgt := 6) hx hb dX1_toBuy_44 (by decide) ?_
        have e6 : (mTb (fun t => mCl N R u t - mPr N R t) (i + 1)).2 = (mTb (fun t => mCl N R u t - mPr N R t) i).2 := by rw [mTb_keep c3] <;> rfl
        have e7 : oI (mTb (fun t => mCl N R u t - mPr N R t) (i + 1)).1 = oI (mTb (fun t => mCl N R u t - mPr N R t) i).1 := by rw [mTb_keep c3] <;> rfl
        exact ih ls (by rw [e6, e7]; exact lv_sub hl [0, 2, 3, 4] rfl)
set_option maxHeartbeats 4000000 in
set_option maxRecDepth 100000 in
theorem c_X1_thrown (l : Launch) (D : va_G) (cI : ClassId) (b : Nat → Nat) (N : bS) {T R : Nat} (hI : MI N T R) : Rd l yX1_thrown cX1_thrown 1 (some .int) ({ frames := 0, cells := 0, slots := 0, locals := 0 } : Room) (MW D cI b N) [.ref (b 5)] (.int (N 5 0)) := by
  refine Rd.of (by decide) (Nat.le_of_ble_eq_true rfl) ?_
  intro p e s m args below meth c ls hC hr hlocks hB hl
  have hx := hC.1
  have hb := hC.2.1
  obtain ⟨hT, hR, hT8, hR6⟩ := id hI
  have hl : lv_has ls 1 [(0, .ref (b 5))] := hl
  refine lv_aload_n hx hb dX1_thrown_0 rfl (lv_at hl 0 rfl) ?_
  refine gM_thrown hC hB rfl dX1_thrown_1 ?_
  exact rd_i hC hr hlocks dX1_thrown_4 (by rfl)
end
section
section MK
variable {p : Program} {l : Launch} {e : Env} {R : Room} {s : State} {m : MethodId} {args : Array Value} {below : List Frame} {meth : Method} {c : Code} {H : Heap} {locs : List Loc} {cells slots : Nat} {Q : State → Prop}
variable {cc : ByteArray} {pc nL : Nat} {ls : Array Slot} {rest : List Value} {D : va_G} {cI : ClassId} {b : Nat → Nat} {N : bS} {A0 : Nat → Prop} {H0 : Heap}
theorem cpM_kp (hC : CallFix p m c cc nL s args wsL_law RX1) (hB : MW D cI b N s H) (hS : va_S A0 H0 H locs) (hA : ∀ q, inM b q → A0 q) (hls : ls.size = nL) (hR : 1 ≤ R.frames ∧ (rest.map fun v => v.category).sum + (nativeFrameWords "java/lang/System" "arraycopy" 5 + 11) ≤ R.locals) (hdg : decode cc pc = .ok (.invokestatic 39, 3)) (kk : ∀ (H1 : Heap) (locs1 : List Loc), MW D cI b (kp N) s H1 → va_S A0 H0 H1 locs1 → W p l e R s m args below meth c H1 locs1 cells slots Q (F0 m (pc + 3) ls rest)) : W p l e R s m args below meth c H locs cells slots Q (F0 m pc ls (.int 71 :: .int 0 :: .ref (b 4) :: .int 0 :: .ref (b 3) :: rest)) := by
  have e0 : (0 : Int32).toNatClampNeg = 0 := by decide
  have e1 : (71 : Int32).toNatClampNeg = 71 := by decide
  refine va_copyi hC.1 hC.2.1 (hC.2.2.1.trans hls.symm) hC.2.2.2.1 (hC.2.2.2.2 _ (List.mem_of_getElem? (i := 453) (by decide +kernel))) (hC.2.2.2.2 _ (List.mem_of_getElem? (i := 454) (by decide +kernel))) (hC.2.2.2.2 _ (List.mem_of_getElem? (i := 455) (by decide +kernel))) (hC.2.2.2.2 _ (List.mem_of_getElem? (i := 456) (by decide +kernel))) hB.1 hB.2.1 (hB.D.weaken (fun _ _ _ h => hA _ h)) hS 4 5 0 0 (f := N 3) (g := N 4) rfl rfl rfl rfl rfl (by decide) (by decide) (by decide) (by rw [e0, e1]; decide) (by rw [e0, e1]; decide) (fun _ _ => rfl) hR.1 hR.2 hdg (fun H1 locs1 h1 _ h3 => ?_)
  rw [e0, e1] at h1
  exact kk H1 locs1 ⟨hB.1, h1, hB.2.2⟩ h3
theorem cpM_bk (hC : CallFix p m c cc nL s args wsL_law RX1) (hB : MW D cI b N s H) (hS : va_S A0 H0 H locs) (hA : ∀ q, inM b q → A0 q) (hls : ls.size = nL) (hR : 1 ≤ R.frames ∧ (rest.map fun v => v.category).sum + (nativeFrameWords "java/lang/System" "arraycopy" 5 + 11) ≤ R.locals) (hdg : decode cc pc = .ok (.invokestatic 39, 3)) (kk : ∀ (H1 : Heap) (locs1 : List Loc), MW D cI b (bk N) s H1 → va_S A0 H0 H1 locs1 → W p l e R s m args below meth c H1 locs1 cells slots Q (F0 m (pc + 3) ls rest)) : W p l e R s m args below meth c H locs cells slots Q (F0 m pc ls (.int 71 :: .int 0 :: .ref (b 3) :: .int 0 :: .ref (b 4) :: rest)) := by
  have e0 : (0 : Int32).toNatClampNeg = 0 := by decide
  have e1 : (71 : Int32).toNatClampNeg = 71 := by decide
  refine va_copyi hC.1 hC.2.1 (hC.2.2.1.trans hls.symm) hC.2.2.2.1 (hC.2.2.2.2 _ (List.mem_of_getElem? (i := 453) (by decide +kernel))) (hC.2.2.2.2 _ (List.mem_of_getElem? (i := 454) (by decide +kernel))) (hC.2.2.2.2 _ (List.mem_of_getElem? (i := 455) (by decide +kernel))) (hC.2.2.2.2 _ (List.mem_of_getElem? (i := 456) (by decide +kernel))) hB.1 hB.2.1 (hB.D.weaken (fun _ _ _ h => hA _ h)) hS 5 4 0 0 (f := N 4) (g := N 3) rfl rfl rfl rfl rfl (by decide) (by decide) (by decide) (by rw [e0, e1]; decide) (by rw [e0, e1]; decide) (fun _ _ => rfl) hR.1 hR.2 hdg (fun H1 locs1 h1 _ h3 => ?_)
  rw [e0, e1] at h1
  exact kk H1 locs1 ⟨hB.1, h1, hB.2.2⟩ h3
end MK
set_option maxHeartbeats 4000000 in
set_option maxRecDepth 100000 in
theorem c_X1_keep (l : Launch) (D : va_G) (cI : ClassId) (b : Nat → Nat) (N : bS)   : Wr l yX1_keep cX1_keep 1 none ({ frames := 1, cells := 0, slots := 0, locals := 40 } : Room) (MW D cI b N) (MW D cI b (kp N)) (inM b) [.ref (b 5)] none 0 0 := by
  refine Wr.of (by decide) (Nat.le_of_ble_eq_true rfl) ?_
  intro p e s m args below meth c ls hC hr hlocks hB hS hl
  have hx := hC.1
  have hb := hC.2.1
  have hA : ∀ q, (inM b) q → (inM b) q := fun _ h => h
  have hl : lv_has ls 1 [(0, .ref (b 5))] := hl
  refine lv_aload_n hx hb dX1_keep_0 rfl (lv_at hl 0 rfl) ?_
  refine gM_now hC hB dX1_keep_1 ?_
  refine lv_iconst (v := 0) hx hb dX1_keep_4 (by decide) ?_
  refine lv_aload_n hx hb dX1_keep_5 rfl (lv_at hl 0 rfl) ?_
  refine gM_kept hC hB dX1_keep_6 ?_
  refine lv_iconst (v := 0) hx hb dX1_keep_9 (by decide) ?_
  refine lv_bipush (v := 71) hx hb dX1_keep_10 (by decide) ?_
  refine cpM_kp hC hB hS hA hl.1 ⟨Nat.le_of_ble_eq_true rfl, Nat.le_of_ble_eq_true rfl⟩ dX1_keep_12 (fun H locs hB hS => ?_)
  exact wr_v hC hr hlocks mov_M (hB) hS dX1_keep_15
set_option maxHeartbeats 4000000 in
set_option maxRecDepth 100000 in
theorem c_X1_bringBack (l : Launch) (D : va_G) (cI : ClassId) (b : Nat → Nat) (N : bS)   : Wr l yX1_bringBack cX1_bringBack 1 none ({ frames := 1, cells := 0, slots := 0, locals := 40 } : Room) (MW D cI b N) (MW D cI b (bk N)) (inM b) [.ref (b 5)] none 0 0 := by
  refine Wr.of (by decide) (Nat.le_of_ble_eq_true rfl) ?_
  intro p e s m args below meth c ls hC hr hlocks hB hS hl
  have hx := hC.1
  have hb := hC.2.1
  have hA : ∀ q, (inM b) q → (inM b) q := fun _ h => h
  have hl : lv_has ls 1 [(0, .ref (b 5))] := hl
  refine lv_aload_n hx hb dX1_bringBack_0 rfl (lv_at hl 0 rfl) ?_
  refine gM_kept hC hB dX1_bringBack_1 ?_
  refine lv_iconst (v := 0) hx hb dX1_bringBack_4 (by decide) ?_
  refine lv_aload_n hx hb dX1_bringBack_5 rfl (lv_at hl 0 rfl) ?_
  refine gM_now hC hB dX1_bringBack_6 ?_
  refine lv_iconst (v := 0) hx hb dX1_bringBack_9 (by decide) ?_
  refine lv_bipush (v := 71) hx hb dX1_bringBack_10 (by decide) ?_
  refine cpM_bk hC hB hS hA hl.1 ⟨Nat.le_of_ble_eq_true rfl, Nat.le_of_ble_eq_true rfl⟩ dX1_bringBack_12 (fun H locs hB hS => ?_)
  exact wr_v hC hr hlocks mov_M (hB) hS dX1_bringBack_15
set_option maxHeartbeats 4000000 in
set_option maxRecDepth 100000 in
theorem c_X1_fail (l : Launch) (D : va_G) (cI : ClassId) (b : Nat → Nat) (N : bS) (x : Int32)  : Wr l yX1_fail cX1_fail 2 (some .int) ({ frames := 0, cells := 0, slots := 0, locals := 0 } : Room) (MW D cI b N) (MW D cI b (up2 N 5 0 x)) (inM b) [.ref (b 5), .int (x)] (some (.int (0))) 0 0 := by
  refine Wr.of (by decide) (Nat.le_of_ble_eq_true rfl) ?_
  intro p e s m args below meth c ls hC hr hlocks hB hS hl
  have hx := hC.1
  have hb := hC.2.1
  have hA : ∀ q, (inM b) q → (inM b) q := fun _ h => h
  have hl : lv_has ls 2 [(0, .ref (b 5)), (1, .int (x))] := hl
  refine lv_aload_n hx hb dX1_fail_0 rfl (lv_at hl 0 rfl) ?_
  refine lv_iload_n hx hb dX1_fail_1 rfl (lv_at hl 1 rfl) ?_
  refine pM_thrown hC hB hS hA dX1_fail_2 (fun H locs hB hS => ?_)
  refine lv_iconst (v := 0) hx hb dX1_fail_5 (by decide) ?_
  exact wr_i hC hr hlocks mov_M (hB) hS dX1_fail_6 (by rfl)
set_option maxHeartbeats 4000000 in
set_option maxRecDepth 100000 in
theorem c_X1_told (l : Launch) (D : va_G) (cI : ClassId) (b : Nat → Nat) (N : bS) (x : Int32)  : Wr l yX1_told cX1_told 2 (some .int) ({ frames := 0, cells := 0, slots := 0, locals := 0 } : Room) (MW D cI b N) (MW D cI b (up2 N 5 0 0)) (inM b) [.ref (b 5), .int (x)] (some (.int (x))) 0 0 := by
  refine Wr.of (by decide) (Nat.le_of_ble_eq_true rfl) ?_
  intro p e s m args below meth c ls hC hr hlocks hB hS hl
  have hx := hC.1
  have hb := hC.2.1
  have hA : ∀ q, (inM b) q → (inM b) q := fun _ h => h
  have hl : lv_has ls 2 [(0, .ref (b 5)), (1, .int (x))] := hl
  refine lv_aload_n hx hb dX1_told_0 rfl (lv_at hl 0 rfl) ?_
  refine lv_iconst (v := 0) hx hb dX1_told_1 (by decide) ?_
  refine pM_thrown hC hB hS hA dX1_told_2 (fun H locs hB hS => ?_)
  refine lv_iload_n hx hb dX1_told_5 rfl (lv_at hl 1 rfl) ?_
  exact wr_i hC hr hlocks mov_M (hB) hS dX1_told_6 (by rfl)
set_option maxHeartbeats 4000000 in
set_option maxRecDepth 100000 in
theorem c_X1_secondOn (l : Launch) (D : va_G) (cI : ClassId) (b : Nat → Nat) (N : bS) {T R : Nat} (hI : MI N T R) (hP : mP N T) : Wr l yX1_secondOn cX1_secondOn 5 (some .int) ({ frames := 4, cells := 0, slots := 0, locals := 90 } : Room) (MW D cI b N) (MW D cI b (mGo N R T)) (inM b) [.ref (b 5)] (some (.int (mGc N R T))) 0 0 := by
  refine Wr.of (by decide) (Nat.le_of_ble_eq_true rfl) ?_
  intro p e s m args below meth c ls hC hr hlocks hB hS hl
  have hx := hC.1
  have hb := hC.2.1
  have hA : ∀ q, (inM b) q → (inM b) q := fun _ h => h
  obtain ⟨hT, hR, hT8, hR6⟩ := id hI
  have hl : lv_has ls 5 [(0, .ref (b 5))] := hl
  refine lv_iconst (v := 0) hx hb dX1_secondOn_0 (by decide) ?_
  refine lv_istore_n (lv' := [(1, .int (0)), (0, .ref (b 5))]) hx hb dX1_secondOn_1 rfl hl (by decide) rfl (fun ls hl => ?_)
  refine lv_aload_n hx hb dX1_secondOn_2 rfl (lv_at hl 1 rfl) ?_
  refine gM_now hC hB dX1_secondOn_3 ?_
  refine lv_iconst (v := 0) hx hb dX1_secondOn_6 (by decide) ?_
  refine lv_dup2_11 hx hb dX1_secondOn_7 rfl rfl ?_
  refine lM_now (0) hC hB rfl (by omega) rfl dX1_secondOn_8 ?_
  refine lv_iconst (v := 1) hx hb dX1_secondOn_9 (by decide) ?_
  refine lv_iadd hx hb dX1_secondOn_10 ?_
  refine sM_now (0) hC hB rfl (by omega) hS hA dX1_secondOn_11 (fun H locs hB hS => ?_)
  refine lv_iconst (v := 0) hx hb dX1_secondOn_12 (by decide) ?_
  refine lv_istore_n (lv' := [(2, .int (0)), (1, .int (0)), (0, .ref (b 5))]) hx hb dX1_secondOn_13 rfl hl (by decide) rfl (fun ls hl => ?_)
  refine loopU (P := fun i => ∀ (H : Heap) (locs : List Loc), MW D cI b ((mGo N R i)) s H → va_S (inM b) s.heap H locs → ∀ ls : Array Slot, lv_has ls 5 [(2, .int (nI i)), (1, .int (mGc N R i)), (0, .ref (b 5))] → W p l e ({ frames := 4, cells := 0, slots := 0, locals := 90 } : Room) s m args below meth c H locs 0 0 (MQ below (qW (some (.int (mGc N R T))) (MW D cI b (mGo N R T)) (inM b)) args s 0 0 (inM b)) (F0 m 14 ls [])) (T) ?_ ?_ 0 (by omega) H locs hB hS ls (by first | exact lv_sub hl [0, 1, 2] rfl | (simpa using lv_sub hl [0, 1, 2] rfl))
  · intro H locs hB hS ls hl
    refine lv_iload_n hx hb dX1_secondOn_14 rfl (lv_at hl 0 rfl) ?_
    refine lv_aload_n hx hb dX1_secondOn_15 rfl (lv_at hl 2 rfl) ?_
    refine gM_towers hC hB ((MI_go hI).1) dX1_secondOn_16 ?_
    refine jge (i := T) (j := T) (tgt := 152) hC dX1_secondOn_19 (by decide) rfl rfl (by omega) (by omega) (fun c2 => ?_) (fun c2 => ?_)
    · refine lv_iload_n hx hb dX1_secondOn_152 rfl (lv_at hl 1 rfl) ?_
      exact wr_i hC hr hlocks mov_M (hB) hS dX1_secondOn_153 (by rfl)
    · exfalso; omega
  · intro i hi ih H locs hB hS ls hl
    refine lv_iload_n hx hb dX1_secondOn_14 rfl (lv_at hl 0 rfl) ?_
    refine lv_aload_n hx hb dX1_secondOn_15 rfl (lv_at hl 2 rfl) ?_
    refine gM_towers hC hB ((MI_go hI).1) dX1_secondOn_16 ?_
    refine jge (i := i) (j := T) (tgt := 152) hC dX1_secondOn_19 (by decide) rfl rfl (by omega) (by omega) (fun c3 => ?_) (fun c3 => ?_)
    · exfalso; omega
    · refine lv_aload_n hx hb dX1_secondOn_22 rfl (lv_at hl 2 rfl) ?_
      refine gM_now hC hB dX1_secondOn_23 ?_
      refine lv_iconst (v := 0) hx hb dX1_secondOn_26 (by decide) ?_
      refine lM_now (0) hC hB rfl (by omega) rfl dX1_secondOn_27 ?_
      refine lv_aload_n hx hb dX1_secondOn_28 rfl (lv_at hl 2 rfl) ?_
      refine gM_period hC hB dX1_secondOn_29 ?_
      refine lv_iload_n hx hb dX1_secondOn_32 rfl (lv_at hl 0 rfl) ?_
      refine lM_period (i) hC hB rfl (by omega) rfl dX1_secondOn_33 ?_
      refine lv_irem hx hb dX1_secondOn_34 (mP_go hP i (by omega)) ?_
      refine lv_aload_n hx hb dX1_secondOn_35 rfl (lv_at hl 2 rfl) ?_
      refine gM_beat hC hB dX1_secondOn_36 ?_
      refine lv_iload_n hx hb dX1_secondOn_39 rfl (lv_at hl 0 rfl) ?_
      refine lM_beat (i) hC hB rfl (by omega) rfl dX1_secondOn_40 ?_
      refine lv_icmp_eq (tgt := 59) hx hb dX1_secondOn_41 (by decide) (fun c4 => ?_) (fun c4 => ?_)
      · refine lv_aload_n hx hb dX1_secondOn_59 rfl (lv_at hl 2 rfl) ?_
        refine lv_iload_n hx hb dX1_secondOn_60 rfl (lv_at hl 0 rfl) ?_
        refine k_X1_price hC (c_X1_price l D cI b (mGo N R i) (t := i) (MI_go hI) (by omega)) hB rfl ⟨rfl, rfl⟩ ⟨Nat.le_of_ble_eq_true rfl, Nat.le_of_ble_eq_true rfl⟩ ⟨Nat.zero_le _, Nat.zero_le _⟩ hl.1 rfl (Nat.le_of_ble_eq_true rfl) dX1_secondOn_61 ?_
        refine lv_istore_n (lv' := [(3, .int (mPr (mGo N R i) R i)), (2, .int (nI i)), (1, .int (mGc N R i)), (0, .ref (b 5))]) hx hb dX1_secondOn_64 rfl hl (by decide) rfl (fun ls hl => ?_)
        refine lv_iconst (v := 0) hx hb dX1_secondOn_65 (by decide) ?_
        refine lv_istore (lv' := [(4, .int (0)), (3, .int (mPr (mGo N R i) R i)), (2, .int (nI i)), (1, .int (mGc N R i)), (0, .ref (b 5))]) hx hb dX1_secondOn_66 hl (by decide) rfl (fun ls hl => ?_)
        refine loopU (P := fun j => ∀ (H : Heap) (locs : List Loc), MW D cI b ((mS1 (mGo N R i) (mPr (mGo N R i) R i) i j)) s H → va_S (inM b) s.heap H locs → ∀ ls : Array Slot, lv_has ls 5 [(4, .int (nI j)), (3, .int (mPr (mGo N R i) R i)), (2, .int (nI i)), (1, .int (mGc N R i)), (0, .ref (b 5))] → W p l e ({ frames := 4, cells := 0, slots := 0, locals := 90 } : Room) s m args below meth c H locs 0 0 (MQ below (qW (some (.int (mGc N R T))) (MW D cI b (mGo N R T)) (inM b)) args s 0 0 (inM b)) (F0 m 68 ls [])) (R) ?_ ?_ 0 (by omega) H locs hB hS ls (by first | exact lv_sub hl [0, 1, 2, 3, 4] rfl | (simpa using lv_sub hl [0, 1, 2, 3, 4] rfl))
        · intro H locs hB hS ls hl
          refine lv_iload hx hb dX1_secondOn_68 (lv_at hl 0 rfl) ?_
          refine lv_aload_n hx hb dX1_secondOn_70 rfl (lv_at hl 4 rfl) ?_
          refine gM_traders hC hB ((MI_s1 (MI_go hI)).2.1) dX1_secondOn_71 ?_
          refine jge (i := R) (j := R) (tgt := 121) hC dX1_secondOn_74 (by decide) rfl rfl (by omega) (by omega) (fun c5 => ?_) (fun c5 => ?_)
          · refine lv_aload_n hx hb dX1_secondOn_121 rfl (lv_at hl 4 rfl) ?_
            refine gM_now hC hB dX1_secondOn_122 ?_
            refine lv_iconst (v := 1) hx hb dX1_secondOn_125 (by decide) ?_
            refine lv_iload_n hx hb dX1_secondOn_126 rfl (lv_at hl 2 rfl) ?_
            refine xadd (v := nI (1 + i)) hC dX1_secondOn_127 (nadd (i := 1) (j := i) rfl rfl) ?_
            refine lv_iconst (v := 0) hx hb dX1_secondOn_128 (by decide) ?_
            refine sM_now (1 + i) hC hB rfl (by omega) hS hA dX1_secondOn_129 (fun H locs hB hS => ?_)
            refine lv_aload_n hx hb dX1_secondOn_130 rfl (lv_at hl 4 rfl) ?_
            refine gM_now hC hB dX1_secondOn_131 ?_
            refine lv_bipush (v := 9) hx hb dX1_secondOn_134 (by decide) ?_
            refine lv_iload_n hx hb dX1_secondOn_136 rfl (lv_at hl 2 rfl) ?_
            refine xadd (v := nI (9 + i)) hC dX1_secondOn_137 (nadd (i := 9) (j := i) rfl rfl) ?_
            refine lv_dup2_11 hx hb dX1_secondOn_138 rfl rfl ?_
            refine lM_now (9 + i) hC hB rfl (by omega) (by rw [up2_ne _ _ (by omega)]) dX1_secondOn_139 ?_
            refine lv_iconst (v := 1) hx hb dX1_secondOn_140 (by decide) ?_
            refine lv_iadd hx hb dX1_secondOn_141 ?_
            refine sM_now (9 + i) hC hB rfl (by omega) hS hA dX1_secondOn_142 (fun H locs hB hS => ?_)
            refine lv_iinc (v := (mGc N R i) + 1) (lv' := [(1, .int ((mGc N R i) + 1)), (4, .int (nI R)), (3, .int (mPr (mGo N R i) R i)), (2, .int (nI i)), (0, .ref (b 5))]) hx hb dX1_secondOn_143 hl (k := 3) rfl (rfl) (by decide) rfl (fun ls hl => ?_)
            refine lv_iinc (v := nI (i + 1)) (lv' := [(2, .int (nI (i + 1))), (1, .int ((mGc N R i) + 1)), (4, .int (nI R)), (3, .int (mPr (mGo N R i) R i)), (0, .ref (b 5))]) hx hb dX1_secondOn_146 hl (k := 3) rfl (ninc i) (by decide) rfl (fun ls hl => ?_)
            refine lv_goto (tgt := 14) hx hb dX1_secondOn_149 (by decide) ?_
            have e8 : mGc N R (i + 1) = (mGc N R i) + 1 := by rw [mGc_str c4] <;> rfl
            exact ih H locs (by rw [mGo_str c4]; exact hB) hS ls (by rw [e8]; exact lv_sub hl [0, 1, 4] rfl)
          · exfalso; omega
        · intro j hj jh H locs hB hS ls hl
          refine lv_iload hx hb dX1_secondOn_68 (lv_at hl 0 rfl) ?_
          refine lv_aload_n hx hb dX1_secondOn_70 rfl (lv_at hl 4 rfl) ?_
          refine gM_traders hC hB ((MI_s1 (MI_go hI)).2.1) dX1_secondOn_71 ?_
          refine jge (i := j) (j := R) (tgt := 121) hC dX1_secondOn_74 (by decide) rfl rfl (by omega) (by omega) (fun c9 => ?_) (fun c9 => ?_)
          · exfalso; omega
          · refine lv_aload_n hx hb dX1_secondOn_77 rfl (lv_at hl 4 rfl) ?_
            refine gM_now hC hB dX1_secondOn_78 ?_
            refine lv_bipush (v := 17) hx hb dX1_secondOn_81 (by decide) ?_
            refine lv_iload hx hb dX1_secondOn_83 (lv_at hl 0 rfl) ?_
            refine xadd (v := nI (17 + j)) hC dX1_secondOn_85 (nadd (i := 17) (j := j) rfl rfl) ?_
            refine lv_dup2_11 hx hb dX1_secondOn_86 rfl rfl ?_
            refine lM_now (17 + j) hC hB rfl (by omega) rfl dX1_secondOn_87 ?_
            refine lv_iload_n hx hb dX1_secondOn_88 rfl (lv_at hl 1 rfl) ?_
            refine lv_aload_n hx hb dX1_secondOn_89 rfl (lv_at hl 4 rfl) ?_
            refine gM_now hC hB dX1_secondOn_90 ?_
            refine lv_iload hx hb dX1_secondOn_93 (lv_at hl 0 rfl) ?_
            refine lv_iload_n hx hb dX1_secondOn_95 rfl (lv_at hl 2 rfl) ?_
            refine k_X1_at hC (c_X1_at l (r := j) (t := i)) mov_T trivial rfl ⟨rfl, rfl⟩ ⟨Nat.le_of_ble_eq_true rfl, Nat.le_of_ble_eq_true rfl⟩ ⟨Nat.zero_le _, Nat.zero_le _⟩ hl.1 rfl (Nat.le_of_ble_eq_true rfl) dX1_secondOn_96 ?_
            refine lM_now (23 + 8 * j + i) hC hB rfl (by omega) rfl dX1_secondOn_99 ?_
            refine lv_imul hx hb dX1_secondOn_100 ?_
            refine lv_iadd hx hb dX1_secondOn_101 ?_
            refine sM_now (17 + j) hC hB rfl (by omega) hS hA dX1_secondOn_102 (fun H locs hB hS => ?_)
            refine lv_aload_n hx hb dX1_secondOn_103 rfl (lv_at hl 4 rfl) ?_
            refine gM_now hC hB dX1_secondOn_104 ?_
            refine lv_iload hx hb dX1_secondOn_107 (lv_at hl 0 rfl) ?_
            refine lv_iload_n hx hb dX1_secondOn_109 rfl (lv_at hl 2 rfl) ?_
            refine k_X1_at hC (c_X1_at l (r := j) (t := i)) mov_T trivial rfl ⟨rfl, rfl⟩ ⟨Nat.le_of_ble_eq_true rfl, Nat.le_of_ble_eq_true rfl⟩ ⟨Nat.zero_le _, Nat.zero_le _⟩ hl.1 rfl (Nat.le_of_ble_eq_true rfl) dX1_secondOn_110 ?_
            refine lv_iconst (v := 0) hx hb dX1_secondOn_113 (by decide) ?_
            refine sM_now (23 + 8 * j + i) hC hB rfl (by omega) hS hA dX1_secondOn_114 (fun H locs hB hS => ?_)
            refine lv_iinc (v := nI (j + 1)) (lv' := [(4, .int (nI (j + 1))), (3, .int (mPr (mGo N R i) R i)), (2, .int (nI i)), (1, .int (mGc N R i)), (0, .ref (b 5))]) hx hb dX1_secondOn_115 hl (k := 0) rfl (ninc j) (by decide) rfl (fun ls hl => ?_)
            refine lv_goto (tgt := 68) hx hb dX1_secondOn_118 (by decide) ?_
            exact jh H locs (hB) hS ls (lv_sub hl [0, 1, 2, 3, 4] rfl)
      · refine lv_aload_n hx hb dX1_secondOn_44 rfl (lv_at hl 2 rfl) ?_
        refine gM_now hC hB dX1_secondOn_45 ?_
        refine lv_iconst (v := 1) hx hb dX1_secondOn_48 (by decide) ?_
        refine lv_iload_n hx hb dX1_secondOn_49 rfl (lv_at hl 0 rfl) ?_
        refine xadd (v := nI (1 + i)) hC dX1_secondOn_50 (nadd (i := 1) (j := i) rfl rfl) ?_
        refine lv_dup2_11 hx hb dX1_secondOn_51 rfl rfl ?_
        refine lM_now (1 + i) hC hB rfl (by omega) rfl dX1_secondOn_52 ?_
        refine lv_iconst (v := 1) hx hb dX1_secondOn_53 (by decide) ?_
        refine lv_iadd hx hb dX1_secondOn_54 ?_
        refine sM_now (1 + i) hC hB rfl (by omega) hS hA dX1_secondOn_55 (fun H locs hB hS => ?_)
        refine lv_goto (tgt := 146) hx hb dX1_secondOn_56 (by decide) ?_
        refine lv_iinc (v := nI (i + 1)) (lv' := [(2, .int (nI (i + 1))), (1, .int (mGc N R i)), (0, .ref (b 5))]) hx hb dX1_secondOn_146 hl (k := 0) rfl (ninc i) (by decide) rfl (fun ls hl => ?_)
        refine lv_goto (tgt := 14) hx hb dX1_secondOn_149 (by decide) ?_
        have e13 : mGc N R (i + 1) = mGc N R i := by rw [mGc_keep c4] <;> rfl
        exact ih H locs (by rw [mGo_keep c4]; exact hB) hS ls (by rw [e13]; exact lv_sub hl [0, 1, 2] rfl)
set_option maxHeartbeats 4000000 in
set_option maxRecDepth 100000 in
theorem c_X1_secondsOn (l : Launch) (D : va_G) (cI : ClassId) (b : Nat → Nat) (N : bS) {T R : Nat} {k : Nat} (hI : MI N T R) (hP : mP N T) (hk : k ≤ 100) : Wr l yX1_secondsOn cX1_secondsOn 4 (some .int) ({ frames := 5, cells := 0, slots := 0, locals := 114 } : Room) (MW D cI b N) (MW D cI b (mPa N T R k)) (inM b) [.ref (b 5), .int (nI k)] (some (.int (mPc N T R k))) 0 0 := by
  refine Wr.of (by decide) (Nat.le_of_ble_eq_true rfl) ?_
  intro p e s m args below meth c ls hC hr hlocks hB hS hl
  have hx := hC.1
  have hb := hC.2.1
  have hA : ∀ q, (inM b) q → (inM b) q := fun _ h => h
  obtain ⟨hT, hR, hT8, hR6⟩ := id hI
  have hl : lv_has ls 4 [(0, .ref (b 5)), (1, .int (nI k))] := hl
  refine lv_iconst (v := 0) hx hb dX1_secondsOn_0 (by decide) ?_
  refine lv_istore_n (lv' := [(2, .int (0)), (0, .ref (b 5)), (1, .int (nI k))]) hx hb dX1_secondsOn_1 rfl hl (by decide) rfl (fun ls hl => ?_)
  refine lv_iconst (v := 0) hx hb dX1_secondsOn_2 (by decide) ?_
  refine lv_istore_n (lv' := [(3, .int (0)), (2, .int (0)), (0, .ref (b 5)), (1, .int (nI k))]) hx hb dX1_secondsOn_3 rfl hl (by decide) rfl (fun ls hl => ?_)
  refine loopU (P := fun i => ∀ (H : Heap) (locs : List Loc), MW D cI b ((mPa N T R i)) s H → va_S (inM b) s.heap H locs → ∀ ls : Array Slot, lv_has ls 4 [(3, .int (nI i)), (2, .int (mPc N T R i)), (0, .ref (b 5)), (1, .int (nI k))] → W p l e ({ frames := 5, cells := 0, slots := 0, locals := 114 } : Room) s m args below meth c H locs 0 0 (MQ below (qW (some (.int (mPc N T R k))) (MW D cI b (mPa N T R k)) (inM b)) args s 0 0 (inM b)) (F0 m 4 ls [])) (k) ?_ ?_ 0 (by omega) s.heap [] hB hS ls (by first | exact lv_sub hl [0, 1, 2, 3] rfl | (simpa using lv_sub hl [0, 1, 2, 3] rfl))
  · intro H locs hB hS ls hl
    refine lv_iload_n hx hb dX1_secondsOn_4 rfl (lv_at hl 0 rfl) ?_
    refine lv_iload_n hx hb dX1_secondsOn_5 rfl (lv_at hl 3 rfl) ?_
    refine jge (i := k) (j := k) (tgt := 22) hC dX1_secondsOn_6 (by decide) rfl rfl (by omega) (by omega) (fun c1 => ?_) (fun c1 => ?_)
    · refine lv_iload_n hx hb dX1_secondsOn_22 rfl (lv_at hl 1 rfl) ?_
      exact wr_i hC hr hlocks mov_M (hB) hS dX1_secondsOn_23 (by rfl)
    · exfalso; omega
  · intro i hi ih H locs hB hS ls hl
    refine lv_iload_n hx hb dX1_secondsOn_4 rfl (lv_at hl 0 rfl) ?_
    refine lv_iload_n hx hb dX1_secondsOn_5 rfl (lv_at hl 3 rfl) ?_
    refine jge (i := i) (j := k) (tgt := 22) hC dX1_secondsOn_6 (by decide) rfl rfl (by omega) (by omega) (fun c2 => ?_) (fun c2 => ?_)
    · exfalso; omega
    · refine lv_iload_n hx hb dX1_secondsOn_9 rfl (lv_at hl 1 rfl) ?_
      refine lv_aload_n hx hb dX1_secondsOn_10 rfl (lv_at hl 2 rfl) ?_
      refine kw_X1_secondOn hC (c_X1_secondOn l D cI b (mPa N T R i) (MI_pa hI) (mP_pa hP)) hB rfl ⟨rfl, rfl⟩ ⟨Nat.le_of_ble_eq_true rfl, Nat.le_of_ble_eq_true rfl⟩ ⟨Nat.le_of_ble_eq_true rfl, Nat.le_of_ble_eq_true rfl⟩ hS hA hl.1 rfl (Nat.le_of_ble_eq_true rfl) dX1_secondsOn_11 (fun H locs hB hS => ?_)
      refine lv_iadd hx hb dX1_secondsOn_14 ?_
      refine lv_istore_n (lv' := [(2, .int ((mPc N T R i) + (mGc (mPa N T R i) R T))), (3, .int (nI i)), (0, .ref (b 5)), (1, .int (nI k))]) hx hb dX1_secondsOn_15 rfl hl (by decide) rfl (fun ls hl => ?_)
      refine lv_iinc (v := nI (i + 1)) (lv' := [(3, .int (nI (i + 1))), (2, .int ((mPc N T R i) + (mGc (mPa N T R i) R T))), (0, .ref (b 5)), (1, .int (nI k))]) hx hb dX1_secondsOn_16 hl (k := 1) rfl (ninc i) (by decide) rfl (fun ls hl => ?_)
      refine lv_goto (tgt := 4) hx hb dX1_secondsOn_19 (by decide) ?_
      exact ih H locs (hB) hS ls (lv_sub hl [0, 1, 2, 3] rfl)
set_option maxHeartbeats 4000000 in
set_option maxRecDepth 100000 in
theorem c_X1_sold (l : Launch) (D : va_G) (cI : ClassId) (b : Nat → Nat) (N : bS) {T R : Nat} {r t k : Nat} (hI : MI N T R) (hr9 : r < R) (ht : t < T) : Wr l yX1_sold cX1_sold 5 (some .int) ({ frames := 4, cells := 0, slots := 0, locals := 90 } : Room) (MW D cI b N) (MW D cI b (mSo N R r t k)) (inM b) [.ref (b 5), .int (nI r), .int (nI t), .int (nI k)] (some (.int (mPr N R t * nI k))) 0 0 := by
  refine Wr.of (by decide) (Nat.le_of_ble_eq_true rfl) ?_
  intro p e s m args below meth c ls hC hr hlocks hB hS hl
  have hx := hC.1
  have hb := hC.2.1
  have hA : ∀ q, (inM b) q → (inM b) q := fun _ h => h
  obtain ⟨hT, hR, hT8, hR6⟩ := id hI
  have hl : lv_has ls 5 [(0, .ref (b 5)), (1, .int (nI r)), (2, .int (nI t)), (3, .int (nI k))] := hl
  refine lv_aload_n hx hb dX1_sold_0 rfl (lv_at hl 0 rfl) ?_
  refine lv_iload_n hx hb dX1_sold_1 rfl (lv_at hl 2 rfl) ?_
  refine k_X1_price hC (c_X1_price l D cI b N (t := t) (hI) (by omega)) hB rfl ⟨rfl, rfl⟩ ⟨Nat.le_of_ble_eq_true rfl, Nat.le_of_ble_eq_true rfl⟩ ⟨Nat.zero_le _, Nat.zero_le _⟩ hl.1 rfl (Nat.le_of_ble_eq_true rfl) dX1_sold_2 ?_
  refine lv_iload_n hx hb dX1_sold_5 rfl (lv_at hl 3 rfl) ?_
  refine lv_imul hx hb dX1_sold_6 ?_
  refine lv_istore (lv' := [(4, .int ((mPr N R t) * (nI k))), (0, .ref (b 5)), (1, .int (nI r)), (2, .int (nI t)), (3, .int (nI k))]) hx hb dX1_sold_7 hl (by decide) rfl (fun ls hl => ?_)
  refine lv_aload_n hx hb dX1_sold_9 rfl (lv_at hl 1 rfl) ?_
  refine gM_now hC hB dX1_sold_10 ?_
  refine lv_iload_n hx hb dX1_sold_13 rfl (lv_at hl 2 rfl) ?_
  refine lv_iload_n hx hb dX1_sold_14 rfl (lv_at hl 3 rfl) ?_
  refine k_X1_at hC (c_X1_at l (r := r) (t := t)) mov_T trivial rfl ⟨rfl, rfl⟩ ⟨Nat.le_of_ble_eq_true rfl, Nat.le_of_ble_eq_true rfl⟩ ⟨Nat.zero_le _, Nat.zero_le _⟩ hl.1 rfl (Nat.le_of_ble_eq_true rfl) dX1_sold_15 ?_
  refine lv_dup2_11 hx hb dX1_sold_18 rfl rfl ?_
  refine lM_now (23 + 8 * r + t) hC hB rfl (by omega) rfl dX1_sold_19 ?_
  refine lv_iload_n hx hb dX1_sold_20 rfl (lv_at hl 4 rfl) ?_
  refine lv_isub hx hb dX1_sold_21 ?_
  refine sM_now (23 + 8 * r + t) hC hB rfl (by omega) hS hA dX1_sold_22 (fun H locs hB hS => ?_)
  refine lv_aload_n hx hb dX1_sold_23 rfl (lv_at hl 1 rfl) ?_
  refine gM_now hC hB dX1_sold_24 ?_
  refine lv_bipush (v := 17) hx hb dX1_sold_27 (by decide) ?_
  refine lv_iload_n hx hb dX1_sold_29 rfl (lv_at hl 2 rfl) ?_
  refine xadd (v := nI (17 + r)) hC dX1_sold_30 (nadd (i := 17) (j := r) rfl rfl) ?_
  refine lv_dup2_11 hx hb dX1_sold_31 rfl rfl ?_
  refine lM_now (17 + r) hC hB rfl (by omega) (by rw [up2_ne _ _ (by omega)]) dX1_sold_32 ?_
  refine lv_iload hx hb dX1_sold_33 (lv_at hl 0 rfl) ?_
  refine lv_iadd hx hb dX1_sold_35 ?_
  refine sM_now (17 + r) hC hB rfl (by omega) hS hA dX1_sold_36 (fun H locs hB hS => ?_)
  refine lv_iload hx hb dX1_sold_37 (lv_at hl 0 rfl) ?_
  exact wr_i hC hr hlocks mov_M (hB) hS dX1_sold_39 (by rfl)
set_option maxHeartbeats 4000000 in
set_option maxRecDepth 100000 in
theorem c_X1_can_ok (l : Launch) (D : va_G) (cI : ClassId) (b : Nat → Nat) (N : bS) {T R : Nat} {r t k : Nat} (hI : MI N T R) (hr9 : r < R) (ht : t < T) (hk1 : 1 ≤ k) (hk9 : k ≤ 9) : Wr l yX1_can cX1_can 4 (some .boolean) ({ frames := 2, cells := 0, slots := 0, locals := 43 } : Room) (MW D cI b N) (MW D cI b (up2 N 5 0 0)) (inM b) [.ref (b 5), .int (nI r), .int (nI t), .int (nI k)] (some (.int (1))) 0 0 := by
  refine Wr.of (by decide) (Nat.le_of_ble_eq_true rfl) ?_
  intro p e s m args below meth c ls hC hr hlocks hB hS hl
  have hx := hC.1
  have hb := hC.2.1
  have hA : ∀ q, (inM b) q → (inM b) q := fun _ h => h
  obtain ⟨hT, hR, hT8, hR6⟩ := id hI
  have hl : lv_has ls 4 [(0, .ref (b 5)), (1, .int (nI r)), (2, .int (nI t)), (3, .int (nI k))] := hl
  refine lv_aload_n hx hb dX1_can_0 rfl (lv_at hl 0 rfl) ?_
  refine lv_aload_n hx hb dX1_can_1 rfl (lv_at hl 0 rfl) ?_
  refine lv_iload_n hx hb dX1_can_2 rfl (lv_at hl 1 rfl) ?_
  refine k_X1_isTrader hC (c_X1_isTrader_ok l D cI b N (t := r) (hI) (by omega)) hB rfl ⟨rfl, rfl⟩ ⟨Nat.le_of_ble_eq_true rfl, Nat.le_of_ble_eq_true rfl⟩ ⟨Nat.zero_le _, Nat.zero_le _⟩ hl.1 rfl (Nat.le_of_ble_eq_true rfl) dX1_can_3 ?_
  refine lv_if_eq (tgt := 17) hx hb dX1_can_6 (by decide) (fun c1 => ?_) (fun c1 => ?_)
  · exfalso; revert c1; decide
  · refine lv_aload_n hx hb dX1_can_9 rfl (lv_at hl 0 rfl) ?_
    refine lv_iload_n hx hb dX1_can_10 rfl (lv_at hl 2 rfl) ?_
    refine k_X1_isTower hC (c_X1_isTower_ok l D cI b N (t := t) (hI) (by omega)) hB rfl ⟨rfl, rfl⟩ ⟨Nat.le_of_ble_eq_true rfl, Nat.le_of_ble_eq_true rfl⟩ ⟨Nat.zero_le _, Nat.zero_le _⟩ hl.1 rfl (Nat.le_of_ble_eq_true rfl) dX1_can_11 ?_
    refine lv_if_ne (tgt := 21) hx hb dX1_can_14 (by decide) (fun c2 => ?_) (fun c2 => ?_)
    · refine lv_iload_n hx hb dX1_can_21 rfl (lv_at hl 3 rfl) ?_
      refine lv_iconst (v := 1) hx hb dX1_can_22 (by decide) ?_
      refine lv_bipush (v := 9) hx hb dX1_can_23 (by decide) ?_
      refine k_X1_isIn hC (c_X1_isIn_ok l (v := k) (lo := 1) (hi := 9) (by omega) (by omega) (by omega)) mov_T trivial rfl ⟨rfl, rfl⟩ ⟨Nat.le_of_ble_eq_true rfl, Nat.le_of_ble_eq_true rfl⟩ ⟨Nat.zero_le _, Nat.zero_le _⟩ hl.1 rfl (Nat.le_of_ble_eq_true rfl) dX1_can_25 ?_
      refine lv_if_eq (tgt := 35) hx hb dX1_can_28 (by decide) (fun c3 => ?_) (fun c3 => ?_)
      · exfalso; revert c3; decide
      · refine lv_iconst (v := 0) hx hb dX1_can_31 (by decide) ?_
        refine lv_goto (tgt := 36) hx hb dX1_can_32 (by decide) ?_
        refine pM_thrown hC hB hS hA dX1_can_36 (fun H locs hB hS => ?_)
        refine lv_aload_n hx hb dX1_can_39 rfl (lv_at hl 0 rfl) ?_
        refine gM_thrown hC hB (by rw [up2_eq]) dX1_can_40 ?_
        refine lv_if_ne (tgt := 50) hx hb dX1_can_43 (by decide) (fun c4 => ?_) (fun c4 => ?_)
        · exfalso; revert c4; decide
        · refine lv_iconst (v := 1) hx hb dX1_can_46 (by decide) ?_
          refine lv_goto (tgt := 51) hx hb dX1_can_47 (by decide) ?_
          exact wr_z hC hr hlocks mov_M (hB) hS (rfl) dX1_can_51 (by rfl)
    · exfalso; revert c2; decide
set_option maxHeartbeats 4000000 in
set_option maxRecDepth 100000 in
theorem c_X1_can_tr (l : Launch) (D : va_G) (cI : ClassId) (b : Nat → Nat) (N : bS) {T R : Nat} (x y z : Int32) (hI : MI N T R) (hx0 : isI x 0 (nI R - 1) = 0) : Wr l yX1_can cX1_can 4 (some .boolean) ({ frames := 2, cells := 0, slots := 0, locals := 43 } : Room) (MW D cI b N) (MW D cI b (up2 N 5 0 1)) (inM b) [.ref (b 5), .int (x), .int (y), .int (z)] (some (.int (0))) 0 0 := by
  refine Wr.of (by decide) (Nat.le_of_ble_eq_true rfl) ?_
  intro p e s m args below meth c ls hC hr hlocks hB hS hl
  have hx := hC.1
  have hb := hC.2.1
  have hA : ∀ q, (inM b) q → (inM b) q := fun _ h => h
  obtain ⟨hT, hR, hT8, hR6⟩ := id hI
  have hl : lv_has ls 4 [(0, .ref (b 5)), (1, .int (x)), (2, .int (y)), (3, .int (z))] := hl
  refine lv_aload_n hx hb dX1_can_0 rfl (lv_at hl 0 rfl) ?_
  refine lv_aload_n hx hb dX1_can_1 rfl (lv_at hl 0 rfl) ?_
  refine lv_iload_n hx hb dX1_can_2 rfl (lv_at hl 1 rfl) ?_
  refine k_X1_isTrader hC (c_X1_isTrader_no l D cI b N (x) (hI) hx0) hB rfl ⟨rfl, rfl⟩ ⟨Nat.le_of_ble_eq_true rfl, Nat.le_of_ble_eq_true rfl⟩ ⟨Nat.zero_le _, Nat.zero_le _⟩ hl.1 rfl (Nat.le_of_ble_eq_true rfl) dX1_can_3 ?_
  refine lv_if_eq (tgt := 17) hx hb dX1_can_6 (by decide) (fun c1 => ?_) (fun c1 => ?_)
  · refine lv_iconst (v := 1) hx hb dX1_can_17 (by decide) ?_
    refine lv_goto (tgt := 36) hx hb dX1_can_18 (by decide) ?_
    refine pM_thrown hC hB hS hA dX1_can_36 (fun H locs hB hS => ?_)
    refine lv_aload_n hx hb dX1_can_39 rfl (lv_at hl 0 rfl) ?_
    refine gM_thrown hC hB (by rw [up2_eq]) dX1_can_40 ?_
    refine lv_if_ne (tgt := 50) hx hb dX1_can_43 (by decide) (fun c2 => ?_) (fun c2 => ?_)
    · refine lv_iconst (v := 0) hx hb dX1_can_50 (by decide) ?_
      exact wr_z hC hr hlocks mov_M (hB) hS (rfl) dX1_can_51 (by rfl)
    · exfalso; revert c2; decide
  · exfalso; revert c1; decide
set_option maxHeartbeats 4000000 in
set_option maxRecDepth 100000 in
theorem c_X1_can_to (l : Launch) (D : va_G) (cI : ClassId) (b : Nat → Nat) (N : bS) {T R : Nat} {r : Nat} (y z : Int32) (hI : MI N T R) (hr9 : r < R) (hy0 : isI y 0 (nI T - 1) = 0) : Wr l yX1_can cX1_can 4 (some .boolean) ({ frames := 2, cells := 0, slots := 0, locals := 43 } : Room) (MW D cI b N) (MW D cI b (up2 N 5 0 1)) (inM b) [.ref (b 5), .int (nI r), .int (y), .int (z)] (some (.int (0))) 0 0 := by
  refine Wr.of (by decide) (Nat.le_of_ble_eq_true rfl) ?_
  intro p e s m args below meth c ls hC hr hlocks hB hS hl
  have hx := hC.1
  have hb := hC.2.1
  have hA : ∀ q, (inM b) q → (inM b) q := fun _ h => h
  obtain ⟨hT, hR, hT8, hR6⟩ := id hI
  have hl : lv_has ls 4 [(0, .ref (b 5)), (1, .int (nI r)), (2, .int (y)), (3, .int (z))] := hl
  refine lv_aload_n hx hb dX1_can_0 rfl (lv_at hl 0 rfl) ?_
  refine lv_aload_n hx hb dX1_can_1 rfl (lv_at hl 0 rfl) ?_
  refine lv_iload_n hx hb dX1_can_2 rfl (lv_at hl 1 rfl) ?_
  refine k_X1_isTrader hC (c_X1_isTrader_ok l D cI b N (t := r) (hI) (by omega)) hB rfl ⟨rfl, rfl⟩ ⟨Nat.le_of_ble_eq_true rfl, Nat.le_of_ble_eq_true rfl⟩ ⟨Nat.zero_le _, Nat.zero_le _⟩ hl.1 rfl (Nat.le_of_ble_eq_true rfl) dX1_can_3 ?_
  refine lv_if_eq (tgt := 17) hx hb dX1_can_6 (by decide) (fun c1 => ?_) (fun c1 => ?_)
  · exfalso; revert c1; decide
  · refine lv_aload_n hx hb dX1_can_9 rfl (lv_at hl 0 rfl) ?_
    refine lv_iload_n hx hb dX1_can_10 rfl (lv_at hl 2 rfl) ?_
    refine k_X1_isTower hC (c_X1_isTower_no l D cI b N (y) (hI) hy0) hB rfl ⟨rfl, rfl⟩ ⟨Nat.le_of_ble_eq_true rfl, Nat.le_of_ble_eq_true rfl⟩ ⟨Nat.zero_le _, Nat.zero_le _⟩ hl.1 rfl (Nat.le_of_ble_eq_true rfl) dX1_can_11 ?_
    refine lv_if_ne (tgt := 21) hx hb dX1_can_14 (by decide) (fun c2 => ?_) (fun c2 => ?_)
    · exfalso; revert c2; decide
    · refine lv_iconst (v := 1) hx hb dX1_can_17 (by decide) ?_
      refine lv_goto (tgt := 36) hx hb dX1_can_18 (by decide) ?_
      refine pM_thrown hC hB hS hA dX1_can_36 (fun H locs hB hS => ?_)
      refine lv_aload_n hx hb dX1_can_39 rfl (lv_at hl 0 rfl) ?_
      refine gM_thrown hC hB (by rw [up2_eq]) dX1_can_40 ?_
      refine lv_if_ne (tgt := 50) hx hb dX1_can_43 (by decide) (fun c3 => ?_) (fun c3 => ?_)
      · refine lv_iconst (v := 0) hx hb dX1_can_50 (by decide) ?_
        exact wr_z hC hr hlocks mov_M (hB) hS (rfl) dX1_can_51 (by rfl)
      · exfalso; revert c3; decide
set_option maxHeartbeats 4000000 in
set_option maxRecDepth 100000 in
theorem c_X1_can_se (l : Launch) (D : va_G) (cI : ClassId) (b : Nat → Nat) (N : bS) {T R : Nat} {r t : Nat} (z : Int32) (hI : MI N T R) (hr9 : r < R) (ht : t < T) (hz0 : isI z 1 9 = 0) : Wr l yX1_can cX1_can 4 (some .boolean) ({ frames := 2, cells := 0, slots := 0, locals := 43 } : Room) (MW D cI b N) (MW D cI b (up2 N 5 0 2)) (inM b) [.ref (b 5), .int (nI r), .int (nI t), .int (z)] (some (.int (0))) 0 0 := by
  refine Wr.of (by decide) (Nat.le_of_ble_eq_true rfl) ?_
  intro p e s m args below meth c ls hC hr hlocks hB hS hl
  have hx := hC.1
  have hb := hC.2.1
  have hA : ∀ q, (inM b) q → (inM b) q := fun _ h => h
  obtain ⟨hT, hR, hT8, hR6⟩ := id hI
  have hl : lv_has ls 4 [(0, .ref (b 5)), (1, .int (nI r)), (2, .int (nI t)), (3, .int (z))] := hl
  refine lv_aload_n hx hb dX1_can_0 rfl (lv_at hl 0 rfl) ?_
  refine lv_aload_n hx hb dX1_can_1 rfl (lv_at hl 0 rfl) ?_
  refine lv_iload_n hx hb dX1_can_2 rfl (lv_at hl 1 rfl) ?_
  refine k_X1_isTrader hC (c_X1_isTrader_ok l D cI b N (t := r) (hI) (by omega)) hB rfl ⟨rfl, rfl⟩ ⟨Nat.le_of_ble_eq_true rfl, Nat.le_of_ble_eq_true rfl⟩ ⟨Nat.zero_le _, Nat.zero_le _⟩ hl.1 rfl (Nat.le_of_ble_eq_true rfl) dX1_can_3 ?_
  refine lv_if_eq (tgt := 17) hx hb dX1_can_6 (by decide) (fun c1 => ?_) (fun c1 => ?_)
  · exfalso; revert c1; decide
  · refine lv_aload_n hx hb dX1_can_9 rfl (lv_at hl 0 rfl) ?_
    refine lv_iload_n hx hb dX1_can_10 rfl (lv_at hl 2 rfl) ?_
    refine k_X1_isTower hC (c_X1_isTower_ok l D cI b N (t := t) (hI) (by omega)) hB rfl ⟨rfl, rfl⟩ ⟨Nat.le_of_ble_eq_true rfl, Nat.le_of_ble_eq_true rfl⟩ ⟨Nat.zero_le _, Nat.zero_le _⟩ hl.1 rfl (Nat.le_of_ble_eq_true rfl) dX1_can_11 ?_
    refine lv_if_ne (tgt := 21) hx hb dX1_can_14 (by decide) (fun c2 => ?_) (fun c2 => ?_)
    · refine lv_iload_n hx hb dX1_can_21 rfl (lv_at hl 3 rfl) ?_
      refine lv_iconst (v := 1) hx hb dX1_can_22 (by decide) ?_
      refine lv_bipush (v := 9) hx hb dX1_can_23 (by decide) ?_
      refine k_X1_isIn hC (c_X1_isIn_no l (z) (1) (9) hz0) mov_T trivial rfl ⟨rfl, rfl⟩ ⟨Nat.le_of_ble_eq_true rfl, Nat.le_of_ble_eq_true rfl⟩ ⟨Nat.zero_le _, Nat.zero_le _⟩ hl.1 rfl (Nat.le_of_ble_eq_true rfl) dX1_can_25 ?_
      refine lv_if_eq (tgt := 35) hx hb dX1_can_28 (by decide) (fun c3 => ?_) (fun c3 => ?_)
      · refine lv_iconst (v := 2) hx hb dX1_can_35 (by decide) ?_
        refine pM_thrown hC hB hS hA dX1_can_36 (fun H locs hB hS => ?_)
        refine lv_aload_n hx hb dX1_can_39 rfl (lv_at hl 0 rfl) ?_
        refine gM_thrown hC hB (by rw [up2_eq]) dX1_can_40 ?_
        refine lv_if_ne (tgt := 50) hx hb dX1_can_43 (by decide) (fun c4 => ?_) (fun c4 => ?_)
        · refine lv_iconst (v := 0) hx hb dX1_can_50 (by decide) ?_
          exact wr_z hC hr hlocks mov_M (hB) hS (rfl) dX1_can_51 (by rfl)
        · exfalso; revert c4; decide
      · exfalso; revert c3; decide
    · exfalso; revert c2; decide
set_option maxHeartbeats 4000000 in
set_option maxRecDepth 100000 in
theorem c_X1_buy_ok (l : Launch) (D : va_G) (cI : ClassId) (b : Nat → Nat) (N : bS) {T R : Nat} {r t k : Nat} (hI : MI N T R) (hr9 : r < R) (ht : t < T) (hk1 : 1 ≤ k) (hk9 : k ≤ 9) (h1 : ¬ 9 < N 3 (23 + 8 * r + t) + nI k) (h2 : mPr (up2 N 5 0 0) R t * nI k ≤ N 3 (17 + r)) : Wr l yX1_buy cX1_buy 5 (some .int) ({ frames := 4, cells := 0, slots := 0, locals := 90 } : Room) (MW D cI b N) (MW D cI b (up2 (up2 (up2 N 5 0 0) 3 (23 + 8 * r + t) (N 3 (23 + 8 * r + t) + nI k)) 3 (17 + r) (N 3 (17 + r) - mPr (up2 N 5 0 0) R t * nI k))) (inM b) [.ref (b 5), .int (nI r), .int (nI t), .int (nI k)] (some (.int (mPr (up2 N 5 0 0) R t * nI k))) 0 0 := by
  refine Wr.of (by decide) (Nat.le_of_ble_eq_true rfl) ?_
  intro p e s m args below meth c ls hC hr hlocks hB hS hl
  have hx := hC.1
  have hb := hC.2.1
  have hA : ∀ q, (inM b) q → (inM b) q := fun _ h => h
  obtain ⟨hT, hR, hT8, hR6⟩ := id hI
  have hl : lv_has ls 5 [(0, .ref (b 5)), (1, .int (nI r)), (2, .int (nI t)), (3, .int (nI k))] := hl
  refine lv_aload_n hx hb dX1_buy_0 rfl (lv_at hl 0 rfl) ?_
  refine lv_iload_n hx hb dX1_buy_1 rfl (lv_at hl 1 rfl) ?_
  refine lv_iload_n hx hb dX1_buy_2 rfl (lv_at hl 2 rfl) ?_
  refine lv_iload_n hx hb dX1_buy_3 rfl (lv_at hl 3 rfl) ?_
  refine kw_X1_can hC (c_X1_can_ok l D cI b N (r := r) (t := t) (k := k) (hI) (by omega) (by omega) (by omega) (by omega)) hB rfl ⟨rfl, rfl⟩ ⟨Nat.le_of_ble_eq_true rfl, Nat.le_of_ble_eq_true rfl⟩ ⟨Nat.le_of_ble_eq_true rfl, Nat.le_of_ble_eq_true rfl⟩ hS hA hl.1 rfl (Nat.le_of_ble_eq_true rfl) dX1_buy_4 (fun H locs hB hS => ?_)
  refine lv_if_ne (tgt := 12) hx hb dX1_buy_7 (by decide) (fun c1 => ?_) (fun c1 => ?_)
  · refine lv_aload_n hx hb dX1_buy_12 rfl (lv_at hl 0 rfl) ?_
    refine lv_iload_n hx hb dX1_buy_13 rfl (lv_at hl 2 rfl) ?_
    refine k_X1_price hC (c_X1_price l D cI b (up2 N 5 0 0) (t := t) (MI_5 (hI)) (by omega)) hB rfl ⟨rfl, rfl⟩ ⟨Nat.le_of_ble_eq_true rfl, Nat.le_of_ble_eq_true rfl⟩ ⟨Nat.zero_le _, Nat.zero_le _⟩ hl.1 rfl (Nat.le_of_ble_eq_true rfl) dX1_buy_14 ?_
    refine lv_iload_n hx hb dX1_buy_17 rfl (lv_at hl 3 rfl) ?_
    refine lv_imul hx hb dX1_buy_18 ?_
    refine lv_istore (lv' := [(4, .int ((mPr (up2 N 5 0 0) R t) * (nI k))), (0, .ref (b 5)), (1, .int (nI r)), (2, .int (nI t)), (3, .int (nI k))]) hx hb dX1_buy_19 hl (by decide) rfl (fun ls hl => ?_)
    refine lv_aload_n hx hb dX1_buy_21 rfl (lv_at hl 1 rfl) ?_
    refine gM_now hC hB dX1_buy_22 ?_
    refine lv_iload_n hx hb dX1_buy_25 rfl (lv_at hl 2 rfl) ?_
    refine lv_iload_n hx hb dX1_buy_26 rfl (lv_at hl 3 rfl) ?_
    refine k_X1_at hC (c_X1_at l (r := r) (t := t)) mov_T trivial rfl ⟨rfl, rfl⟩ ⟨Nat.le_of_ble_eq_true rfl, Nat.le_of_ble_eq_true rfl⟩ ⟨Nat.zero_le _, Nat.zero_le _⟩ hl.1 rfl (Nat.le_of_ble_eq_true rfl) dX1_buy_27 ?_
    refine lM_now (23 + 8 * r + t) hC hB rfl (by omega) (by rw [up2_ne _ _ (by omega)]) dX1_buy_30 ?_
    refine lv_iload_n hx hb dX1_buy_31 rfl (lv_at hl 4 rfl) ?_
    refine lv_iadd hx hb dX1_buy_32 ?_
    refine lv_bipush (v := 9) hx hb dX1_buy_33 (by decide) ?_
    refine lv_icmp_gt (tgt := 52) hx hb dX1_buy_35 (by decide) (fun c2 => ?_) (fun c2 => ?_)
    · exfalso; exact h1 c2
    · refine lv_aload_n hx hb dX1_buy_38 rfl (lv_at hl 1 rfl) ?_
      refine gM_now hC hB dX1_buy_39 ?_
      refine lv_bipush (v := 17) hx hb dX1_buy_42 (by decide) ?_
      refine lv_iload_n hx hb dX1_buy_44 rfl (lv_at hl 2 rfl) ?_
      refine xadd (v := nI (17 + r)) hC dX1_buy_45 (nadd (i := 17) (j := r) rfl rfl) ?_
      refine lM_now (17 + r) hC hB rfl (by omega) (by rw [up2_ne _ _ (by omega)]) dX1_buy_46 ?_
      refine lv_iload hx hb dX1_buy_47 (lv_at hl 0 rfl) ?_
      refine lv_icmp_ge (tgt := 58) hx hb dX1_buy_49 (by decide) (fun c3 => ?_) (fun c3 => ?_)
      · refine lv_aload_n hx hb dX1_buy_58 rfl (lv_at hl 1 rfl) ?_
        refine gM_now hC hB dX1_buy_59 ?_
        refine lv_iload_n hx hb dX1_buy_62 rfl (lv_at hl 2 rfl) ?_
        refine lv_iload_n hx hb dX1_buy_63 rfl (lv_at hl 3 rfl) ?_
        refine k_X1_at hC (c_X1_at l (r := r) (t := t)) mov_T trivial rfl ⟨rfl, rfl⟩ ⟨Nat.le_of_ble_eq_true rfl, Nat.le_of_ble_eq_true rfl⟩ ⟨Nat.zero_le _, Nat.zero_le _⟩ hl.1 rfl (Nat.le_of_ble_eq_true rfl) dX1_buy_64 ?_
        refine lv_dup2_11 hx hb dX1_buy_67 rfl rfl ?_
        refine lM_now (23 + 8 * r + t) hC hB rfl (by omega) (by rw [up2_ne _ _ (by omega)]) dX1_buy_68 ?_
        refine lv_iload_n hx hb dX1_buy_69 rfl (lv_at hl 4 rfl) ?_
        refine lv_iadd hx hb dX1_buy_70 ?_
        refine sM_now (23 + 8 * r + t) hC hB rfl (by omega) hS hA dX1_buy_71 (fun H locs hB hS => ?_)
        refine lv_aload_n hx hb dX1_buy_72 rfl (lv_at hl 1 rfl) ?_
        refine gM_now hC hB dX1_buy_73 ?_
        refine lv_bipush (v := 17) hx hb dX1_buy_76 (by decide) ?_
        refine lv_iload_n hx hb dX1_buy_78 rfl (lv_at hl 2 rfl) ?_
        refine xadd (v := nI (17 + r)) hC dX1_buy_79 (nadd (i := 17) (j := r) rfl rfl) ?_
        refine lv_dup2_11 hx hb dX1_buy_80 rfl rfl ?_
        refine lM_now (17 + r) hC hB rfl (by omega) (by rw [up2_ne _ _ (by omega), up2_ne _ _ (by omega)]) dX1_buy_81 ?_
        refine lv_iload hx hb dX1_buy_82 (lv_at hl 0 rfl) ?_
        refine lv_isub hx hb dX1_buy_84 ?_
        refine sM_now (17 + r) hC hB rfl (by omega) hS hA dX1_buy_85 (fun H locs hB hS => ?_)
        refine lv_iload hx hb dX1_buy_86 (lv_at hl 0 rfl) ?_
        exact wr_i hC hr hlocks mov_M (hB) hS dX1_buy_88 (by rfl)
      · exfalso; exact c3 h2
  · exfalso; revert c1; decide
set_option maxHeartbeats 4000000 in
set_option maxRecDepth 100000 in
theorem c_X1_buy_tr (l : Launch) (D : va_G) (cI : ClassId) (b : Nat → Nat) (N : bS) {T R : Nat} (x y z : Int32) (hI : MI N T R) (hx0 : isI x 0 (nI R - 1) = 0) : Wr l yX1_buy cX1_buy 5 (some .int) ({ frames := 4, cells := 0, slots := 0, locals := 90 } : Room) (MW D cI b N) (MW D cI b (up2 N 5 0 1)) (inM b) [.ref (b 5), .int (x), .int (y), .int (z)] (some (.int (0))) 0 0 := by
  refine Wr.of (by decide) (Nat.le_of_ble_eq_true rfl) ?_
  intro p e s m args below meth c ls hC hr hlocks hB hS hl
  have hx := hC.1
  have hb := hC.2.1
  have hA : ∀ q, (inM b) q → (inM b) q := fun _ h => h
  obtain ⟨hT, hR, hT8, hR6⟩ := id hI
  have hl : lv_has ls 5 [(0, .ref (b 5)), (1, .int (x)), (2, .int (y)), (3, .int (z))] := hl
  refine lv_aload_n hx hb dX1_buy_0 rfl (lv_at hl 0 rfl) ?_
  refine lv_iload_n hx hb dX1_buy_1 rfl (lv_at hl 1 rfl) ?_
  refine lv_iload_n hx hb dX1_buy_2 rfl (lv_at hl 2 rfl) ?_
  refine lv_iload_n hx hb dX1_buy_3 rfl (lv_at hl 3 rfl) ?_
  refine kw_X1_can hC (c_X1_can_tr l D cI b N (x) (y) (z) (hI) hx0) hB rfl ⟨rfl, rfl⟩ ⟨Nat.le_of_ble_eq_true rfl, Nat.le_of_ble_eq_true rfl⟩ ⟨Nat.le_of_ble_eq_true rfl, Nat.le_of_ble_eq_true rfl⟩ hS hA hl.1 rfl (Nat.le_of_ble_eq_true rfl) dX1_buy_4 (fun H locs hB hS => ?_)
  refine lv_if_ne (tgt := 12) hx hb dX1_buy_7 (by decide) (fun c1 => ?_) (fun c1 => ?_)
  · exfalso; revert c1; decide
  · refine lv_iconst (v := 0) hx hb dX1_buy_10 (by decide) ?_
    exact wr_i hC hr hlocks mov_M (hB) hS dX1_buy_11 (by rfl)
set_option maxHeartbeats 4000000 in
set_option maxRecDepth 100000 in
theorem c_X1_sell_tr (l : Launch) (D : va_G) (cI : ClassId) (b : Nat → Nat) (N : bS) {T R : Nat} (x y z : Int32) (hI : MI N T R) (hx0 : isI x 0 (nI R - 1) = 0) : Wr l yX1_sell cX1_sell 4 (some .int) ({ frames := 5, cells := 0, slots := 0, locals := 114 } : Room) (MW D cI b N) (MW D cI b (up2 N 5 0 1)) (inM b) [.ref (b 5), .int (x), .int (y), .int (z)] (some (.int (0))) 0 0 := by
  refine Wr.of (by decide) (Nat.le_of_ble_eq_true rfl) ?_
  intro p e s m args below meth c ls hC hr hlocks hB hS hl
  have hx := hC.1
  have hb := hC.2.1
  have hA : ∀ q, (inM b) q → (inM b) q := fun _ h => h
  obtain ⟨hT, hR, hT8, hR6⟩ := id hI
  have hl : lv_has ls 4 [(0, .ref (b 5)), (1, .int (x)), (2, .int (y)), (3, .int (z))] := hl
  refine lv_aload_n hx hb dX1_sell_0 rfl (lv_at hl 0 rfl) ?_
  refine lv_iload_n hx hb dX1_sell_1 rfl (lv_at hl 1 rfl) ?_
  refine lv_iload_n hx hb dX1_sell_2 rfl (lv_at hl 2 rfl) ?_
  refine lv_iload_n hx hb dX1_sell_3 rfl (lv_at hl 3 rfl) ?_
  refine kw_X1_can hC (c_X1_can_tr l D cI b N (x) (y) (z) (hI) hx0) hB rfl ⟨rfl, rfl⟩ ⟨Nat.le_of_ble_eq_true rfl, Nat.le_of_ble_eq_true rfl⟩ ⟨Nat.le_of_ble_eq_true rfl, Nat.le_of_ble_eq_true rfl⟩ hS hA hl.1 rfl (Nat.le_of_ble_eq_true rfl) dX1_sell_4 (fun H locs hB hS => ?_)
  refine lv_if_ne (tgt := 12) hx hb dX1_sell_7 (by decide) (fun c1 => ?_) (fun c1 => ?_)
  · exfalso; revert c1; decide
  · refine lv_iconst (v := 0) hx hb dX1_sell_10 (by decide) ?_
    exact wr_i hC hr hlocks mov_M (hB) hS dX1_sell_11 (by rfl)
set_option maxHeartbeats 4000000 in
set_option maxRecDepth 100000 in
theorem c_X1_buy_to (l : Launch) (D : va_G) (cI : ClassId) (b : Nat → Nat) (N : bS) {T R : Nat} {r : Nat} (y z : Int32) (hI : MI N T R) (hr9 : r < R) (hy0 : isI y 0 (nI T - 1) = 0) : Wr l yX1_buy cX1_buy 5 (some .int) ({ frames := 4, cells := 0, slots := 0, locals := 90 } : Room) (MW D cI b N) (MW D cI b (up2 N 5 0 1)) (inM b) [.ref (b 5), .int (nI r), .int (y), .int (z)] (some (.int (0))) 0 0 := by
  refine Wr.of (by decide) (Nat.le_of_ble_eq_true rfl) ?_
  intro p e s m args below meth c ls hC hr hlocks hB hS hl
  have hx := hC.1
  have hb := hC.2.1
  have hA : ∀ q, (inM b) q → (inM b) q := fun _ h => h
  obtain ⟨hT, hR, hT8, hR6⟩ := id hI
  have hl : lv_has ls 5 [(0, .ref (b 5)), (1, .int (nI r)), (2, .int (y)), (3, .int (z))] := hl
  refine lv_aload_n hx hb dX1_buy_0 rfl (lv_at hl 0 rfl) ?_
  refine lv_iload_n hx hb dX1_buy_1 rfl (lv_at hl 1 rfl) ?_
  refine lv_iload_n hx hb dX1_buy_2 rfl (lv_at hl 2 rfl) ?_
  refine lv_iload_n hx hb dX1_buy_3 rfl (lv_at hl 3 rfl) ?_
  refine kw_X1_can hC (c_X1_can_to l D cI b N (r := r) (y) (z) (hI) (by omega) hy0) hB rfl ⟨rfl, rfl⟩ ⟨Nat.le_of_ble_eq_true rfl, Nat.le_of_ble_eq_true rfl⟩ ⟨Nat.le_of_ble_eq_true rfl, Nat.le_of_ble_eq_true rfl⟩ hS hA hl.1 rfl (Nat.le_of_ble_eq_true rfl) dX1_buy_4 (fun H locs hB hS => ?_)
  refine lv_if_ne (tgt := 12) hx hb dX1_buy_7 (by decide) (fun c1 => ?_) (fun c1 => ?_)
  · exfalso; revert c1; decide
  · refine lv_iconst (v := 0) hx hb dX1_buy_10 (by decide) ?_
    exact wr_i hC hr hlocks mov_M (hB) hS dX1_buy_11 (by rfl)
set_option maxHeartbeats 4000000 in
set_option maxRecDepth 100000 in
theorem c_X1_sell_to (l : Launch) (D : va_G) (cI : ClassId) (b : Nat → Nat) (N : bS) {T R : Nat} {r : Nat} (y z : Int32) (hI : MI N T R) (hr9 : r < R) (hy0 : isI y 0 (nI T - 1) = 0) : Wr l yX1_sell cX1_sell 4 (some .int) ({ frames := 5, cells := 0, slots := 0, locals := 114 } : Room) (MW D cI b N) (MW D cI b (up2 N 5 0 1)) (inM b) [.ref (b 5), .int (nI r), .int (y), .int (z)] (some (.int (0))) 0 0 := by
  refine Wr.of (by decide) (Nat.le_of_ble_eq_true rfl) ?_
  intro p e s m args below meth c ls hC hr hlocks hB hS hl
  have hx := hC.1
  have hb := hC.2.1
  have hA : ∀ q, (inM b) q → (inM b) q := fun _ h => h
  obtain ⟨hT, hR, hT8, hR6⟩ := id hI
  have hl : lv_has ls 4 [(0, .ref (b 5)), (1, .int (nI r)), (2, .int (y)), (3, .int (z))] := hl
  refine lv_aload_n hx hb dX1_sell_0 rfl (lv_at hl 0 rfl) ?_
  refine lv_iload_n hx hb dX1_sell_1 rfl (lv_at hl 1 rfl) ?_
  refine lv_iload_n hx hb dX1_sell_2 rfl (lv_at hl 2 rfl) ?_
  refine lv_iload_n hx hb dX1_sell_3 rfl (lv_at hl 3 rfl) ?_
  refine kw_X1_can hC (c_X1_can_to l D cI b N (r := r) (y) (z) (hI) (by omega) hy0) hB rfl ⟨rfl, rfl⟩ ⟨Nat.le_of_ble_eq_true rfl, Nat.le_of_ble_eq_true rfl⟩ ⟨Nat.le_of_ble_eq_true rfl, Nat.le_of_ble_eq_true rfl⟩ hS hA hl.1 rfl (Nat.le_of_ble_eq_true rfl) dX1_sell_4 (fun H locs hB hS => ?_)
  refine lv_if_ne (tgt := 12) hx hb dX1_sell_7 (by decide) (fun c1 => ?_) (fun c1 => ?_)
  · exfalso; revert c1; decide
  · refine lv_iconst (v := 0) hx hb dX1_sell_10 (by decide) ?_
    exact wr_i hC hr hlocks mov_M (hB) hS dX1_sell_11 (by rfl)
set_option maxHeartbeats 4000000 in
set_option maxRecDepth 100000 in
theorem c_X1_buy_se (l : Launch) (D : va_G) (cI : ClassId) (b : Nat → Nat) (N : bS) {T R : Nat} {r t : Nat} (z : Int32) (hI : MI N T R) (hr9 : r < R) (ht : t < T) (hz0 : isI z 1 9 = 0) : Wr l yX1_buy cX1_buy 5 (some .int) ({ frames := 4, cells := 0, slots := 0, locals := 90 } : Room) (MW D cI b N) (MW D cI b (up2 N 5 0 2)) (inM b) [.ref (b 5), .int (nI r), .int (nI t), .int (z)] (some (.int (0))) 0 0 := by
  refine Wr.of (by decide) (Nat.le_of_ble_eq_true rfl) ?_
  intro p e s m args below meth c ls hC hr hlocks hB hS hl
  have hx := hC.1
  have hb := hC.2.1
  have hA : ∀ q, (inM b) q → (inM b) q := fun _ h => h
  obtain ⟨hT, hR, hT8, hR6⟩ := id hI
  have hl : lv_has ls 5 [(0, .ref (b 5)), (1, .int (nI r)), (2, .int (nI t)), (3, .int (z))] := hl
  refine lv_aload_n hx hb dX1_buy_0 rfl (lv_at hl 0 rfl) ?_
  refine lv_iload_n hx hb dX1_buy_1 rfl (lv_at hl 1 rfl) ?_
  refine lv_iload_n hx hb dX1_buy_2 rfl (lv_at hl 2 rfl) ?_
  refine lv_iload_n hx hb dX1_buy_3 rfl (lv_at hl 3 rfl) ?_
  refine kw_X1_can hC (c_X1_can_se l D cI b N (r := r) (t := t) (z) (hI) (by omega) (by omega) hz0) hB rfl ⟨rfl, rfl⟩ ⟨Nat.le_of_ble_eq_true rfl, Nat.le_of_ble_eq_true rfl⟩ ⟨Nat.le_of_ble_eq_true rfl, Nat.le_of_ble_eq_true rfl⟩ hS hA hl.1 rfl (Nat.le_of_ble_eq_true rfl) dX1_buy_4 (fun H locs hB hS => ?_)
  refine lv_if_ne (tgt := 12) hx hb dX1_buy_7 (by decide) (fun c1 => ?_) (fun c1 => ?_)
  · exfalso; revert c1; decide
  · refine lv_iconst (v := 0) hx hb dX1_buy_10 (by decide) ?_
    exact wr_i hC hr hlocks mov_M (hB) hS dX1_buy_11 (by rfl)
set_option maxHeartbeats 4000000 in
set_option maxRecDepth 100000 in
theorem c_X1_sell_se (l : Launch) (D : va_G) (cI : ClassId) (b : Nat → Nat) (N : bS) {T R : Nat} {r t : Nat} (z : Int32) (hI : MI N T R) (hr9 : r < R) (ht : t < T) (hz0 : isI z 1 9 = 0) : Wr l yX1_sell cX1_sell 4 (some .int) ({ frames := 5, cells := 0, slots := 0, locals := 114 } : Room) (MW D cI b N) (MW D cI b (up2 N 5 0 2)) (inM b) [.ref (b 5), .int (nI r), .int (nI t), .int (z)] (some (.int (0))) 0 0 := by
  refine Wr.of (by decide) (Nat.le_of_ble_eq_true rfl) ?_
  intro p e s m args below meth c ls hC hr hlocks hB hS hl
  have hx := hC.1
  have hb := hC.2.1
  have hA : ∀ q, (inM b) q → (inM b) q := fun _ h => h
  obtain ⟨hT, hR, hT8, hR6⟩ := id hI
  have hl : lv_has ls 4 [(0, .ref (b 5)), (1, .int (nI r)), (2, .int (nI t)), (3, .int (z))] := hl
  refine lv_aload_n hx hb dX1_sell_0 rfl (lv_at hl 0 rfl) ?_
  refine lv_iload_n hx hb dX1_sell_1 rfl (lv_at hl 1 rfl) ?_
  refine lv_iload_n hx hb dX1_sell_2 rfl (lv_at hl 2 rfl) ?_
  refine lv_iload_n hx hb dX1_sell_3 rfl (lv_at hl 3 rfl) ?_
  refine kw_X1_can hC (c_X1_can_se l D cI b N (r := r) (t := t) (z) (hI) (by omega) (by omega) hz0) hB rfl ⟨rfl, rfl⟩ ⟨Nat.le_of_ble_eq_true rfl, Nat.le_of_ble_eq_true rfl⟩ ⟨Nat.le_of_ble_eq_true rfl, Nat.le_of_ble_eq_true rfl⟩ hS hA hl.1 rfl (Nat.le_of_ble_eq_true rfl) dX1_sell_4 (fun H locs hB hS => ?_)
  refine lv_if_ne (tgt := 12) hx hb dX1_sell_7 (by decide) (fun c1 => ?_) (fun c1 => ?_)
  · exfalso; revert c1; decide
  · refine lv_iconst (v := 0) hx hb dX1_sell_10 (by decide) ?_
    exact wr_i hC hr hlocks mov_M (hB) hS dX1_sell_11 (by rfl)
set_option maxHeartbeats 4000000 in
set_option maxRecDepth 100000 in
theorem c_X1_buy_f1 (l : Launch) (D : va_G) (cI : ClassId) (b : Nat → Nat) (N : bS) {T R : Nat} {r t k : Nat} (hI : MI N T R) (hr9 : r < R) (ht : t < T) (hk1 : 1 ≤ k) (hk9 : k ≤ 9) (h1 : 9 < N 3 (23 + 8 * r + t) + nI k) : Wr l yX1_buy cX1_buy 5 (some .int) ({ frames := 4, cells := 0, slots := 0, locals := 90 } : Room) (MW D cI b N) (MW D cI b (up2 (up2 N 5 0 0) 5 0 3)) (inM b) [.ref (b 5), .int (nI r), .int (nI t), .int (nI k)] (some (.int (0))) 0 0 := by
  refine Wr.of (by decide) (Nat.le_of_ble_eq_true rfl) ?_
  intro p e s m args below meth c ls hC hr hlocks hB hS hl
  have hx := hC.1
  have hb := hC.2.1
  have hA : ∀ q, (inM b) q → (inM b) q := fun _ h => h
  obtain ⟨hT, hR, hT8, hR6⟩ := id hI
  have hl : lv_has ls 5 [(0, .ref (b 5)), (1, .int (nI r)), (2, .int (nI t)), (3, .int (nI k))] := hl
  refine lv_aload_n hx hb dX1_buy_0 rfl (lv_at hl 0 rfl) ?_
  refine lv_iload_n hx hb dX1_buy_1 rfl (lv_at hl 1 rfl) ?_
  refine lv_iload_n hx hb dX1_buy_2 rfl (lv_at hl 2 rfl) ?_
  refine lv_iload_n hx hb dX1_buy_3 rfl (lv_at hl 3 rfl) ?_
  refine kw_X1_can hC (c_X1_can_ok l D cI b N (r := r) (t := t) (k := k) (hI) (by omega) (by omega) (by omega) (by omega)) hB rfl ⟨rfl, rfl⟩ ⟨Nat.le_of_ble_eq_true rfl, Nat.le_of_ble_eq_true rfl⟩ ⟨Nat.le_of_ble_eq_true rfl, Nat.le_of_ble_eq_true rfl⟩ hS hA hl.1 rfl (Nat.le_of_ble_eq_true rfl) dX1_buy_4 (fun H locs hB hS => ?_)
  refine lv_if_ne (tgt := 12) hx hb dX1_buy_7 (by decide) (fun c1 => ?_) (fun c1 => ?_)
  · refine lv_aload_n hx hb dX1_buy_12 rfl (lv_at hl 0 rfl) ?_
    refine lv_iload_n hx hb dX1_buy_13 rfl (lv_at hl 2 rfl) ?_
    refine k_X1_price hC (c_X1_price l D cI b (up2 N 5 0 0) (t := t) (MI_5 (hI)) (by omega)) hB rfl ⟨rfl, rfl⟩ ⟨Nat.le_of_ble_eq_true rfl, Nat.le_of_ble_eq_true rfl⟩ ⟨Nat.zero_le _, Nat.zero_le _⟩ hl.1 rfl (Nat.le_of_ble_eq_true rfl) dX1_buy_14 ?_
    refine lv_iload_n hx hb dX1_buy_17 rfl (lv_at hl 3 rfl) ?_
    refine lv_imul hx hb dX1_buy_18 ?_
    refine lv_istore (lv' := [(4, .int ((mPr (up2 N 5 0 0) R t) * (nI k))), (0, .ref (b 5)), (1, .int (nI r)), (2, .int (nI t)), (3, .int (nI k))]) hx hb dX1_buy_19 hl (by decide) rfl (fun ls hl => ?_)
    refine lv_aload_n hx hb dX1_buy_21 rfl (lv_at hl 1 rfl) ?_
    refine gM_now hC hB dX1_buy_22 ?_
    refine lv_iload_n hx hb dX1_buy_25 rfl (lv_at hl 2 rfl) ?_
    refine lv_iload_n hx hb dX1_buy_26 rfl (lv_at hl 3 rfl) ?_
    refine k_X1_at hC (c_X1_at l (r := r) (t := t)) mov_T trivial rfl ⟨rfl, rfl⟩ ⟨Nat.le_of_ble_eq_true rfl, Nat.le_of_ble_eq_true rfl⟩ ⟨Nat.zero_le _, Nat.zero_le _⟩ hl.1 rfl (Nat.le_of_ble_eq_true rfl) dX1_buy_27 ?_
    refine lM_now (23 + 8 * r + t) hC hB rfl (by omega) (by rw [up2_ne _ _ (by omega)]) dX1_buy_30 ?_
    refine lv_iload_n hx hb dX1_buy_31 rfl (lv_at hl 4 rfl) ?_
    refine lv_iadd hx hb dX1_buy_32 ?_
    refine lv_bipush (v := 9) hx hb dX1_buy_33 (by decide) ?_
    refine lv_icmp_gt (tgt := 52) hx hb dX1_buy_35 (by decide) (fun c2 => ?_) (fun c2 => ?_)
    · refine lv_aload_n hx hb dX1_buy_52 rfl (lv_at hl 1 rfl) ?_
      refine lv_iconst (v := 3) hx hb dX1_buy_53 (by decide) ?_
      refine kw_X1_fail hC (c_X1_fail l D cI b (up2 N 5 0 0) (3)) hB rfl ⟨rfl, rfl⟩ ⟨Nat.le_of_ble_eq_true rfl, Nat.le_of_ble_eq_true rfl⟩ ⟨Nat.le_of_ble_eq_true rfl, Nat.le_of_ble_eq_true rfl⟩ hS hA hl.1 rfl (Nat.le_of_ble_eq_true rfl) dX1_buy_54 (fun H locs hB hS => ?_)
      exact wr_i hC hr hlocks mov_M (hB) hS dX1_buy_57 (by rfl)
    · exfalso; exact c2 h1
  · exfalso; revert c1; decide
set_option maxHeartbeats 4000000 in
set_option maxRecDepth 100000 in
theorem c_X1_buy_f2 (l : Launch) (D : va_G) (cI : ClassId) (b : Nat → Nat) (N : bS) {T R : Nat} {r t k : Nat} (hI : MI N T R) (hr9 : r < R) (ht : t < T) (hk1 : 1 ≤ k) (hk9 : k ≤ 9) (h1 : ¬ 9 < N 3 (23 + 8 * r + t) + nI k) (h2 : ¬ mPr (up2 N 5 0 0) R t * nI k ≤ N 3 (17 + r)) : Wr l yX1_buy cX1_buy 5 (some .int) ({ frames := 4, cells := 0, slots := 0, locals := 90 } : Room) (MW D cI b N) (MW D cI b (up2 (up2 N 5 0 0) 5 0 3)) (inM b) [.ref (b 5), .int (nI r), .int (nI t), .int (nI k)] (some (.int (0))) 0 0 := by
  refine Wr.of (by decide) (Nat.le_of_ble_eq_true rfl) ?_
  intro p e s m args below meth c ls hC hr hlocks hB hS hl
  have hx := hC.1
  have hb := hC.2.1
  have hA : ∀ q, (inM b) q → (inM b) q := fun _ h => h
  obtain ⟨hT, hR, hT8, hR6⟩ := id hI
  have hl : lv_has ls 5 [(0, .ref (b 5)), (1, .int (nI r)), (2, .int (nI t)), (3, .int (nI k))] := hl
  refine lv_aload_n hx hb dX1_buy_0 rfl (lv_at hl 0 rfl) ?_
  refine lv_iload_n hx hb dX1_buy_1 rfl (lv_at hl 1 rfl) ?_
  refine lv_iload_n hx hb dX1_buy_2 rfl (lv_at hl 2 rfl) ?_
  refine lv_iload_n hx hb dX1_buy_3 rfl (lv_at hl 3 rfl) ?_
  refine kw_X1_can hC (c_X1_can_ok l D cI b N (r := r) (t := t) (k := k) (hI) (by omega) (by omega) (by omega) (by omega)) hB rfl ⟨rfl, rfl⟩ ⟨Nat.le_of_ble_eq_true rfl, Nat.le_of_ble_eq_true rfl⟩ ⟨Nat.le_of_ble_eq_true rfl, Nat.le_of_ble_eq_true rfl⟩ hS hA hl.1 rfl (Nat.le_of_ble_eq_true rfl) dX1_buy_4 (fun H locs hB hS => ?_)
  refine lv_if_ne (tgt := 12) hx hb dX1_buy_7 (by decide) (fun c1 => ?_) (fun c1 => ?_)
  · refine lv_aload_n hx hb dX1_buy_12 rfl (lv_at hl 0 rfl) ?_
    refine lv_iload_n hx hb dX1_buy_13 rfl (lv_at hl 2 rfl) ?_
    refine k_X1_price hC (c_X1_price l D cI b (up2 N 5 0 0) (t := t) (MI_5 (hI)) (by omega)) hB rfl ⟨rfl, rfl⟩ ⟨Nat.le_of_ble_eq_true rfl, Nat.le_of_ble_eq_true rfl⟩ ⟨Nat.zero_le _, Nat.zero_le _⟩ hl.1 rfl (Nat.le_of_ble_eq_true rfl) dX1_buy_14 ?_
    refine lv_iload_n hx hb dX1_buy_17 rfl (lv_at hl 3 rfl) ?_
    refine lv_imul hx hb dX1_buy_18 ?_
    refine lv_istore (lv' := [(4, .int ((mPr (up2 N 5 0 0) R t) * (nI k))), (0, .ref (b 5)), (1, .int (nI r)), (2, .int (nI t)), (3, .int (nI k))]) hx hb dX1_buy_19 hl (by decide) rfl (fun ls hl => ?_)
    refine lv_aload_n hx hb dX1_buy_21 rfl (lv_at hl 1 rfl) ?_
    refine gM_now hC hB dX1_buy_22 ?_
    refine lv_iload_n hx hb dX1_buy_25 rfl (lv_at hl 2 rfl) ?_
    refine lv_iload_n hx hb dX1_buy_26 rfl (lv_at hl 3 rfl) ?_
    refine k_X1_at hC (c_X1_at l (r := r) (t := t)) mov_T trivial rfl ⟨rfl, rfl⟩ ⟨Nat.le_of_ble_eq_true rfl, Nat.le_of_ble_eq_true rfl⟩ ⟨Nat.zero_le _, Nat.zero_le _⟩ hl.1 rfl (Nat.le_of_ble_eq_true rfl) dX1_buy_27 ?_
    refine lM_now (23 + 8 * r + t) hC hB rfl (by omega) (by rw [up2_ne _ _ (by omega)]) dX1_buy_30 ?_
    refine lv_iload_n hx hb dX1_buy_31 rfl (lv_at hl 4 rfl) ?_
    refine lv_iadd hx hb dX1_buy_32 ?_
    refine lv_bipush (v := 9) hx hb dX1_buy_33 (by decide) ?_
    refine lv_icmp_gt (tgt := 52) hx hb dX1_buy_35 (by decide) (fun c2 => ?_) (fun c2 => ?_)
    · exfalso; exact h1 c2
    · refine lv_aload_n hx hb dX1_buy_38 rfl (lv_at hl 1 rfl) ?_
      refine gM_now hC hB dX1_buy_39 ?_
      refine lv_bipush (v := 17) hx hb dX1_buy_42 (by decide) ?_
      refine lv_iload_n hx hb dX1_buy_44 rfl (lv_at hl 2 rfl) ?_
      refine xadd (v := nI (17 + r)) hC dX1_buy_45 (nadd (i := 17) (j := r) rfl rfl) ?_
      refine lM_now (17 + r) hC hB rfl (by omega) (by rw [up2_ne _ _ (by omega)]) dX1_buy_46 ?_
      refine lv_iload hx hb dX1_buy_47 (lv_at hl 0 rfl) ?_
      refine lv_icmp_ge (tgt := 58) hx hb dX1_buy_49 (by decide) (fun c3 => ?_) (fun c3 => ?_)
      · exfalso; exact h2 c3
      · refine lv_aload_n hx hb dX1_buy_52 rfl (lv_at hl 1 rfl) ?_
        refine lv_iconst (v := 3) hx hb dX1_buy_53 (by decide) ?_
        refine kw_X1_fail hC (c_X1_fail l D cI b (up2 N 5 0 0) (3)) hB rfl ⟨rfl, rfl⟩ ⟨Nat.le_of_ble_eq_true rfl, Nat.le_of_ble_eq_true rfl⟩ ⟨Nat.le_of_ble_eq_true rfl, Nat.le_of_ble_eq_true rfl⟩ hS hA hl.1 rfl (Nat.le_of_ble_eq_true rfl) dX1_buy_54 (fun H locs hB hS => ?_)
        exact wr_i hC hr hlocks mov_M (hB) hS dX1_buy_57 (by rfl)
  · exfalso; revert c1; decide
set_option maxHeartbeats 4000000 in
set_option maxRecDepth 100000 in
theorem c_X1_sell_ok (l : Launch) (D : va_G) (cI : ClassId) (b : Nat → Nat) (N : bS) {T R : Nat} {r t k : Nat} (hI : MI N T R) (hr9 : r < R) (ht : t < T) (hk1 : 1 ≤ k) (hk9 : k ≤ 9) (h1 : -9 ≤ N 3 (23 + 8 * r + t) - nI k) : Wr l yX1_sell cX1_sell 4 (some .int) ({ frames := 5, cells := 0, slots := 0, locals := 114 } : Room) (MW D cI b N) (MW D cI b (mSo (up2 N 5 0 0) R r t k)) (inM b) [.ref (b 5), .int (nI r), .int (nI t), .int (nI k)] (some (.int (mPr (up2 N 5 0 0) R t * nI k))) 0 0 := by
  refine Wr.of (by decide) (Nat.le_of_ble_eq_true rfl) ?_
  intro p e s m args below meth c ls hC hr hlocks hB hS hl
  have hx := hC.1
  have hb := hC.2.1
  have hA : ∀ q, (inM b) q → (inM b) q := fun _ h => h
  obtain ⟨hT, hR, hT8, hR6⟩ := id hI
  have hl : lv_has ls 4 [(0, .ref (b 5)), (1, .int (nI r)), (2, .int (nI t)), (3, .int (nI k))] := hl
  refine lv_aload_n hx hb dX1_sell_0 rfl (lv_at hl 0 rfl) ?_
  refine lv_iload_n hx hb dX1_sell_1 rfl (lv_at hl 1 rfl) ?_
  refine lv_iload_n hx hb dX1_sell_2 rfl (lv_at hl 2 rfl) ?_
  refine lv_iload_n hx hb dX1_sell_3 rfl (lv_at hl 3 rfl) ?_
  refine kw_X1_can hC (c_X1_can_ok l D cI b N (r := r) (t := t) (k := k) (hI) (by omega) (by omega) (by omega) (by omega)) hB rfl ⟨rfl, rfl⟩ ⟨Nat.le_of_ble_eq_true rfl, Nat.le_of_ble_eq_true rfl⟩ ⟨Nat.le_of_ble_eq_true rfl, Nat.le_of_ble_eq_true rfl⟩ hS hA hl.1 rfl (Nat.le_of_ble_eq_true rfl) dX1_sell_4 (fun H locs hB hS => ?_)
  refine lv_if_ne (tgt := 12) hx hb dX1_sell_7 (by decide) (fun c1 => ?_) (fun c1 => ?_)
  · refine lv_aload_n hx hb dX1_sell_12 rfl (lv_at hl 0 rfl) ?_
    refine gM_now hC hB dX1_sell_13 ?_
    refine lv_iload_n hx hb dX1_sell_16 rfl (lv_at hl 1 rfl) ?_
    refine lv_iload_n hx hb dX1_sell_17 rfl (lv_at hl 2 rfl) ?_
    refine k_X1_at hC (c_X1_at l (r := r) (t := t)) mov_T trivial rfl ⟨rfl, rfl⟩ ⟨Nat.le_of_ble_eq_true rfl, Nat.le_of_ble_eq_true rfl⟩ ⟨Nat.zero_le _, Nat.zero_le _⟩ hl.1 rfl (Nat.le_of_ble_eq_true rfl) dX1_sell_18 ?_
    refine lM_now (23 + 8 * r + t) hC hB rfl (by omega) (by rw [up2_ne _ _ (by omega)]) dX1_sell_21 ?_
    refine lv_iload_n hx hb dX1_sell_22 rfl (lv_at hl 3 rfl) ?_
    refine lv_isub hx hb dX1_sell_23 ?_
    refine lv_bipush (v := -9) hx hb dX1_sell_24 (by decide) ?_
    refine lv_icmp_ge (tgt := 37) hx hb dX1_sell_26 (by decide) (fun c2 => ?_) (fun c2 => ?_)
    · refine lv_aload_n hx hb dX1_sell_37 rfl (lv_at hl 0 rfl) ?_
      refine lv_iload_n hx hb dX1_sell_38 rfl (lv_at hl 1 rfl) ?_
      refine lv_iload_n hx hb dX1_sell_39 rfl (lv_at hl 2 rfl) ?_
      refine lv_iload_n hx hb dX1_sell_40 rfl (lv_at hl 3 rfl) ?_
      refine kw_X1_sold hC (c_X1_sold l D cI b (up2 N 5 0 0) (r := r) (t := t) (k := k) (MI_5 (hI)) (by omega) (by omega)) hB rfl ⟨rfl, rfl⟩ ⟨Nat.le_of_ble_eq_true rfl, Nat.le_of_ble_eq_true rfl⟩ ⟨Nat.le_of_ble_eq_true rfl, Nat.le_of_ble_eq_true rfl⟩ hS hA hl.1 rfl (Nat.le_of_ble_eq_true rfl) dX1_sell_41 (fun H locs hB hS => ?_)
      exact wr_i hC hr hlocks mov_M (hB) hS dX1_sell_44 (by rfl)
    · exfalso; exact c2 h1
  · exfalso; revert c1; decide
set_option maxHeartbeats 4000000 in
set_option maxRecDepth 100000 in
theorem c_X1_sell_f1 (l : Launch) (D : va_G) (cI : ClassId) (b : Nat → Nat) (N : bS) {T R : Nat} {r t k : Nat} (hI : MI N T R) (hr9 : r < R) (ht : t < T) (hk1 : 1 ≤ k) (hk9 : k ≤ 9) (h1 : ¬ -9 ≤ N 3 (23 + 8 * r + t) - nI k) : Wr l yX1_sell cX1_sell 4 (some .int) ({ frames := 5, cells := 0, slots := 0, locals := 114 } : Room) (MW D cI b N) (MW D cI b (up2 (up2 N 5 0 0) 5 0 3)) (inM b) [.ref (b 5), .int (nI r), .int (nI t), .int (nI k)] (some (.int (0))) 0 0 := by
  refine Wr.of (by decide) (Nat.le_of_ble_eq_true rfl) ?_
  intro p e s m args below meth c ls hC hr hlocks hB hS hl
  have hx := hC.1
  have hb := hC.2.1
  have hA : ∀ q, (inM b) q → (inM b) q := fun _ h => h
  obtain ⟨hT, hR, hT8, hR6⟩ := id hI
  have hl : lv_has ls 4 [(0, .ref (b 5)), (1, .int (nI r)), (2, .int (nI t)), (3, .int (nI k))] := hl
  refine lv_aload_n hx hb dX1_sell_0 rfl (lv_at hl 0 rfl) ?_
  refine lv_iload_n hx hb dX1_sell_1 rfl (lv_at hl 1 rfl) ?_
  refine lv_iload_n hx hb dX1_sell_2 rfl (lv_at hl 2 rfl) ?_
  refine lv_iload_n hx hb dX1_sell_3 rfl (lv_at hl 3 rfl) ?_
  refine kw_X1_can hC (c_X1_can_ok l D cI b N (r := r) (t := t) (k := k) (hI) (by omega) (by omega) (by omega) (by omega)) hB rfl ⟨rfl, rfl⟩ ⟨Nat.le_of_ble_eq_true rfl, Nat.le_of_ble_eq_true rfl⟩ ⟨Nat.le_of_ble_eq_true rfl, Nat.le_of_ble_eq_true rfl⟩ hS hA hl.1 rfl (Nat.le_of_ble_eq_true rfl) dX1_sell_4 (fun H locs hB hS => ?_)
  refine lv_if_ne (tgt := 12) hx hb dX1_sell_7 (by decide) (fun c1 => ?_) (fun c1 => ?_)
  · refine lv_aload_n hx hb dX1_sell_12 rfl (lv_at hl 0 rfl) ?_
    refine gM_now hC hB dX1_sell_13 ?_
    refine lv_iload_n hx hb dX1_sell_16 rfl (lv_at hl 1 rfl) ?_
    refine lv_iload_n hx hb dX1_sell_17 rfl (lv_at hl 2 rfl) ?_
    refine k_X1_at hC (c_X1_at l (r := r) (t := t)) mov_T trivial rfl ⟨rfl, rfl⟩ ⟨Nat.le_of_ble_eq_true rfl, Nat.le_of_ble_eq_true rfl⟩ ⟨Nat.zero_le _, Nat.zero_le _⟩ hl.1 rfl (Nat.le_of_ble_eq_true rfl) dX1_sell_18 ?_
    refine lM_now (23 + 8 * r + t) hC hB rfl (by omega) (by rw [up2_ne _ _ (by omega)]) dX1_sell_21 ?_
    refine lv_iload_n hx hb dX1_sell_22 rfl (lv_at hl 3 rfl) ?_
    refine lv_isub hx hb dX1_sell_23 ?_
    refine lv_bipush (v := -9) hx hb dX1_sell_24 (by decide) ?_
    refine lv_icmp_ge (tgt := 37) hx hb dX1_sell_26 (by decide) (fun c2 => ?_) (fun c2 => ?_)
    · exfalso; exact h1 c2
    · refine lv_aload_n hx hb dX1_sell_29 rfl (lv_at hl 0 rfl) ?_
      refine lv_iconst (v := 3) hx hb dX1_sell_30 (by decide) ?_
      refine kw_X1_fail hC (c_X1_fail l D cI b (up2 N 5 0 0) (3)) hB rfl ⟨rfl, rfl⟩ ⟨Nat.le_of_ble_eq_true rfl, Nat.le_of_ble_eq_true rfl⟩ ⟨Nat.le_of_ble_eq_true rfl, Nat.le_of_ble_eq_true rfl⟩ hS hA hl.1 rfl (Nat.le_of_ble_eq_true rfl) dX1_sell_31 (fun H locs hB hS => ?_)
      refine lv_goto (tgt := 44) hx hb dX1_sell_34 (by decide) ?_
      exact wr_i hC hr hlocks mov_M (hB) hS dX1_sell_44 (by rfl)
  · exfalso; revert c1; decide
end

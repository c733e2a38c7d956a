/-! ===== what a throw needs of the machine, and methods that throw ===== -/
abbrev eIA : String := "java/lang/IllegalArgumentException"
abbrev eIS : String := "java/lang/IllegalStateException"
abbrev eIO : String := "java/lang/IndexOutOfBoundsException"
def txs : List (Nat × String) := [(35, "loudness is not 1 to 9"), (40, "period is not 2 to 20"), (42, "beat is not 0 to the period less 1"), (50, "there are 8 towers"), (65, "there are 6 traders"), (81, "this one would hold more than 9"), (83, "the purse has less"), (85, "this one would hold less than -9"), (154, "there is no such tower"), (157, "there is no such trader"), (159, "seconds is not 1 to 9"), (161, "seconds is not 1 to 60")]
def eXs : List String := [eIA, eIS, eIO]
def eDs : List String := ["java/lang/RuntimeException", "java/lang/Exception", Bundle.tN]
/-- the texts, and which of the three classes is which -/
def ZX (U : State) : Prop := (∀ q ∈ txs, ∃ sa, vk_R RX0 q.1 q.2 sa U) ∧ (∀ E ∈ eXs, va_Nw (.castable E E) U) ∧ (∀ E ∈ eXs, ∀ E' ∈ eXs, E ≠ E' → va_Nc E E' U) ∧ ∀ E ∈ eDs, va_Nw (.declares (Bundle.initS E)) U
def ZH (A : Nat → Prop) (U : State) (H : Heap) : Prop := vx_Zq Bundle.tN "UNASSIGNED_STACK" Bundle.steD A U H ∧ vx_Zq Bundle.tN "SUPPRESSED_SENTINEL" Bundle.listD A U H
theorem ZX.warm {s U : State} (hW : s.WarmedH U.vm) (h : ZX s) : ZX U := ⟨fun q hq => by
  obtain ⟨sa, h1⟩ := h.1 q hq
  exact ⟨sa, vk_R.warm hW h1⟩, fun E hE => va_Nw.warmC hW (h.2.1 E hE), fun E hE E' hE' ne => va_Nc.moved hW.alike (h.2.2.1 E hE E' hE' ne), fun E hE => va_Nw.warmD hW (h.2.2.2 E hE)⟩
theorem ZX.same {s U : State} (hv : U.vm = s.vm) (h : ZX s) : ZX U := h.warm (by rw [hv]; exact State.WarmedH.refl s)
theorem ZH.moved {A : Nat → Prop} {s U : State} {H : Heap} (hvm : s.vm.Alike U.vm) (h : ZH A s H) : ZH A U H := ⟨vx_Zq.moved hvm h.1, vx_Zq.moved hvm h.2⟩
theorem ZH.kept {A : Nat → Prop} {U : State} {H H1 : Heap} (h : ZH A U H) (hq : ∀ a : Nat, a < H.size → ¬ A a → H1[a]? = H[a]?) : ZH A U H1 := ⟨vx_Zq.kept h.1 hq, vx_Zq.kept h.2 hq⟩
theorem ZH.narrow {A B : Nat → Prop} {U : State} {H : Heap} (h : ZH A U H) (hAB : ∀ q, B q → A q) : ZH B U H := ⟨vx_Zq.narrow h.1 hAB, vx_Zq.narrow h.2 hAB⟩
/-- thrown is E0, and all cells are as they were -/
def xE (E0 : String) : String → State → State → Prop := fun E st t => E = E0 ∧ va_F (fun _ => False) st t
def QF : Array Value → State → Outcome → State → Prop := fun _ _ _ _ => False
/-- what a method that throws stands on -/
def WZ (Wd : State → Heap → Prop) : State → Prop := fun U => Wd U U.heap ∧ ZX U ∧ ZH (fun _ => False) U U.heap
/-- a method that throws E0 -/
def Th (l : Launch) (y : MethodName) (bytes : ByteArray) (n : Nat) (ret : Option FieldType) (rm : Room) (Wd : State → Heap → Prop) (As : List Value) (E0 : String) : Prop := vx_Met l y (wq y bytes n ret) rm (va_Pc As (WZ Wd)) QF (xE E0) 1 6 (fun _ => False)
theorem blindZ {Wd : State → Heap → Prop} {As : List Value} (hm : Mov Wd) : FrameBlind (va_Pc As (WZ Wd)) := fun a U g mk h => ⟨h.1, hm U (U.calling g mk a) U.heap (Vm.Alike.refl U.vm) h.2.1, h.2.2.1.same rfl, h.2.2.2.moved (Vm.Alike.refl U.vm)⟩
theorem Th.of {l : Launch} {y : MethodName} {bytes : ByteArray} {n : Nat} {ret : Option FieldType} {rm : Room} {Wd : State → Heap → Prop} {As : List Value} {E0 : String} (hy : plainName y.cls = true) (hn : (lg_sl As).length ≤ n)
    (body : ∀ (p : Program) (e : Env) (s : State) (m : MethodId) (args : Array Value) (below : List Frame) (meth : Method) (c : Code) (ls : Array Slot), CallFix p m c bytes n s args wsL_law y.cls → meth.locks = false → (∀ x ∈ c.exceptionTable.toList, False) → Wd s s.heap → ZX s → ZH (fun _ => False) s s.heap → lv_has ls n (lv_args 0 As) →
      W p l e rm s m args below meth c s.heap [] 0 0 (vx_MQ below QF (xE E0) args s 1 6 (fun _ => False)) (F0 m 0 ls [])) : Th l y bytes n ret rm Wd As E0 := by
  refine vx_ofW (cc := bytes) (maxL := n) (ret := ret) hy rfl ?_
  intro p e s m args below meth c s₁ B hml ht hv
  obtain ⟨rfl, hw⟩ := hv
  have hl := lv_entry As (n := n) hn
  rw [lg_entry_eq]
  exact body p e s m _ below meth c _ ⟨B.exec, B.bytes, hml, findClass_of_methodNamed B.named, fun w h => atoms_spec (ws := wq y bytes n ret) B.pre w (List.mem_cons_of_mem _ h)⟩ B.notSynchronized ht hw.1 hw.2.1 hw.2.2 hl
section BX
variable {p : Program} {l : Launch} {e : Env} {R : Room} {s : State} {m : MethodId} {args : Array Value} {below : List Frame} {meth : Method} {c : Code} {H : Heap} {locs : List Loc} {cells slots : Nat} {Q : State → Prop}
variable {y : MethodName} {bytes cc : ByteArray} {n nL index : Nat} {ret : Option FieldType} {rm : Room} {own C : String} {b0 : Nat} {As rest st0 : List Value} {pc : Nat} {ls : Array Slot} {E0 : String}
theorem run_x {Wd : State → Heap → Prop} {Qa : State → Outcome → State → Prop} (hQ : ∀ a b d, ¬ Qa a b d) (hr : vx_Run p l e R s m args below meth c H locs cells slots 1 6 (F0 m pc ls st0) rest Qa (xE E0) (fun _ => False))
    (kx : ∀ (ce : Cell) (q9 : Addr) (H1 : Heap), H.size ≤ H1.size → (∀ q : Nat, q < H.size → H1[q]? = H[q]?) → H1[q9]? = some ce → ce.vm = .none → s.vm.findClass E0 = some ce.cls → vx_W p l e R s m args below meth c H1 locs (cells + 1) (slots + 6) Q (F0 m pc ls rest) q9) : W p l e R s m args below meth c H locs cells slots Q (F0 m pc ls st0) := by
  intro T hT X
  rcases hr T hT X with ⟨v, st₀, t, T', L, h0, X', hL, e1, e2, hq, st⟩ | ⟨q, st₀, t, T', L, E, ce, h0, X', hL, e1, e2, ⟨hE, hz, hk⟩, hce, hcv, hcl, st⟩
  · exact absurd hq (hQ _ _ _)
  · subst hE
    have hL0 : L = [] := List.eq_nil_iff_forall_not_mem.mpr (fun z hz => hL z hz)
    subst hL0
    rw [List.append_nil] at X'
    rw [h0] at hz hk
    obtain ⟨t2, a1, b1⟩ := kx ce q T'.heap (by rw [e1]; exact hz) (fun q1 h1 => by rw [e1]; exact hk q1 h1 (fun z => z)) (by rw [e1]; exact hce) hcv hcl T' rfl X'
    exact ⟨t2, st.trans a1, b1⟩
/-- a call that throws -/
theorem kVX {Wd : State → Heap → Prop} (hC : CallFix p m c cc nL s args wsL_law own) (hM : Th l y bytes n ret rm Wd (.ref b0 :: As) E0) (hm : Mov Wd) (hW : Wd s H) (hX : ZX s) (hH : ZH (fun _ => False) s H) (hrec : ∃ cell : Cell, H[b0]? = some cell ∧ cell.vm.isStatics = false ∧ s.vm.findClass C = some cell.cls) (hG : GoodIn wsL_law (wsV own index C y (wq y bytes n ret))) (hrc : rm.cells = 1) (hrs : rm.slots = 6)
    (hd : y.cls = C ∧ y.cls ≠ "java/lang/invoke/MethodHandle" ∧ y.cls ≠ "java/lang/invoke/VarHandle" ∧ (parseMethodDescriptor y.desc).map (fun d => d.parameters.length) = some As.length) (hR : rm.frames + 1 ≤ R.frames ∧ 8 + (n + 11) + rm.locals ≤ R.locals) (hf : cells + 1 ≤ R.cells ∧ slots + 6 ≤ R.slots) (hls : ls.size = nL) (hst : st0 = As.reverse ++ .ref b0 :: rest) (hr8 : (rest.map fun v => v.category).sum ≤ 8) (hdg : decode cc pc = .ok (.invokevirtual index, 3))
    (kx : ∀ (ce : Cell) (q9 : Addr) (H1 : Heap), H.size ≤ H1.size → (∀ q : Nat, q < H.size → H1[q]? = H[q]?) → H1[q9]? = some ce → ce.vm = .none → s.vm.findClass E0 = some ce.cls → vx_W p l e R s m args below meth c H1 locs (cells + 1) (slots + 6) Q (F0 m pc ls rest) q9) : W p l e R s m args below meth c H locs cells slots Q (F0 m pc ls st0) :=
  run_x (Wd := Wd) (fun _ _ _ z => z) (vx_runV (As := As) (rest := rest) (locs := locs) (cells := cells) (slots := slots) (below := below) (meth := meth) hC hM (cwV As.length hC.2.2.2.2 hG rfl hrc hrs hd hR) ⟨blindZ hm, hrec, fun U hU hW1 => ⟨rfl, by show Wd U U.heap; rw [hU]; exact hm s U H hW1.alike hW, hX.warm hW1, by rw [hU]; exact hH.moved hW1.alike⟩⟩ (g := F0 m pc ls st0) rfl rfl hls hst (lv_room hr8) hdg hf) kx
theorem kSX {Wd : State → Heap → Prop} (hC : CallFix p m c cc nL s args wsL_law own) (hM : Th l y bytes n ret rm Wd As E0) (hm : Mov Wd) (hW : Wd s H) (hX : ZX s) (hH : ZH (fun _ => False) s H) (hG : GoodIn wsL_law (va_wsS own index y (wq y bytes n ret))) (hrc : rm.cells = 1) (hrs : rm.slots = 6)
    (hd : y.cls ≠ "java/lang/invoke/MethodHandle" ∧ y.cls ≠ "java/lang/invoke/VarHandle" ∧ (parseMethodDescriptor y.desc).map (fun d => d.parameters.length) = some As.length) (hR : rm.frames + 1 ≤ R.frames ∧ 8 + (n + 11) + rm.locals ≤ R.locals) (hf : cells + 1 ≤ R.cells ∧ slots + 6 ≤ R.slots) (hls : ls.size = nL) (hst : st0 = As.reverse ++ rest) (hr8 : (rest.map fun v => v.category).sum ≤ 8) (hdg : decode cc pc = .ok (.invokestatic index, 3))
    (kx : ∀ (ce : Cell) (q9 : Addr) (H1 : Heap), H.size ≤ H1.size → (∀ q : Nat, q < H.size → H1[q]? = H[q]?) → H1[q9]? = some ce → ce.vm = .none → s.vm.findClass E0 = some ce.cls → vx_W p l e R s m args below meth c H1 locs (cells + 1) (slots + 6) Q (F0 m pc ls rest) q9) : W p l e R s m args below meth c H locs cells slots Q (F0 m pc ls st0) :=
  run_x (Wd := Wd) (fun _ _ _ z => z) (vx_runS (As := As) (rest := rest) (locs := locs) (cells := cells) (slots := slots) (below := below) (meth := meth) hC hM (va_cwS As.length hC.2.2.2.2 hG rfl hrc hrs hd hR) ⟨blindZ hm, fun U hU hW1 => ⟨rfl, by show Wd U U.heap; rw [hU]; exact hm s U H hW1.alike hW, hX.warm hW1, by rw [hU]; exact hH.moved hW1.alike⟩⟩ (g := F0 m pc ls st0) rfl rfl hls hst (lv_room hr8) hdg hf) kx
/-- not caught here -/
theorem outX {H1 : Heap} {q9 : Addr} {ce : Cell} (ht : ∀ x ∈ c.exceptionTable.toList, False) (hlocks : meth.locks = false) (hz : s.heap.size ≤ H1.size) (hk : ∀ q : Nat, q < s.heap.size → H1[q]? = s.heap[q]?) (hce : H1[q9]? = some ce) (hcv : ce.vm = .none) (hcl : s.vm.findClass E0 = some ce.cls) :
    vx_W p l e R s m args below meth c H1 [] (0 + 1) (0 + 6) (vx_MQ below QF (xE E0) args s 1 6 (fun _ => False)) (F0 m pc ls rest) q9 :=
  vx_out (E := E0) (fun x hx => (ht x hx).elim) hlocks hce hcv hcl (fun t h1 _ => ⟨rfl, by rw [h1]; exact hz, fun q h2 _ => by rw [h1]; exact hk q h2⟩) (fun z hz => nomatch hz) (by decide) (by decide)
/-- a call that throws, not caught here -/
theorem kVx {Wd : State → Heap → Prop} (hC : CallFix p m c cc nL s args wsL_law own) (hM : Th l y bytes n ret rm Wd (.ref b0 :: As) E0) (hm : Mov Wd) (hW : Wd s s.heap) (hX : ZX s) (hH : ZH (fun _ => False) s s.heap) (hrec : ∃ cell : Cell, s.heap[b0]? = some cell ∧ cell.vm.isStatics = false ∧ s.vm.findClass C = some cell.cls) (hG : GoodIn wsL_law (wsV own index C y (wq y bytes n ret))) (hrc : rm.cells = 1) (hrs : rm.slots = 6)
    (hd : y.cls = C ∧ y.cls ≠ "java/lang/invoke/MethodHandle" ∧ y.cls ≠ "java/lang/invoke/VarHandle" ∧ (parseMethodDescriptor y.desc).map (fun d => d.parameters.length) = some As.length) (hR : rm.frames + 1 ≤ R.frames ∧ 8 + (n + 11) + rm.locals ≤ R.locals) (hf : 0 + 1 ≤ R.cells ∧ 0 + 6 ≤ R.slots) (hls : ls.size = nL) (hst : st0 = As.reverse ++ .ref b0 :: rest) (hr8 : (rest.map fun v => v.category).sum ≤ 8) (hdg : decode cc pc = .ok (.invokevirtual index, 3))
    (ht : ∀ x ∈ c.exceptionTable.toList, False) (hlocks : meth.locks = false) : W p l e R s m args below meth c s.heap [] 0 0 (vx_MQ below QF (xE E0) args s 1 6 (fun _ => False)) (F0 m pc ls st0) :=
  kVX hC hM hm hW hX hH hrec hG hrc hrs hd hR hf hls hst hr8 hdg (fun ce q9 H1 hz hk hce hcv hcl => outX ht hlocks hz hk hce hcv hcl)
theorem kSx {Wd : State → Heap → Prop} (hC : CallFix p m c cc nL s args wsL_law own) (hM : Th l y bytes n ret rm Wd As E0) (hm : Mov Wd) (hW : Wd s s.heap) (hX : ZX s) (hH : ZH (fun _ => False) s s.heap) (hG : GoodIn wsL_law (va_wsS own index y (wq y bytes n ret))) (hrc : rm.cells = 1) (hrs : rm.slots = 6)
    (hd : y.cls ≠ "java/lang/invoke/MethodHandle" ∧ y.cls ≠ "java/lang/invoke/VarHandle" ∧ (parseMethodDescriptor y.desc).map (fun d => d.parameters.length) = some As.length) (hR : rm.frames + 1 ≤ R.frames ∧ 8 + (n + 11) + rm.locals ≤ R.locals) (hf : 0 + 1 ≤ R.cells ∧ 0 + 6 ≤ R.slots) (hls : ls.size = nL) (hst : st0 = As.reverse ++ rest) (hr8 : (rest.map fun v => v.category).sum ≤ 8) (hdg : decode cc pc = .ok (.invokestatic index, 3))
    (ht : ∀ x ∈ c.exceptionTable.toList, False) (hlocks : meth.locks = false) : W p l e R s m args below meth c s.heap [] 0 0 (vx_MQ below QF (xE E0) args s 1 6 (fun _ => False)) (F0 m pc ls st0) :=
  kSX hC hM hm hW hX hH hG hrc hrs hd hR hf hls hst hr8 hdg (fun ce q9 H1 hz hk hce hcv hcl => outX ht hlocks hz hk hce hcv hcl)
theorem atIA : ∀ w ∈ (vx_atS RX0 37 eIA ["java/lang/RuntimeException", "java/lang/Exception"]).filter goodWord, w ∈ wsL_law := fun w hw => List.mem_append_left _ (List.mem_append_left _ (List.mem_append_right _ hw))
theorem atIS : ∀ w ∈ (vx_atS RX0 52 eIS ["java/lang/RuntimeException", "java/lang/Exception"]).filter goodWord, w ∈ wsL_law := fun w hw => List.mem_append_left _ (List.mem_append_right _ hw)
theorem atIO : ∀ w ∈ (vx_atS RX0 156 eIO ["java/lang/RuntimeException", "java/lang/Exception"]).filter goodWord, w ∈ wsL_law := fun w hw => List.mem_append_right _ hw
theorem noIA : ∀ w ∈ (vx_atS RX0 37 eIA ["java/lang/RuntimeException", "java/lang/Exception"]).filter (fun w => !goodWord w), w ∈ [Cond.castable eIA eIA, Cond.declares (Bundle.initS "java/lang/RuntimeException"), Cond.declares (Bundle.initS "java/lang/Exception"), Cond.declares (Bundle.initS Bundle.tN)] := by decide +kernel
theorem noIS : ∀ w ∈ (vx_atS RX0 52 eIS ["java/lang/RuntimeException", "java/lang/Exception"]).filter (fun w => !goodWord w), w ∈ [Cond.castable eIS eIS, Cond.declares (Bundle.initS "java/lang/RuntimeException"), Cond.declares (Bundle.initS "java/lang/Exception"), Cond.declares (Bundle.initS Bundle.tN)] := by decide +kernel
theorem noIO : ∀ w ∈ (vx_atS RX0 156 eIO ["java/lang/RuntimeException", "java/lang/Exception"]).filter (fun w => !goodWord w), w ∈ [Cond.castable eIO eIO, Cond.declares (Bundle.initS "java/lang/RuntimeException"), Cond.declares (Bundle.initS "java/lang/Exception"), Cond.declares (Bundle.initS Bundle.tN)] := by decide +kernel
theorem otIA : (Cond.classLink RX0 33 eIA :: Cond.initialized eIA :: vx_atS RX0 37 eIA ["java/lang/RuntimeException", "java/lang/Exception"]).all vx_ot = true := by decide +kernel
theorem otIS : (Cond.classLink RX0 48 eIS :: Cond.initialized eIS :: vx_atS RX0 52 eIS ["java/lang/RuntimeException", "java/lang/Exception"]).all vx_ot = true := by decide +kernel
theorem otIO : (Cond.classLink RX0 152 eIO :: Cond.initialized eIO :: vx_atS RX0 156 eIO ["java/lang/RuntimeException", "java/lang/Exception"]).all vx_ot = true := by decide +kernel
/-- 'throw new E(text)' -/
theorem thr {ik ic is : Nat} {text : String} (hE : E0 ∈ eXs) (hC : CallFix p m c cc nL s args wsL_law RX0) (hl9 : l.stackTraces = false) (hX : ZX s) (hH : ZH (fun _ => False) s s.heap) (hw1 : Cond.classLink RX0 ik E0 ∈ wsL_law) (hw2 : Cond.initialized E0 ∈ wsL_law) (hw3 : ∀ w ∈ (vx_atS RX0 ic E0 ["java/lang/RuntimeException", "java/lang/Exception"]).filter goodWord, w ∈ wsL_law) (hw4 : ∀ w ∈ (vx_atS RX0 ic E0 ["java/lang/RuntimeException", "java/lang/Exception"]).filter (fun w => !goodWord w), w ∈ [Cond.castable E0 E0, Cond.declares (Bundle.initS "java/lang/RuntimeException"), Cond.declares (Bundle.initS "java/lang/Exception"), Cond.declares (Bundle.initS Bundle.tN)]) (hw5 : (Cond.classLink RX0 ik E0 :: Cond.initialized E0 :: vx_atS RX0 ic E0 ["java/lang/RuntimeException", "java/lang/Exception"]).all vx_ot = true) (hf1 : Bundle.fit E0 = true)
    (htx : (is, text) ∈ txs) (hls : ls.size = nL) (ht : ∀ x ∈ c.exceptionTable.toList, False) (hlocks : meth.locks = false) (hR : 5 < R.frames ∧ 82 ≤ R.locals ∧ 0 + 1 ≤ R.cells ∧ 0 + 6 ≤ R.slots)
    (d0 : decode cc pc = .ok (.new ik, 3)) (d3 : decode cc (pc + 3) = .ok (.dup, 1)) (d4 : decode cc (pc + 4) = .ok (.ldc is, 2)) (d6 : decode cc (pc + 6) = .ok (.invokespecial ic, 3)) (d9 : decode cc (pc + 9) = .ok (.athrow, 1)) :
    W p l e R s m args below meth c s.heap [] 0 0 (vx_MQ below QF (xE E0) args s 1 6 (fun _ => False)) (F0 m pc ls []) := by
  obtain ⟨hx, hb, hml, ho, hts⟩ := hC
  obtain ⟨sa, hstr⟩ := hX.1 _ htx
  have hcs : ∀ w ∈ [Cond.castable E0 E0, Cond.declares (Bundle.initS "java/lang/RuntimeException"), Cond.declares (Bundle.initS "java/lang/Exception"), Cond.declares (Bundle.initS Bundle.tN)], w.before args s = true := vx_c (va_Nw.use rfl (hX.2.1 E0 hE)) (vx_c (va_Nw.use rfl (hX.2.2.2 _ (by decide))) (vx_c (va_Nw.use rfl (hX.2.2.2 _ (by decide))) (vx_c (va_Nw.use rfl (hX.2.2.2 _ (by decide))) vx_n)))
  exact vx_throwS (A := fun _ => False) hx hb hl9 ho hf1 (by decide) (hts _ hw1) (hts _ hw2) hstr (vx_hat (fun w hw => hts w (hw3 w hw)) hw4 hcs) (fun w hw => List.all_eq_true.mp hw5 w hw) hH.1 hH.2 va_S.rf (hls.trans hml.symm)
    d0 d3 d4 d6 d9 (fun x hx => (ht x hx).elim) hR.1 (by show 0 + 82 ≤ R.locals; omega) hR.2.2.1 hR.2.2.2 hlocks (fun t _ h2 h3 => ⟨rfl, h2, fun q h4 _ => h3 q h4⟩) (fun z hz => nomatch hz) (by decide) (by decide)
theorem thrIA {is : Nat} {text : String} (hC : CallFix p m c cc nL s args wsL_law RX0) (hl9 : l.stackTraces = false) (hX : ZX s) (hH : ZH (fun _ => False) s s.heap) (htx : (is, text) ∈ txs) (hls : ls.size = nL) (ht : ∀ x ∈ c.exceptionTable.toList, False) (hlocks : meth.locks = false) (hR : 5 < R.frames ∧ 82 ≤ R.locals ∧ 0 + 1 ≤ R.cells ∧ 0 + 6 ≤ R.slots)
    (d0 : decode cc pc = .ok (.new 33, 3)) (d3 : decode cc (pc + 3) = .ok (.dup, 1)) (d4 : decode cc (pc + 4) = .ok (.ldc is, 2)) (d6 : decode cc (pc + 6) = .ok (.invokespecial 37, 3)) (d9 : decode cc (pc + 9) = .ok (.athrow, 1)) :
    W p l e R s m args below meth c s.heap [] 0 0 (vx_MQ below QF (xE eIA) args s 1 6 (fun _ => False)) (F0 m pc ls []) :=
  thr (by decide) hC hl9 hX hH (List.mem_of_getElem? (i := 41) (by decide +kernel)) (List.mem_of_getElem? (i := 42) (by decide +kernel)) atIA noIA otIA (by decide) htx hls ht hlocks hR d0 d3 d4 d6 d9
theorem thrIS {is : Nat} {text : String} (hC : CallFix p m c cc nL s args wsL_law RX0) (hl9 : l.stackTraces = false) (hX : ZX s) (hH : ZH (fun _ => False) s s.heap) (htx : (is, text) ∈ txs) (hls : ls.size = nL) (ht : ∀ x ∈ c.exceptionTable.toList, False) (hlocks : meth.locks = false) (hR : 5 < R.frames ∧ 82 ≤ R.locals ∧ 0 + 1 ≤ R.cells ∧ 0 + 6 ≤ R.slots)
    (d0 : decode cc pc = .ok (.new 48, 3)) (d3 : decode cc (pc + 3) = .ok (.dup, 1)) (d4 : decode cc (pc + 4) = .ok (.ldc is, 2)) (d6 : decode cc (pc + 6) = .ok (.invokespecial 52, 3)) (d9 : decode cc (pc + 9) = .ok (.athrow, 1)) :
    W p l e R s m args below meth c s.heap [] 0 0 (vx_MQ below QF (xE eIS) args s 1 6 (fun _ => False)) (F0 m pc ls []) :=
  thr (by decide) hC hl9 hX hH (List.mem_of_getElem? (i := 43) (by decide +kernel)) (List.mem_of_getElem? (i := 44) (by decide +kernel)) atIS noIS otIS (by decide) htx hls ht hlocks hR d0 d3 d4 d6 d9
theorem thrIO {is : Nat} {text : String} (hC : CallFix p m c cc nL s args wsL_law RX0) (hl9 : l.stackTraces = false) (hX : ZX s) (hH : ZH (fun _ => False) s s.heap) (htx : (is, text) ∈ txs) (hls : ls.size = nL) (ht : ∀ x ∈ c.exceptionTable.toList, False) (hlocks : meth.locks = false) (hR : 5 < R.frames ∧ 82 ≤ R.locals ∧ 0 + 1 ≤ R.cells ∧ 0 + 6 ≤ R.slots)
    (d0 : decode cc pc = .ok (.new 152, 3)) (d3 : decode cc (pc + 3) = .ok (.dup, 1)) (d4 : decode cc (pc + 4) = .ok (.ldc is, 2)) (d6 : decode cc (pc + 6) = .ok (.invokespecial 156, 3)) (d9 : decode cc (pc + 9) = .ok (.athrow, 1)) :
    W p l e R s m args below meth c s.heap [] 0 0 (vx_MQ below QF (xE eIO) args s 1 6 (fun _ => False)) (F0 m pc ls []) :=
  thr (by decide) hC hl9 hX hH (List.mem_of_getElem? (i := 93) (by decide +kernel)) (List.mem_of_getElem? (i := 94) (by decide +kernel)) atIO noIO otIO (by decide) htx hls ht hlocks hR d0 d3 d4 d6 d9
end BX

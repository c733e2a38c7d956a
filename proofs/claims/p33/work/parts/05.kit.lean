/-! ===== my own words for the two objects' cells, and one row an instruction over them ===== -/
/-- what an object holds: row k, place j -/
abbrev bS : Type := Nat → Nat → Int32
def up2 (S : bS) (k j : Nat) (v : Int32) : bS := fun k' => if k' = k then upd (S k') j v else S k'
/-- BellHush: rows 0 loudness, 1 period, 2 silence, 3 untilStroke, 4 strokes, 5 purse, 6 the numbers second, towerCount, traderCount, 7 + r what trader r holds; a 13 is the object -/
abbrev vwB (cI cQ : ClassId) (a : Nat → Nat) (S : bS) : va_W := [(a 13, .inr (0, [.ref (a 0), .ref (a 1), .ref (a 2), .ref (a 3), .ref (a 4), .ref (a 5), .ref (a 6), .int (S 6 0), .int (S 6 1), .int (S 6 2)])), (a 0, .inl (cI, 8, .inl (S 0))), (a 1, .inl (cI, 8, .inl (S 1))), (a 2, .inl (cI, 8, .inl (S 2))), (a 3, .inl (cI, 8, .inl (S 3))), (a 4, .inl (cI, 8, .inl (S 4))), (a 5, .inl (cI, 6, .inl (S 5))), (a 6, .inl (cQ, 6, .inr (.inr (.inr (.inr (fun i => if i < 6 then some (a (7 + i)) else none)))))), (a 7, .inl (cI, 8, .inl (S 7))), (a 8, .inl (cI, 8, .inl (S 8))), (a 9, .inl (cI, 8, .inl (S 9))), (a 10, .inl (cI, 8, .inl (S 10))), (a 11, .inl (cI, 8, .inl (S 11))), (a 12, .inl (cI, 8, .inl (S 12)))]
abbrev tyB (cI cQ : ClassId) : List (ClassId × FieldType) := [(cI, .int), (cQ, .array .int)]
def BW (D : va_G) (cI cQ : ClassId) (a : Nat → Nat) (S : bS) (U : State) (H : Heap) : Prop := va_K D vwCl (tyB cI cQ) U ∧ va_P D vwCl (vwB cI cQ a S) H ∧ ∀ i j : Nat, i < 14 → j < 14 → a i = a j → i = j
def inB (a : Nat → Nat) : Nat → Prop := fun q => ∃ k : Nat, k < 14 ∧ q = a k
theorem up2_eq (S : bS) (k j : Nat) (v : Int32) : up2 S k j v k j = v := by simp [up2, upd]
theorem up2_ne (S : bS) {k j k' j' : Nat} (v : Int32) (h : k' ≠ k ∨ j' ≠ j) : up2 S k j v k' j' = S k' j' := by
  unfold up2 upd
  by_cases h1 : k' = k
  · rcases h with h | h
    · exact absurd h1 h
    · rw [if_pos h1, if_neg h]
  · rw [if_neg h1]
theorem vwB_at {cI cQ : ClassId} {a : Nat → Nat} {S : bS} : ∀ (i : Nat) (q : Nat × va_E), (vwB cI cQ a S)[i]? = some q → i < 14 ∧ q.1 = a ((i + 13) % 14)
  | 0, q, h => by cases h; exact ⟨by decide, rfl⟩
  | 1, q, h => by cases h; exact ⟨by decide, rfl⟩
  | 2, q, h => by cases h; exact ⟨by decide, rfl⟩
  | 3, q, h => by cases h; exact ⟨by decide, rfl⟩
  | 4, q, h => by cases h; exact ⟨by decide, rfl⟩
  | 5, q, h => by cases h; exact ⟨by decide, rfl⟩
  | 6, q, h => by cases h; exact ⟨by decide, rfl⟩
  | 7, q, h => by cases h; exact ⟨by decide, rfl⟩
  | 8, q, h => by cases h; exact ⟨by decide, rfl⟩
  | 9, q, h => by cases h; exact ⟨by decide, rfl⟩
  | 10, q, h => by cases h; exact ⟨by decide, rfl⟩
  | 11, q, h => by cases h; exact ⟨by decide, rfl⟩
  | 12, q, h => by cases h; exact ⟨by decide, rfl⟩
  | 13, q, h => by cases h; exact ⟨by decide, rfl⟩
  | i + 14, q, h => by simp at h
theorem BW.D {D : va_G} {cI cQ : ClassId} {a : Nat → Nat} {S : bS} {U : State} {H : Heap} (h : BW D cI cQ a S U H) : va_D (inB a) (vwB cI cQ a S) := by
  refine ⟨fun i j p q hi hj hpq => ?_, fun k q hk => ?_⟩
  · obtain ⟨h1, h2⟩ := vwB_at i p hi
    obtain ⟨h3, h4⟩ := vwB_at j q hj
    have h5 := h.2.2 ((i + 13) % 14) ((j + 13) % 14) (Nat.mod_lt _ (by decide)) (Nat.mod_lt _ (by decide)) (by rw [← h2, ← h4]; exact hpq)
    omega
  · obtain ⟨h1, h2⟩ := vwB_at k q hk
    exact ⟨_, Nat.mod_lt _ (by decide), h2⟩
theorem vwB_row {cI cQ : ClassId} {a : Nat → Nat} {S : bS} : ∀ r : Nat, r < 6 → (vwB cI cQ a S)[8 + r]? = some (a (7 + r), .inl (cI, 8, .inl (S (7 + r))))
  | 0, _ => rfl
  | 1, _ => rfl
  | 2, _ => rfl
  | 3, _ => rfl
  | 4, _ => rfl
  | 5, _ => rfl
  | r + 6, h => absurd h (by omega)
theorem vwB_setrow {cI cQ : ClassId} {a : Nat → Nat} {S : bS} {j : Nat} {x : Int32} : ∀ r : Nat, r < 6 → (vwB cI cQ a S).set (8 + r) (a (7 + r), .inl (cI, 8, .inl (upd (S (7 + r)) j x))) = vwB cI cQ a (up2 S (7 + r) j x)
  | 0, _ => rfl
  | 1, _ => rfl
  | 2, _ => rfl
  | 3, _ => rfl
  | 4, _ => rfl
  | 5, _ => rfl
  | r + 6, h => absurd h (by omega)
theorem BW.moved {D : va_G} {cI cQ : ClassId} {a : Nat → Nat} {S : bS} {u U : State} {H : Heap} (hvm : u.vm.Alike U.vm) (h : BW D cI cQ a S u H) : BW D cI cQ a S U H := ⟨va_K.moved hvm h.1, h.2⟩
theorem BW.kept {D : va_G} {cI cQ : ClassId} {a : Nat → Nat} {S : bS} {U : State} {H H1 : Heap} (h : BW D cI cQ a S U H) (hq : ∀ k : Nat, k < 14 → H1[a k]? = H[a k]?) : BW D cI cQ a S U H1 := ⟨h.1, h.2.1.kept (fun k q hk => by obtain ⟨-, h2⟩ := vwB_at k q hk; rw [h2]; exact hq _ (Nat.mod_lt _ (by decide))), h.2.2⟩
theorem BW.lt {D : va_G} {cI cQ : ClassId} {a : Nat → Nat} {S : bS} {U : State} {H : Heap} (h : BW D cI cQ a S U H) : ∀ k : Nat, k < 14 → a k < H.size := by
  intro k hk
  have hl : ((k + 1) % 14) < (vwB cI cQ a S).length := by show _ < 14; omega
  have h1 := h.2.1 ((k + 1) % 14) _ (List.getElem?_eq_getElem hl)
  have h2 := (vwB_at ((k + 1) % 14) _ (List.getElem?_eq_getElem hl)).2
  have h3 := h1.lt
  rw [h2, show ((k + 1) % 14 + 13) % 14 = k by omega] at h3
  exact h3
theorem nI_0' : (0 : Int32) = nI 0 := nI_0.symm
theorem nadd {x y : Int32} {i j : Nat} (hx : x = nI i) (hy : y = nI j) : x + y = nI (i + j) := by rw [hx, hy, nI_add]
theorem nmul {x y : Int32} {i j : Nat} (hx : x = nI i) (hy : y = nI j) : x * y = nI (i * j) := by rw [hx, hy, pk_mul]
theorem ninc (i : Nat) : nI i + Int32.ofInt 1 = nI (i + 1) := nI_1 i
theorem ncl {i : Nat} (h : i < 8) : (nI i).toNatClampNeg = i := nI_clamp (by omega)
theorem nin {i n : Nat} (h : i < n) (hn : n ≤ 71) : vp_in (nI i) n := vp_in_nI h (by omega)
theorem good_all : wsL_law.all goodWord = true := by decide +kernel
theorem good_in {ws : List Cond} (h : ∀ w ∈ ws, w ∈ wsL_law) : GoodIn wsL_law ws := fun w hw => ⟨h w hw, good_of_word (List.all_eq_true.mp good_all w (h w hw))⟩
/-- the words of a method: its own code, and all words -/
abbrev wq (y : MethodName) (bytes : ByteArray) (n : Nat) (ret : Option FieldType) : List Cond := .code y bytes n ret :: wsL_law
theorem good_V {own C : String} {idx n : Nat} {y : MethodName} {bytes : ByteArray} {ret : Option FieldType} (h1 : Cond.methodLink own idx y ∈ wsL_law) (h2 : Cond.instanceMethod y ∈ wsL_law) (h3 : Cond.selects C y y ∈ wsL_law) (h4 : Cond.initialized C ∈ wsL_law) (h5 : Cond.code y bytes n ret ∈ wsL_law) : GoodIn wsL_law (wsV own idx C y (wq y bytes n ret)) := by
  refine good_in fun w hw => ?_
  simp only [wsV, wq, List.cons_append, List.nil_append, List.mem_cons] at hw
  rcases hw with rfl | rfl | rfl | rfl | rfl | h
  · exact h1
  · exact h2
  · exact h3
  · exact h4
  · exact h5
  · exact h
theorem good_S {own : String} {idx n : Nat} {y : MethodName} {bytes : ByteArray} {ret : Option FieldType} (h1 : Cond.methodLink own idx y ∈ wsL_law) (h2 : Cond.static y ∈ wsL_law) (h4 : Cond.initialized y.cls ∈ wsL_law) (h5 : Cond.code y bytes n ret ∈ wsL_law) : GoodIn wsL_law (va_wsS own idx y (wq y bytes n ret)) := by
  refine good_in fun w hw => ?_
  simp only [va_wsS, wq, List.cons_append, List.nil_append, List.mem_cons] at hw
  rcases hw with rfl | rfl | rfl | rfl | h
  · exact h1
  · exact h2
  · exact h4
  · exact h5
  · exact h
/-- a method that returns v and changes nothing -/
def Rd (l : Launch) (y : MethodName) (bytes : ByteArray) (n : Nat) (ret : Option FieldType) (rm : Room) (Wd : State → Heap → Prop) (As : List Value) (v : Value) : Prop := Met l y (wq y bytes n ret) rm (va_Pc As (fun U => Wd U U.heap)) (k2_QcV v) 0 0 (fun _ => False)
/-- a method that returns nothing and changes nothing -/
def Rn (l : Launch) (y : MethodName) (bytes : ByteArray) (n : Nat) (ret : Option FieldType) (rm : Room) (Wd : State → Heap → Prop) (As : List Value) : Prop := Met l y (wq y bytes n ret) rm (va_Pc As (fun U => Wd U U.heap)) (va_Sv (fun _ => True)) 0 0 (fun _ => False)
/-- a method that returns v and leaves the world Wd', changing cells of A alone -/
def qW (v : Option Value) (Wd : State → Heap → Prop) (A : Nat → Prop) : Array Value → State → Outcome → State → Prop := fun _ st oc t => oc = .returned v ∧ Wd t t.heap ∧ va_F A st t
def Wr (l : Launch) (y : MethodName) (bytes : ByteArray) (n : Nat) (ret : Option FieldType) (rm : Room) (Wd Wd' : State → Heap → Prop) (A : Nat → Prop) (As : List Value) (v : Option Value) (mc ms : Nat) : Prop := Met l y (wq y bytes n ret) rm (va_Pc As (fun U => Wd U U.heap)) (qW v Wd' A) mc ms A
/-- a world that a table's warming doesn't change -/
def Mov (Wd : State → Heap → Prop) : Prop := ∀ (u U : State) (H : Heap), u.vm.Alike U.vm → Wd u H → Wd U H
theorem mov_B {D : va_G} {cI cQ : ClassId} {a : Nat → Nat} {S : bS} : Mov (BW D cI cQ a S) := fun _ _ _ hvm h => h.moved hvm
theorem mov_T : Mov (fun _ _ => True) := fun _ _ _ _ _ => trivial
theorem blind {Wd : State → Heap → Prop} {As : List Value} (hm : Mov Wd) : FrameBlind (va_Pc As (fun U => Wd U U.heap)) := fun a U g mk h => ⟨h.1, hm U (U.calling g mk a) U.heap (Vm.Alike.refl U.vm) h.2⟩
theorem Rd.of {l : Launch} {y : MethodName} {bytes : ByteArray} {n : Nat} {ret : Option FieldType} {rm : Room} {Wd : State → Heap → Prop} {As : List Value} {v : Value} (hy : plainName y.cls = true) (hn : (lg_sl As).length ≤ n)
    (body : ∀ (p : Program) (e : Env) (s : State) (m : MethodId) (args : Array Value) (below : List Frame) (meth : Method) (c : Code) (ls : Array Slot), CallFix p m c bytes n s args wsL_law y.cls → meth.sig.returnType = ret → meth.locks = false → Wd s s.heap → lv_has ls n (lv_args 0 As) →
      W p l e rm s m args below meth c s.heap [] 0 0 (MQ below (k2_QcV v) args s 0 0 (fun _ => False)) (F0 m 0 ls [])) : Rd l y bytes n ret rm Wd As v := by
  refine Met.ofW (cc := bytes) (maxL := n) (ret := ret) hy rfl ?_
  intro p e s m args below meth c s₁ B hml hv
  obtain ⟨rfl, hw⟩ := hv
  have hl := lv_entry As (n := n) hn
  rw [lg_entry_eq]
  exact body p e s m _ below meth c _ ⟨B.exec, B.bytes, hml, findClass_of_methodNamed B.named, fun w h => atoms_spec (ws := wq y bytes n ret) B.pre w (List.mem_cons_of_mem _ h)⟩ B.returns B.notSynchronized hw hl
theorem Rn.of {l : Launch} {y : MethodName} {bytes : ByteArray} {n : Nat} {ret : Option FieldType} {rm : Room} {Wd : State → Heap → Prop} {As : List Value} (hy : plainName y.cls = true) (hn : (lg_sl As).length ≤ n)
    (body : ∀ (p : Program) (e : Env) (s : State) (m : MethodId) (args : Array Value) (below : List Frame) (meth : Method) (c : Code) (ls : Array Slot), CallFix p m c bytes n s args wsL_law y.cls → meth.sig.returnType = ret → meth.locks = false → Wd s s.heap → lv_has ls n (lv_args 0 As) →
      W p l e rm s m args below meth c s.heap [] 0 0 (MQ below (va_Sv (fun _ => True)) args s 0 0 (fun _ => False)) (F0 m 0 ls [])) : Rn l y bytes n ret rm Wd As := by
  refine Met.ofW (cc := bytes) (maxL := n) (ret := ret) hy rfl ?_
  intro p e s m args below meth c s₁ B hml hv
  obtain ⟨rfl, hw⟩ := hv
  have hl := lv_entry As (n := n) hn
  rw [lg_entry_eq]
  exact body p e s m _ below meth c _ ⟨B.exec, B.bytes, hml, findClass_of_methodNamed B.named, fun w h => atoms_spec (ws := wq y bytes n ret) B.pre w (List.mem_cons_of_mem _ h)⟩ B.returns B.notSynchronized hw hl
theorem Wr.of {l : Launch} {y : MethodName} {bytes : ByteArray} {n : Nat} {ret : Option FieldType} {rm : Room} {Wd Wd' : State → Heap → Prop} {A : Nat → Prop} {As : List Value} {v : Option Value} {mc ms : Nat} (hy : plainName y.cls = true) (hn : (lg_sl As).length ≤ n)
    (body : ∀ (p : Program) (e : Env) (s : State) (m : MethodId) (args : Array Value) (below : List Frame) (meth : Method) (c : Code) (ls : Array Slot), CallFix p m c bytes n s args wsL_law y.cls → meth.sig.returnType = ret → meth.locks = false → Wd s s.heap → va_S A s.heap s.heap [] → lv_has ls n (lv_args 0 As) →
      W p l e rm s m args below meth c s.heap [] 0 0 (MQ below (qW v Wd' A) args s mc ms A) (F0 m 0 ls [])) : Wr l y bytes n ret rm Wd Wd' A As v mc ms := by
  refine Met.ofW (cc := bytes) (maxL := n) (ret := ret) hy rfl ?_
  intro p e s m args below meth c s₁ B hml hv
  obtain ⟨rfl, hw⟩ := hv
  have hl := lv_entry As (n := n) hn
  rw [lg_entry_eq]
  exact body p e s m _ below meth c _ ⟨B.exec, B.bytes, hml, findClass_of_methodNamed B.named, fun w h => atoms_spec (ws := wq y bytes n ret) B.pre w (List.mem_cons_of_mem _ h)⟩ B.returns B.notSynchronized hw va_S.rf hl
section BK
variable {p : Program} {l : Launch} {e : Env} {R : Room} {s : State} {m : MethodId} {args : Array Value} {below : List Frame} {meth : Method} {c : Code} {H : Heap} {locs : List Loc} {cells slots : Nat} {Q : State → Prop}
variable {cc bytes : ByteArray} {pc nL n index : Nat} {ls : Array Slot} {rest st0 : List Value} {y : MethodName} {ret : Option FieldType} {rm : Room} {own C : String} {As : List Value} {b0 : Nat} {A A0 : Nat → Prop} {H0 : Heap}
/-- a call of a method of an object that changes nothing -/
theorem kV {Wd : State → Heap → Prop} {v : Value} (hC : CallFix p m c cc nL s args wsL_law own) (hM : Rd l y bytes n ret rm Wd (.ref b0 :: As) v) (hm : Mov Wd) (hW : Wd s H) (hrec : ∃ cell : Cell, H[b0]? = some cell ∧ cell.vm.isStatics = false ∧ s.vm.findClass C = some cell.cls) (hG : GoodIn wsL_law (wsV own index C y (wq y bytes n ret))) (hrc : rm.cells = 0) (hrs : rm.slots = 0)
    (hd : y.cls = C ∧ y.cls ≠ "java/lang/invoke/MethodHandle" ∧ y.cls ≠ "java/lang/invoke/VarHandle" ∧ (parseMethodDescriptor y.desc).map (fun d => d.parameters.length) = some As.length) (hR : rm.frames + 1 ≤ R.frames ∧ 8 + (n + 11) + rm.locals ≤ R.locals) (hf : cells ≤ R.cells ∧ slots ≤ R.slots) (hls : ls.size = nL) (hst : st0 = As.reverse ++ .ref b0 :: rest) (hr8 : (rest.map fun v => v.category).sum ≤ 8) (hdg : decode cc pc = .ok (.invokevirtual index, 3))
    (kk : W p l e R s m args below meth c H locs cells slots Q (F0 m (pc + 3) ls (v :: rest))) : W p l e R s m args below meth c H locs cells slots Q (F0 m pc ls st0) :=
  W.callV (W.runV (As := As) (rest := rest) hC hM (cwV As.length hC.2.2.2.2 hG rfl hrc hrs hd hR) ⟨blind hm, hrec, fun U hU hW1 => ⟨rfl, by show Wd U U.heap; rw [hU]; exact hm s U H hW1.alike hW⟩⟩ rfl rfl hls hst (lv_room hr8) hdg hf) kk
theorem kS {Wd : State → Heap → Prop} {v : Value} (hC : CallFix p m c cc nL s args wsL_law own) (hM : Rd l y bytes n ret rm Wd As v) (hm : Mov Wd) (hW : Wd s H) (hG : GoodIn wsL_law (va_wsS own index y (wq y bytes n ret))) (hrc : rm.cells = 0) (hrs : rm.slots = 0)
    (hd : y.cls ≠ "java/lang/invoke/MethodHandle" ∧ y.cls ≠ "java/lang/invoke/VarHandle" ∧ (parseMethodDescriptor y.desc).map (fun d => d.parameters.length) = some As.length) (hR : rm.frames + 1 ≤ R.frames ∧ 8 + (n + 11) + rm.locals ≤ R.locals) (hf : cells ≤ R.cells ∧ slots ≤ R.slots) (hls : ls.size = nL) (hst : st0 = As.reverse ++ rest) (hr8 : (rest.map fun v => v.category).sum ≤ 8) (hdg : decode cc pc = .ok (.invokestatic index, 3))
    (kk : W p l e R s m args below meth c H locs cells slots Q (F0 m (pc + 3) ls (v :: rest))) : W p l e R s m args below meth c H locs cells slots Q (F0 m pc ls st0) :=
  W.callV (W.runS (As := As) (rest := rest) hC hM (va_cwS As.length hC.2.2.2.2 hG rfl hrc hrs hd hR) ⟨blind hm, fun U hU hW1 => ⟨rfl, by show Wd U U.heap; rw [hU]; exact hm s U H hW1.alike hW⟩⟩ rfl rfl hls hst (lv_room hr8) hdg hf) kk
theorem kVn {Wd : State → Heap → Prop} (hC : CallFix p m c cc nL s args wsL_law own) (hM : Rn l y bytes n ret rm Wd (.ref b0 :: As)) (hm : Mov Wd) (hW : Wd s H) (hrec : ∃ cell : Cell, H[b0]? = some cell ∧ cell.vm.isStatics = false ∧ s.vm.findClass C = some cell.cls) (hG : GoodIn wsL_law (wsV own index C y (wq y bytes n ret))) (hrc : rm.cells = 0) (hrs : rm.slots = 0)
    (hd : y.cls = C ∧ y.cls ≠ "java/lang/invoke/MethodHandle" ∧ y.cls ≠ "java/lang/invoke/VarHandle" ∧ (parseMethodDescriptor y.desc).map (fun d => d.parameters.length) = some As.length) (hR : rm.frames + 1 ≤ R.frames ∧ 8 + (n + 11) + rm.locals ≤ R.locals) (hf : cells ≤ R.cells ∧ slots ≤ R.slots) (hls : ls.size = nL) (hst : st0 = As.reverse ++ .ref b0 :: rest) (hr8 : (rest.map fun v => v.category).sum ≤ 8) (hdg : decode cc pc = .ok (.invokevirtual index, 3))
    (kk : W p l e R s m args below meth c H locs cells slots Q (F0 m (pc + 3) ls rest)) : W p l e R s m args below meth c H locs cells slots Q (F0 m pc ls st0) :=
  va_csv (W.runV (As := As) (rest := rest) hC hM (cwV As.length hC.2.2.2.2 hG rfl hrc hrs hd hR) ⟨blind hm, hrec, fun U hU hW1 => ⟨rfl, by show Wd U U.heap; rw [hU]; exact hm s U H hW1.alike hW⟩⟩ rfl rfl hls hst (lv_room hr8) hdg hf) (fun _ => kk)
theorem kSn {Wd : State → Heap → Prop} (hC : CallFix p m c cc nL s args wsL_law own) (hM : Rn l y bytes n ret rm Wd As) (hm : Mov Wd) (hW : Wd s H) (hG : GoodIn wsL_law (va_wsS own index y (wq y bytes n ret))) (hrc : rm.cells = 0) (hrs : rm.slots = 0)
    (hd : y.cls ≠ "java/lang/invoke/MethodHandle" ∧ y.cls ≠ "java/lang/invoke/VarHandle" ∧ (parseMethodDescriptor y.desc).map (fun d => d.parameters.length) = some As.length) (hR : rm.frames + 1 ≤ R.frames ∧ 8 + (n + 11) + rm.locals ≤ R.locals) (hf : cells ≤ R.cells ∧ slots ≤ R.slots) (hls : ls.size = nL) (hst : st0 = As.reverse ++ rest) (hr8 : (rest.map fun v => v.category).sum ≤ 8) (hdg : decode cc pc = .ok (.invokestatic index, 3))
    (kk : W p l e R s m args below meth c H locs cells slots Q (F0 m (pc + 3) ls rest)) : W p l e R s m args below meth c H locs cells slots Q (F0 m pc ls st0) :=
  va_csv (W.runS (As := As) (rest := rest) hC hM (va_cwS As.length hC.2.2.2.2 hG rfl hrc hrs hd hR) ⟨blind hm, fun U hU hW1 => ⟨rfl, by show Wd U U.heap; rw [hU]; exact hm s U H hW1.alike hW⟩⟩ rfl rfl hls hst (lv_room hr8) hdg hf) (fun _ => kk)
/-- a call of a method of an object that may change its cells -/
theorem kVw {Wd Wd' : State → Heap → Prop} {v : Option Value} {mc ms : Nat} (hC : CallFix p m c cc nL s args wsL_law own) (hM : Wr l y bytes n ret rm Wd Wd' A (.ref b0 :: As) v mc ms) (hm : Mov Wd) (hm' : Mov Wd') (hW : Wd s H) (hrec : ∃ cell : Cell, H[b0]? = some cell ∧ cell.vm.isStatics = false ∧ s.vm.findClass C = some cell.cls) (hG : GoodIn wsL_law (wsV own index C y (wq y bytes n ret))) (hrc : rm.cells = mc) (hrs : rm.slots = ms)
    (hd : y.cls = C ∧ y.cls ≠ "java/lang/invoke/MethodHandle" ∧ y.cls ≠ "java/lang/invoke/VarHandle" ∧ (parseMethodDescriptor y.desc).map (fun d => d.parameters.length) = some As.length) (hR : rm.frames + 1 ≤ R.frames ∧ 8 + (n + 11) + rm.locals ≤ R.locals) (hf : cells + mc ≤ R.cells ∧ slots + ms ≤ R.slots) (hS : va_S A0 H0 H locs) (hA : ∀ q, A q → A0 q) (hls : ls.size = nL) (hst : st0 = As.reverse ++ .ref b0 :: rest) (hr8 : (rest.map fun v => v.category).sum ≤ 8) (hdg : decode cc pc = .ok (.invokevirtual index, 3))
    (kk : ∀ (H1 : Heap) (locs1 : List Loc), Wd' s H1 → va_S A0 H0 H1 locs1 → H.size ≤ H1.size → (∀ q : Nat, q < H.size → ¬ A q → H1[q]? = H[q]?) → W p l e R s m args below meth c H1 locs1 (cells + mc) (slots + ms) Q (F0 m (pc + 3) ls (v.toList ++ rest))) : W p l e R s m args below meth c H locs cells slots Q (F0 m pc ls st0) := by
  have hr := va_runV (e := e) (As := As) (rest := rest) (locs := locs) (cells := cells) (slots := slots) (below := below) (meth := meth) hC hM (cwV As.length hC.2.2.2.2 hG rfl hrc hrs hd hR) ⟨blind hm, hrec, fun U hU hW1 => ⟨rfl, by show Wd U U.heap; rw [hU]; exact hm s U H hW1.alike hW⟩⟩ (g := F0 m pc ls st0) rfl rfl hls hst (lv_room hr8) hdg hf
  intro T hT X
  obtain ⟨v', st₀, t, T', L, h0, X', hL, e1, e2, ⟨hv, hb, hz, hk⟩, st⟩ := hr T hT X
  cases hv
  rw [h0] at hz hk
  obtain ⟨t2, a1, b1⟩ := kk T'.heap (locs ++ L) (by rw [e1]; exact hm' t s t.heap (by rw [← e2]; exact X'.warmed.alike.symm) hb)
    ⟨Nat.le_trans hS.1 (by rw [e1]; exact hz), fun q h1 h2 => by rw [e1, hk q (Nat.lt_of_lt_of_le h1 hS.1) (fun z => h2 (hA q z))]; exact hS.2.1 q h1 h2, fun q hq => by
      rcases List.mem_append.mp hq with h | h
      · exact hS.2.2 q h
      · exact hA _ (hL q h)⟩ (by rw [e1]; exact hz) (fun q h1 h2 => by rw [e1]; exact hk q h1 h2) T' rfl X'
  exact ⟨t2, st t2 a1, b1⟩
theorem rd_i {v v' : Int32} (hC : CallFix p m c cc nL s args wsL_law own) (hr : meth.sig.returnType = some .int) (hlocks : meth.locks = false) (hdg : decode cc pc = .ok (.ireturn, 1)) (hv : v' = v) : W p l e R s m args below meth c s.heap [] 0 0 (MQ below (k2_QcV (.int v)) args s 0 0 (fun _ => False)) (F0 m pc ls [.int v']) := by
  subst hv
  exact W.iret hC.1 hC.2.1 hr (fun t ht hW => ⟨rfl, ht⟩) (fun q hq => absurd hq List.not_mem_nil) hdg hlocks
theorem rd_z {v v' : Int32} (hC : CallFix p m c cc nL s args wsL_law own) (hr : meth.sig.returnType = some .boolean) (hlocks : meth.locks = false) (hn : narrow .boolean (.int v') = .int v') (hdg : decode cc pc = .ok (.ireturn, 1)) (hv : v' = v) : W p l e R s m args below meth c s.heap [] 0 0 (MQ below (k2_QcV (.int v)) args s 0 0 (fun _ => False)) (F0 m pc ls [.int v']) := by
  subst hv
  exact W.zret hC.1 hC.2.1 hr hn (fun t ht hW => ⟨rfl, ht⟩) (fun q hq => absurd hq List.not_mem_nil) hdg hlocks
theorem rd_l {v v' : Int64} (hC : CallFix p m c cc nL s args wsL_law own) (hr : meth.sig.returnType = some .long) (hlocks : meth.locks = false) (hdg : decode cc pc = .ok (.lreturn, 1)) (hv : v' = v) : W p l e R s m args below meth c s.heap [] 0 0 (MQ below (k2_QcV (.long v)) args s 0 0 (fun _ => False)) (F0 m pc ls [.long v']) := by
  subst hv
  exact W.lret hC.1 hC.2.1 hr (fun t ht hW => ⟨rfl, ht⟩) (fun q hq => absurd hq List.not_mem_nil) hdg hlocks
theorem rd_d {v v' : UInt64} (hC : CallFix p m c cc nL s args wsL_law own) (hr : meth.sig.returnType = some .double) (hlocks : meth.locks = false) (hdg : decode cc pc = .ok (.dreturn, 1)) (hv : v' = v) : W p l e R s m args below meth c s.heap [] 0 0 (MQ below (k2_QcV (.double v)) args s 0 0 (fun _ => False)) (F0 m pc ls [.double v']) := by
  subst hv
  exact W.dret hC.1 hC.2.1 hr (fun t ht hW => ⟨rfl, ht⟩) (fun q hq => absurd hq List.not_mem_nil) hdg hlocks
theorem rd_v (hC : CallFix p m c cc nL s args wsL_law own) (hr : meth.sig.returnType = none) (hlocks : meth.locks = false) (hdg : decode cc pc = .ok (.return_, 1)) : W p l e R s m args below meth c s.heap [] 0 0 (MQ below (va_Sv (fun _ => True)) args s 0 0 (fun _ => False)) (F0 m pc ls []) :=
  W.vret hC.1 hC.2.1 hr (fun t ht hW => ⟨rfl, trivial, ht⟩) (fun q hq => absurd hq List.not_mem_nil) hdg hlocks
theorem wr_i {Wd : State → Heap → Prop} {v v' : Int32} {mc ms : Nat} (hC : CallFix p m c cc nL s args wsL_law own) (hr : meth.sig.returnType = some .int) (hlocks : meth.locks = false) (hm : Mov Wd) (hW : Wd s H) (hS : va_S A s.heap H locs) (hdg : decode cc pc = .ok (.ireturn, 1)) (hv : v' = v) : W p l e R s m args below meth c H locs mc ms (MQ below (qW (some (.int v)) Wd A) args s mc ms A) (F0 m pc ls [.int v']) := by
  subst hv
  exact W.iret hC.1 hC.2.1 hr (fun t ht hW1 => ⟨rfl, by rw [ht]; exact hm s t H hW1.alike hW, hS.F ht⟩) hS.2.2 hdg hlocks
theorem wr_z {Wd : State → Heap → Prop} {v v' : Int32} {mc ms : Nat} (hC : CallFix p m c cc nL s args wsL_law own) (hr : meth.sig.returnType = some .boolean) (hlocks : meth.locks = false) (hm : Mov Wd) (hW : Wd s H) (hS : va_S A s.heap H locs) (hn : narrow .boolean (.int v') = .int v') (hdg : decode cc pc = .ok (.ireturn, 1)) (hv : v' = v) : W p l e R s m args below meth c H locs mc ms (MQ below (qW (some (.int v)) Wd A) args s mc ms A) (F0 m pc ls [.int v']) := by
  subst hv
  exact W.zret hC.1 hC.2.1 hr hn (fun t ht hW1 => ⟨rfl, by rw [ht]; exact hm s t H hW1.alike hW, hS.F ht⟩) hS.2.2 hdg hlocks
theorem wr_l {Wd : State → Heap → Prop} {v v' : Int64} {mc ms : Nat} (hC : CallFix p m c cc nL s args wsL_law own) (hr : meth.sig.returnType = some .long) (hlocks : meth.locks = false) (hm : Mov Wd) (hW : Wd s H) (hS : va_S A s.heap H locs) (hdg : decode cc pc = .ok (.lreturn, 1)) (hv : v' = v) : W p l e R s m args below meth c H locs mc ms (MQ below (qW (some (.long v)) Wd A) args s mc ms A) (F0 m pc ls [.long v']) := by
  subst hv
  exact W.lret hC.1 hC.2.1 hr (fun t ht hW1 => ⟨rfl, by rw [ht]; exact hm s t H hW1.alike hW, hS.F ht⟩) hS.2.2 hdg hlocks
theorem wr_d {Wd : State → Heap → Prop} {v v' : UInt64} {mc ms : Nat} (hC : CallFix p m c cc nL s args wsL_law own) (hr : meth.sig.returnType = some .double) (hlocks : meth.locks = false) (hm : Mov Wd) (hW : Wd s H) (hS : va_S A s.heap H locs) (hdg : decode cc pc = .ok (.dreturn, 1)) (hv : v' = v) : W p l e R s m args below meth c H locs mc ms (MQ below (qW (some (.double v)) Wd A) args s mc ms A) (F0 m pc ls [.double v']) := by
  subst hv
  exact W.dret hC.1 hC.2.1 hr (fun t ht hW1 => ⟨rfl, by rw [ht]; exact hm s t H hW1.alike hW, hS.F ht⟩) hS.2.2 hdg hlocks
theorem wr_v {Wd : State → Heap → Prop} {mc ms : Nat} (hC : CallFix p m c cc nL s args wsL_law own) (hr : meth.sig.returnType = none) (hlocks : meth.locks = false) (hm : Mov Wd) (hW : Wd s H) (hS : va_S A s.heap H locs) (hdg : decode cc pc = .ok (.return_, 1)) : W p l e R s m args below meth c H locs mc ms (MQ below (qW none Wd A) args s mc ms A) (F0 m pc ls []) :=
  W.vret hC.1 hC.2.1 hr (fun t ht hW1 => ⟨rfl, by rw [ht]; exact hm s t H hW1.alike hW, hS.F ht⟩) hS.2.2 hdg hlocks
/-- branches over numbers -/
theorem jge {i j : Nat} {x y : Int32} {off : Int} {tgt : Nat} (hC : CallFix p m c cc nL s args wsL_law own) (hdg : decode cc pc = .ok (.if_icmp .ge off, 3)) (ht : (pc : Int) + off = (tgt : Int)) (hx : x = nI i) (hy : y = nI j) (hi : i < 2 ^ 31) (hj : j < 2 ^ 31)
    (kt : j ≤ i → W p l e R s m args below meth c H locs cells slots Q (F0 m tgt ls rest)) (kf : i < j → W p l e R s m args below meth c H locs cells slots Q (F0 m (pc + 3) ls rest)) : W p l e R s m args below meth c H locs cells slots Q (F0 m pc ls (.int y :: .int x :: rest)) := by
  subst hx
  subst hy
  exact lv_icmp_ge hC.1 hC.2.1 hdg ht (fun h => kt ((nI_leI hj hi).mp h)) (fun h => kf (Nat.lt_of_not_le fun q => h ((nI_leI hj hi).mpr q)))
theorem jlt {i j : Nat} {x y : Int32} {off : Int} {tgt : Nat} (hC : CallFix p m c cc nL s args wsL_law own) (hdg : decode cc pc = .ok (.if_icmp .lt off, 3)) (ht : (pc : Int) + off = (tgt : Int)) (hx : x = nI i) (hy : y = nI j) (hi : i < 2 ^ 31) (hj : j < 2 ^ 31)
    (kt : i < j → W p l e R s m args below meth c H locs cells slots Q (F0 m tgt ls rest)) (kf : j ≤ i → W p l e R s m args below meth c H locs cells slots Q (F0 m (pc + 3) ls rest)) : W p l e R s m args below meth c H locs cells slots Q (F0 m pc ls (.int y :: .int x :: rest)) := by
  subst hx
  subst hy
  exact lv_icmp_lt hC.1 hC.2.1 hdg ht (fun h => kt ((nI_ltI hi hj).mp h)) (fun h => kf (Nat.le_of_not_lt fun q => h ((nI_ltI hi hj).mpr q)))
theorem jgt {i j : Nat} {x y : Int32} {off : Int} {tgt : Nat} (hC : CallFix p m c cc nL s args wsL_law own) (hdg : decode cc pc = .ok (.if_icmp .gt off, 3)) (ht : (pc : Int) + off = (tgt : Int)) (hx : x = nI i) (hy : y = nI j) (hi : i < 2 ^ 31) (hj : j < 2 ^ 31)
    (kt : j < i → W p l e R s m args below meth c H locs cells slots Q (F0 m tgt ls rest)) (kf : i ≤ j → W p l e R s m args below meth c H locs cells slots Q (F0 m (pc + 3) ls rest)) : W p l e R s m args below meth c H locs cells slots Q (F0 m pc ls (.int y :: .int x :: rest)) := by
  subst hx
  subst hy
  exact lv_icmp_gt hC.1 hC.2.1 hdg ht (fun h => kt ((nI_ltI hj hi).mp h)) (fun h => kf (Nat.le_of_not_lt fun q => h ((nI_ltI hj hi).mpr q)))
theorem jle {i j : Nat} {x y : Int32} {off : Int} {tgt : Nat} (hC : CallFix p m c cc nL s args wsL_law own) (hdg : decode cc pc = .ok (.if_icmp .le off, 3)) (ht : (pc : Int) + off = (tgt : Int)) (hx : x = nI i) (hy : y = nI j) (hi : i < 2 ^ 31) (hj : j < 2 ^ 31)
    (kt : i ≤ j → W p l e R s m args below meth c H locs cells slots Q (F0 m tgt ls rest)) (kf : j < i → W p l e R s m args below meth c H locs cells slots Q (F0 m (pc + 3) ls rest)) : W p l e R s m args below meth c H locs cells slots Q (F0 m pc ls (.int y :: .int x :: rest)) := by
  subst hx
  subst hy
  exact lv_icmp_le hC.1 hC.2.1 hdg ht (fun h => kt ((nI_leI hi hj).mp h)) (fun h => kf (Nat.lt_of_not_le fun q => h ((nI_leI hi hj).mpr q)))
theorem xadd {x y v : Int32} (hC : CallFix p m c cc nL s args wsL_law own) (hdg : decode cc pc = .ok (.iadd, 1)) (hv : x + y = v) (k : W p l e R s m args below meth c H locs cells slots Q (F0 m (pc + 1) ls (.int v :: rest))) : W p l e R s m args below meth c H locs cells slots Q (F0 m pc ls (.int y :: .int x :: rest)) := by
  subst hv
  exact lv_iadd hC.1 hC.2.1 hdg k
theorem xsub {x y v : Int32} (hC : CallFix p m c cc nL s args wsL_law own) (hdg : decode cc pc = .ok (.isub, 1)) (hv : x - y = v) (k : W p l e R s m args below meth c H locs cells slots Q (F0 m (pc + 1) ls (.int v :: rest))) : W p l e R s m args below meth c H locs cells slots Q (F0 m pc ls (.int y :: .int x :: rest)) := by
  subst hv
  exact lv_isub hC.1 hC.2.1 hdg k
theorem xmul {x y v : Int32} (hC : CallFix p m c cc nL s args wsL_law own) (hdg : decode cc pc = .ok (.imul, 1)) (hv : x * y = v) (k : W p l e R s m args below meth c H locs cells slots Q (F0 m (pc + 1) ls (.int v :: rest))) : W p l e R s m args below meth c H locs cells slots Q (F0 m pc ls (.int y :: .int x :: rest)) := by
  subst hv
  exact lv_imul hC.1 hC.2.1 hdg k
end BK
theorem rec_B {D : va_G} {cI cQ : ClassId} {a : Nat → Nat} {S : bS} {s : State} {H : Heap} (h : BW D cI cQ a S s H) : ∃ cell : Cell, H[a 13]? = some cell ∧ cell.vm.isStatics = false ∧ s.vm.findClass RX0 = some cell.cls := va_recv h.1 h.2.1 (ci := 0) (q0 := 0) rfl rfl
/-! ===== cells by number: Sim's own, the law's arrays ===== -/
def GW (D : va_G) (cI cQ : ClassId) (K : Nat) (b : Nat → Nat) (E : Nat → va_E) (U : State) (H : Heap) : Prop := va_K D vwCl (tyB cI cQ) U ∧ (∀ k : Nat, k < K → va_at D vwCl (b k, E k) H) ∧ ∀ i j : Nat, i < K → j < K → b i = b j → i = j
def inG (K : Nat) (b : Nat → Nat) : Nat → Prop := fun q => ∃ k : Nat, k < K ∧ q = b k
theorem at1 {D : va_G} {cl : List vw_C} {q : Nat × va_E} {H : Heap} (h : va_at D cl q H) : va_P D cl [q] H := fun k x hk => by
  match k, hk with
  | 0, hk => cases hk; exact h
  | k + 1, hk => simp at hk
theorem AOA_mv {s U : State} (hW : s.vm.Alike U.vm) (h : va_AOA .int s) : va_AOA .int U := by
  have h1 : (Cond.arrayOver (.array .int)).before #[] (s.setVm U.vm) = true := by rw [Cond.arrayOver_setVmC hW]; exact h
  exact h1
section GWs
variable {D : va_G} {cI cQ : ClassId} {K : Nat} {b : Nat → Nat} {E E' : Nat → va_E} {u U : State} {H H1 : Heap}
theorem GW.moved (hvm : u.vm.Alike U.vm) (h : GW D cI cQ K b E u H) : GW D cI cQ K b E U H := ⟨va_K.moved hvm h.1, h.2⟩
theorem GW.kept (h : GW D cI cQ K b E U H) (hq : ∀ k : Nat, k < K → H1[b k]? = H[b k]?) : GW D cI cQ K b E U H1 := ⟨h.1, fun k hk => va_at.kept (h.2.1 k hk) (hq k hk), h.2.2⟩
theorem GW.lt (h : GW D cI cQ K b E U H) : ∀ k : Nat, k < K → b k < H.size := fun k hk => va_at.lt (h.2.1 k hk)
theorem GW.cg (h : GW D cI cQ K b E U H) (e : ∀ k : Nat, k < K → E k = E' k) : GW D cI cQ K b E' U H := ⟨h.1, fun k hk => by rw [← e k hk]; exact h.2.1 k hk, h.2.2⟩
end GWs
abbrev eI (cI : ClassId) (n : Nat) (F : Nat → Int32) : va_E := .inl (cI, n, .inl F)
abbrev eQ (cQ : ClassId) (n : Nat) (f : Nat → Option Nat) : va_E := .inl (cQ, n, .inr (.inr (.inr (.inr f))))
def eU (E : Nat → va_E) (k : Nat) (x : va_E) : Nat → va_E := fun k' => if k' = k then x else E k'
theorem eU_self (E : Nat → va_E) (k : Nat) (x : va_E) : eU E k x k = x := if_pos rfl
theorem eU_ne (E : Nat → va_E) {k k' : Nat} (x : va_E) (h : k' ≠ k) : eU E k x k' = E k' := if_neg h
theorem GW.put {D : va_G} {cI cQ : ClassId} {K k : Nat} {b : Nat → Nat} {E : Nat → va_E} {U : State} {H H1 : Heap} {x : va_E} (h : GW D cI cQ K b E U H) (hk : k < K) (hx : va_at D vwCl (b k, x) H1) (oq : ∀ q : Nat, q ≠ b k → H1[q]? = H[q]?) : GW D cI cQ K b (eU E k x) U H1 := by
  refine ⟨h.1, fun k' hk' => ?_, h.2.2⟩
  by_cases e : k' = k
  · rw [e, eU_self]
    exact hx
  · rw [eU_ne _ _ e]
    exact va_at.kept (h.2.1 k' hk') (oq _ (fun z => e (h.2.2 k' k hk' hk z)))
section GR
variable {p : Program} {l : Launch} {e : Env} {R : Room} {s : State} {m : MethodId} {args : Array Value} {below : List Frame} {meth : Method} {c : Code} {H : Heap} {locs : List Loc} {cells slots : Nat} {Q : State → Prop}
variable {cc : ByteArray} {pc nL : Nat} {ls : Array Slot} {rest : List Value} {D : va_G} {cI cQ : ClassId} {b : Nat → Nat} {A0 : Nat → Prop} {H0 : Heap} {own : String} {K k n : Nat} {E : Nat → va_E} {F : Nat → Int32} {f : Nat → Option Nat} {x v : Int32}
theorem ldG (i : Nat) (hC : CallFix p m c cc nL s args wsL_law own) (hG : GW D cI cQ K b E s H) (hk : k < K) (hE : E k = eI cI n F) (hx : x = nI i) (hi : i < n) (hn : n ≤ 71) (hv : F i = v) (hdg : decode cc pc = .ok (.iaload, 1)) (kk : W p l e R s m args below meth c H locs cells slots Q (F0 m (pc + 1) ls (.int v :: rest))) : W p l e R s m args below meth c H locs cells slots Q (F0 m pc ls (.int x :: .ref (b k) :: rest)) := by
  subst hx
  subst hv
  have h1 := hG.2.1 k hk
  rw [hE] at h1
  refine va_iald hC.1 hC.2.1 hG.1 (at1 h1) 0 0 (f := F) rfl rfl (nin hi hn) hdg ?_
  rw [nI_clamp (by omega)]
  exact kk
theorem lnG (hC : CallFix p m c cc nL s args wsL_law own) (hG : GW D cI cQ K b E s H) (hk : k < K) (hE : E k = eI cI n F) (hdg : decode cc pc = .ok (.arraylength, 1)) (kk : W p l e R s m args below meth c H locs cells slots Q (F0 m (pc + 1) ls (.int (nI n) :: rest))) : W p l e R s m args below meth c H locs cells slots Q (F0 m pc ls (.ref (b k) :: rest)) := by
  have h1 := hG.2.1 k hk
  rw [hE] at h1
  exact va_alen hC.1 hC.2.1 hG.1 (at1 h1) 0 0 rfl rfl rfl hdg kk
theorem lqG (hC : CallFix p m c cc nL s args wsL_law own) (hG : GW D cI cQ K b E s H) (hk : k < K) (hE : E k = eQ cQ n f) (hdg : decode cc pc = .ok (.arraylength, 1)) (kk : W p l e R s m args below meth c H locs cells slots Q (F0 m (pc + 1) ls (.int (nI n) :: rest))) : W p l e R s m args below meth c H locs cells slots Q (F0 m pc ls (.ref (b k) :: rest)) := by
  have h1 := hG.2.1 k hk
  rw [hE] at h1
  exact va_alen hC.1 hC.2.1 hG.1 (at1 h1) 0 1 rfl rfl rfl hdg kk
theorem aaG (i : Nat) {q : Nat} (hC : CallFix p m c cc nL s args wsL_law own) (hG : GW D cI cQ K b E s H) (hk : k < K) (hE : E k = eQ cQ n f) (hx : x = nI i) (hi : i < n) (hn : n ≤ 71) (hv : f i = some q) (hdg : decode cc pc = .ok (.aaload, 1)) (kk : W p l e R s m args below meth c H locs cells slots Q (F0 m (pc + 1) ls (.ref q :: rest))) : W p l e R s m args below meth c H locs cells slots Q (F0 m pc ls (.int x :: .ref (b k) :: rest)) := by
  subst hx
  have h1 := hG.2.1 k hk
  rw [hE] at h1
  have hin : vp_in (nI i) n := nin hi hn
  have hlt : (nI i).toNatClampNeg < n := Nat.not_le.mp fun q => hin (Or.inr q)
  have e1 : va_rf (f i) = .ref q := by rw [hv]; rfl
  refine W.aald (v := .ref q) (ty := .array .int) hC.1 hC.2.1 h1 ((hG.1.2 1 _ rfl).1 n (fun j => va_rf (f j))) rfl (fun q => by cases q) (by show ¬ (nI i < 0 ∨ (arrV _ _ _).slots.size ≤ _); rw [arrV_size]; exact hin) (by show (arrV _ _ _).slots[_]? = _; rw [arrV_read _ _ hlt]; rw [nI_clamp (by omega)]; exact congrArg some e1) rfl rfl hdg kk
theorem stG (i : Nat) (hC : CallFix p m c cc nL s args wsL_law own) (hG : GW D cI cQ K b E s H) (hk : k < K) (hE : E k = eI cI n F) (hx : x = nI i) (hi : i < n) (hn : n ≤ 71) (hS : va_S A0 H0 H locs) (hA : A0 (b k)) (hdg : decode cc pc = .ok (.iastore, 1)) (kk : ∀ (H1 : Heap) (locs1 : List Loc), GW D cI cQ K b (eU E k (eI cI n (upd F i v))) s H1 → va_S A0 H0 H1 locs1 → H1.size = H.size → (∀ q : Nat, q ≠ b k → H1[q]? = H[q]?) → W p l e R s m args below meth c H1 locs1 cells slots Q (F0 m (pc + 1) ls rest)) : W p l e R s m args below meth c H locs cells slots Q (F0 m pc ls (.int v :: .int x :: .ref (b k) :: rest)) := by
  subst hx
  have h1 := hG.2.1 k hk
  rw [hE] at h1
  have hin : vp_in (nI i) n := nin hi hn
  refine W.iast hC.1 hC.2.1 h1 ((hG.1.2 0 _ rfl).1 n (fun j => .int (F j))) (fun q => by cases q) (by show ¬ (nI i < 0 ∨ (arrV _ _ _).slots.size ≤ _); rw [arrV_size]; exact hin) rfl rfl hdg fun H1 e z oq => ?_
  refine kk H1 _ (hG.put hk ?_ oq) (hS.put z oq hA) z oq
  show H1[b k]? = some (vp_cell _ _)
  rw [e]
  rw [vp_cell_i, vp_cell_i, arrV_store, nI_clamp (by omega)]
  refine congrArg some (congrArg (arrV cI n) (funext fun q => ?_))
  by_cases hq : q = i
  · subst hq
    simp [updV, upd]
  · simp [updV, upd, hq]
theorem ptG {g index : Nat} {fs : List Value} {w : Value} {ty : FieldType} (hC : CallFix p m c cc nL s args wsL_law own) (hG : GW D cI cQ K b E s H) (hk : k < K) (hE : E k = .inr (1, fs)) (hS : va_S A0 H0 H locs) (hA : A0 (b k)) (hg : g < 4) (hlink : Cond.fieldLink own index RX1 (TX1 g).2.1 (TX1 g).2.2.1 ∈ wsL_law) (hfin : (TX1 g).2.2.2 = false) (hown : ∀ x, s.fieldFound? (TX1 g).1 (TX1 g).2.1 (TX1 g).2.2.1 = some x → s.fieldFound? RX1 (TX1 g).2.1 (TX1 g).2.2.1 = some x) (hd : parseFieldDescriptor (TX1 g).2.2.1 = some ty) (hn : narrow ty w = w) (hfit : fits ty w = true) (hl : g < fs.length) (hdg : decode cc pc = .ok (.putfield index, 3))
    (kk : ∀ (H1 : Heap) (locs1 : List Loc), GW D cI cQ K b (eU E k (.inr (1, fs.set g w))) s H1 → va_S A0 H0 H1 locs1 → H1.size = H.size → (∀ q : Nat, q ≠ b k → H1[q]? = H[q]?) → W p l e R s m args below meth c H1 locs1 cells slots Q (F0 m (pc + 3) ls rest)) : W p l e R s m args below meth c H locs cells slots Q (F0 m pc ls (w :: .ref (b k) :: rest)) := by
  have h1 := hG.2.1 k hk
  rw [hE] at h1
  have hap := va_apart (own := own) hC.2.2.2.2 inlX1 tyX1 tyX1_ok nmX1 hG.1 (rfl : vwCl[1]? = some (RX1, TX1, 4))
  obtain ⟨r, g1, cell, q1, q2, q3, q4⟩ := h1
  have hr : r = (RX1, TX1, 4) := Option.some.inj (g1.symm.trans rfl)
  subst hr
  obtain ⟨hSl, hfc, kC, hkC, hkind⟩ := hG.1.1 1 _ rfl
  obtain ⟨cf, kf, fi, fo, hi, hsl⟩ := hSl g hg
  have hlay := hC.2.2.2.2 _ (inlX1 _ (u_in_lay hg))
  unfold u_lay at hlay
  rw [if_neg (by rw [hfin]; decide)] at hlay
  have hst := (u_facts hfc hkC (u_lays hC.2.2.2.2 inlX1 hg) hi).1
  have h6 := u_store hfc hkC hkind hlay hi hd hn hfit
  refine W.putK hC.1 hC.2.1 (f := fo) ⟨hC.2.2.2.1, hC.2.2.2.2 _ hlink, ⟨_, _, _, hown _ hi⟩, hst⟩ (by rw [q2]; exact h6) q1 q3 (by rw [hsl]; exact k2_hasslot (q4 g hg)) rfl rfl hdg fun H' e1 e2 e3 => ?_
  rw [hsl] at e1 ⊢
  exact kk H' _ (hG.put hk ⟨_, rfl, t_OB.to (V := updV (vp_V fs) g w) ⟨_, e1, q2, q3, t_set q4 hap hg w⟩ (fun j _ => vp_updV_set hl w j)⟩ e3) (hS.put e2 e3 hA) e2 e3
end GR
/-- Sim: b 0 the object, b 1 towers, b 2 purses, b 3 held, b (4 + r) what trader r holds, b (10 + t) tower t's row; rows of N: 5 purses, 6 the second, 7 + r held, 20 + t tower t -/
def sE (cI cQ : ClassId) (b : Nat → Nat) (N : bS) (T R : Nat) : Nat → va_E
  | 0 => .inr (1, [.int (N 6 0), .ref (b 1), .ref (b 2), .ref (b 3)])
  | 1 => eQ cQ T (fun i => if i < T then some (b (10 + i)) else none)
  | 2 => eI cI R (N 5)
  | 3 => eQ cQ 6 (fun i => if i < 6 then some (b (4 + i)) else none)
  | k + 4 => if k < 6 then eI cI 8 (N (7 + k)) else eI cI 5 (N (14 + k))
theorem sE_h {cI cQ : ClassId} {b : Nat → Nat} {N : bS} {T R r : Nat} (h : r < 6) : sE cI cQ b N T R (4 + r) = eI cI 8 (N (7 + r)) := by
  rw [Nat.add_comm 4 r]
  exact if_pos h
theorem sE_t {cI cQ : ClassId} {b : Nat → Nat} {N : bS} {T R t : Nat} : sE cI cQ b N T R (10 + t) = eI cI 5 (N (20 + t)) := by
  have e : sE cI cQ b N T R (6 + t + 4) = eI cI 5 (N (14 + (6 + t))) := if_neg (by omega)
  rw [show 10 + t = 6 + t + 4 by omega, e, show 14 + (6 + t) = 20 + t by omega]
theorem up2_row {S : bS} {k j k' : Nat} {v : Int32} (h : k' ≠ k) : up2 S k j v k' = S k' := if_neg h
theorem up2_at {S : bS} {k j : Nat} {v : Int32} : up2 S k j v k = upd (S k) j v := if_pos rfl
theorem sE_up {cI cQ : ClassId} {b : Nat → Nat} {N : bS} {T R k0 j : Nat} {v : Int32} : ∀ k : Nat, (k = 0 → k0 ≠ 6) → (k = 2 → k0 ≠ 5) → (∀ r, r < 6 → k = 4 + r → k0 ≠ 7 + r) → (∀ t, k = 10 + t → k0 ≠ 20 + t) → sE cI cQ b N T R k = sE cI cQ b (up2 N k0 j v) T R k
  | 0, h, _, _, _ => by
    show (Sum.inr (1, [.int (N 6 0), _, _, _]) : va_E) = Sum.inr (1, [.int (up2 N k0 j v 6 0), _, _, _])
    rw [up2_ne _ _ (Or.inl (fun z => h rfl z.symm))]
  | 1, _, _, _, _ => rfl
  | 2, _, h, _, _ => by
    show eI cI R (N 5) = eI cI R (up2 N k0 j v 5)
    rw [up2_row (fun z => h rfl z.symm)]
  | 3, _, _, _, _ => rfl
  | k + 4, _, _, h1, h2 => by
    show (if k < 6 then eI cI 8 (N (7 + k)) else eI cI 5 (N (14 + k))) = if k < 6 then eI cI 8 (up2 N k0 j v (7 + k)) else eI cI 5 (up2 N k0 j v (14 + k))
    by_cases c : k < 6
    · rw [if_pos c, if_pos c, up2_row (fun z => h1 k c (by omega) z.symm)]
    · rw [if_neg c, if_neg c, up2_row (fun z => h2 (k - 6) (by omega) (by omega))]
def SW (D : va_G) (cI cQ : ClassId) (b : Nat → Nat) (N : bS) (T R : Nat) (U : State) (H : Heap) : Prop := GW D cI cQ (10 + T) b (sE cI cQ b N T R) U H ∧ va_AOA .int U
theorem SW.moved {D : va_G} {cI cQ : ClassId} {b : Nat → Nat} {N : bS} {T R : Nat} {u U : State} {H : Heap} (hvm : u.vm.Alike U.vm) (h : SW D cI cQ b N T R u H) : SW D cI cQ b N T R U H := ⟨h.1.moved hvm, AOA_mv hvm h.2⟩
theorem SW.kept {D : va_G} {cI cQ : ClassId} {b : Nat → Nat} {N : bS} {T R : Nat} {U : State} {H H1 : Heap} (h : SW D cI cQ b N T R U H) (hq : ∀ k : Nat, k < 10 + T → H1[b k]? = H[b k]?) : SW D cI cQ b N T R U H1 := ⟨h.1.kept hq, h.2⟩
theorem mov_S {D : va_G} {cI cQ : ClassId} {b : Nat → Nat} {N : bS} {T R : Nat} : Mov (SW D cI cQ b N T R) := fun _ _ _ hvm h => h.moved hvm
theorem rec_S {D : va_G} {cI cQ : ClassId} {b : Nat → Nat} {N : bS} {T R : Nat} {s : State} {H : Heap} (h : SW D cI cQ b N T R s H) : ∃ cell : Cell, H[b 0]? = some cell ∧ cell.vm.isStatics = false ∧ s.vm.findClass RX1 = some cell.cls := va_recv h.1.1 (at1 (h.1.2.1 0 (by omega))) (ci := 1) (q0 := 0) rfl rfl
/-- the law's arrays: x 0 .. x 4 of n ints, x 5 the m rows x (6 + r) -/
def xE (cI cQ : ClassId) (x : Nat → Nat) (F : bS) (n m : Nat) : Nat → va_E := fun k => if k = 5 then eQ cQ m (fun i => if i < m then some (x (6 + i)) else none) else eI cI n (F k)
def XW (D : va_G) (cI cQ : ClassId) (x : Nat → Nat) (F : bS) (n m : Nat) (U : State) (H : Heap) : Prop := GW D cI cQ (6 + m) x (xE cI cQ x F n m) U H
theorem xE_5 {cI cQ : ClassId} {x : Nat → Nat} {F : bS} {n m : Nat} : xE cI cQ x F n m 5 = eQ cQ m (fun i => if i < m then some (x (6 + i)) else none) := if_pos rfl
theorem xE_n {cI cQ : ClassId} {x : Nat → Nat} {F : bS} {n m k : Nat} (h : k ≠ 5) : xE cI cQ x F n m k = eI cI n (F k) := if_neg h
theorem xE_up {cI cQ : ClassId} {x : Nat → Nat} {F : bS} {n m k j : Nat} {v : Int32} (h : k ≠ 5) (k' : Nat) : eU (xE cI cQ x F n m) k (eI cI n (upd (F k) j v)) k' = xE cI cQ x (up2 F k j v) n m k' := by
  by_cases e : k' = k
  · rw [e, eU_self, xE_n h, up2_at]
  · rw [eU_ne _ _ e]
    by_cases e2 : k' = 5
    · rw [e2, xE_5, xE_5]
    · rw [xE_n e2, xE_n e2, up2_row e]
theorem XW.moved {D : va_G} {cI cQ : ClassId} {x : Nat → Nat} {F : bS} {n m : Nat} {u U : State} {H : Heap} (hvm : u.vm.Alike U.vm) (h : XW D cI cQ x F n m u H) : XW D cI cQ x F n m U H := GW.moved hvm h

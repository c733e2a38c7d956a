/-! ===== my own words for the two objects' cells, and one row an instruction over them ===== -/
/-- what an object holds: row k, place j -/
abbrev bS : Type := Nat → Nat → Int32
def up2 (S : bS) (k j : Nat) (v : Int32) : bS := fun k' => if k' = k then upd (S k') j v else S k'
/-- BellHush: rows 0 loudness, 1 period, 2 silence, 3 untilStroke, 4 strokes, 5 purse, 6 the numbers second, towerCount, traderCount, 7 + r what trader r holds; a 13 is the object -/
abbrev vwB (cI cQ : ClassId) (a : Nat → Nat) (S : bS) : va_W := [(a 13, .inr (0, [.ref (a 0), .ref (a 1), .ref (a 2), .ref (a 3), .ref (a 4), .ref (a 5), .ref (a 6), .int (S 6 0), .int (S 6 1), .int (S 6 2)])), (a 0, .inl (cI, 8, .inl (S 0))), (a 1, .inl (cI, 8, .inl (S 1))), (a 2, .inl (cI, 8, .inl (S 2))), (a 3, .inl (cI, 8, .inl (S 3))), (a 4, .inl (cI, 8, .inl (S 4))), (a 5, .inl (cI, 6, .inl (S 5))), (a 6, .inl (cQ, 6, .inr (.inr (.inr (.inr (fun i => if i < 6 then some (a (7 + i)) else none)))))), (a 7, .inl (cI, 8, .inl (S 7))), (a 8, .inl (cI, 8, .inl (S 8))), (a 9, .inl (cI, 8, .inl (S 9))), (a 10, .inl (cI, 8, .inl (S 10))), (a 11, .inl (cI, 8, .inl (S 11))), (a 12, .inl (cI, 8, .inl (S 12)))]
/-- BellHushModel: rows 0 loud, 1 period, 2 beat, 3 now, 4 kept, 5 the numbers thrown, towers, traders; b 5 is the object -/
abbrev vwM (cI : ClassId) (b : Nat → Nat) (N : bS) : va_W := [(b 5, .inr (1, [.int (N 5 0), .int (N 5 1), .int (N 5 2), .ref (b 0), .ref (b 1), .ref (b 2), .ref (b 3), .ref (b 4)])), (b 0, .inl (cI, 8, .inl (N 0))), (b 1, .inl (cI, 8, .inl (N 1))), (b 2, .inl (cI, 8, .inl (N 2))), (b 3, .inl (cI, 71, .inl (N 3))), (b 4, .inl (cI, 71, .inl (N 4)))]
abbrev tyB (cI cQ : ClassId) : List (ClassId × FieldType) := [(cI, .int), (cQ, .array .int)]
def BW (D : va_G) (cI cQ : ClassId) (a : Nat → Nat) (S : bS) (U : State) (H : Heap) : Prop := va_K D vwCl (tyB cI cQ) U ∧ va_P D vwCl (vwB cI cQ a S) H ∧ ∀ i j : Nat, i < 14 → j < 14 → a i = a j → i = j
def MW (D : va_G) (cI : ClassId) (b : Nat → Nat) (N : bS) (U : State) (H : Heap) : Prop := va_K D vwCl [(cI, .int)] U ∧ va_P D vwCl (vwM cI b N) H ∧ ∀ i j : Nat, i < 6 → j < 6 → b i = b j → i = j
def inB (a : Nat → Nat) : Nat → Prop := fun q => ∃ k : Nat, k < 14 ∧ q = a k
def inM (b : Nat → Nat) : Nat → Prop := fun q => ∃ k : Nat, k < 6 ∧ q = b k
theorem up2_eq (S : bS) (k j : Nat) (v : Int32) : up2 S k j v k j = v := by simp [up2, upd]
theorem up2_ne (S : bS) {k j k' j' : Nat} (v : Int32) (h : k' ≠ k ∨ j' ≠ j) : up2 S k j v k' j' = S k' j' := by
  unfold up2 upd
  by_cases h1 : k' = k
  · rcases h with h | h
    · exact absurd h1 h
    · rw [if_pos h1, if_neg h]
  · rw [if_neg h1]
theorem vwB_at {cI cQ : ClassId} {a : Nat → Nat} {S : bS} : ∀ (i : Nat) (q : Nat × va_E), (vwB cI cQ a S)[i]? = some q → i < 14 ∧ q.1 = a ((i + 13) % 14)
  | 0, q, h => by cases h; exact ⟨by decide, rfl⟩
  | 1, q, h => by cases h; exact ⟨by decide, rfl⟩
  | 2, q, h => by cases h; exact ⟨by decide, rfl⟩
  | 3, q, h => by cases h; exact ⟨by decide, rfl⟩
  | 4, q, h => by cases h; exact ⟨by decide, rfl⟩
  | 5, q, h => by cases h; exact ⟨by decide, rfl⟩
  | 6, q, h => by cases h; exact ⟨by decide, rfl⟩
  | 7, q, h => by cases h; exact ⟨by decide, rfl⟩
  | 8, q, h => by cases h; exact ⟨by decide, rfl⟩
  | 9, q, h => by cases h; exact ⟨by decide, rfl⟩
  | 10, q, h => by cases h; exact ⟨by decide, rfl⟩
  | 11, q, h => by cases h; exact ⟨by decide, rfl⟩
  | 12, q, h => by cases h; exact ⟨by decide, rfl⟩
  | 13, q, h => by cases h; exact ⟨by decide, rfl⟩
  | i + 14, q, h => by simp at h
theorem vwM_at {cI : ClassId} {b : Nat → Nat} {N : bS} : ∀ (i : Nat) (q : Nat × va_E), (vwM cI b N)[i]? = some q → i < 6 ∧ q.1 = b ((i + 5) % 6)
  | 0, q, h => by cases h; exact ⟨by decide, rfl⟩
  | 1, q, h => by cases h; exact ⟨by decide, rfl⟩
  | 2, q, h => by cases h; exact ⟨by decide, rfl⟩
  | 3, q, h => by cases h; exact ⟨by decide, rfl⟩
  | 4, q, h => by cases h; exact ⟨by decide, rfl⟩
  | 5, q, h => by cases h; exact ⟨by decide, rfl⟩
  | i + 6, q, h => by simp at h
theorem BW.D {D : va_G} {cI cQ : ClassId} {a : Nat → Nat} {S : bS} {U : State} {H : Heap} (h : BW D cI cQ a S U H) : va_D (inB a) (vwB cI cQ a S) := by
  refine ⟨fun i j p q hi hj hpq => ?_, fun k q hk => ?_⟩
  · obtain ⟨h1, h2⟩ := vwB_at i p hi
    obtain ⟨h3, h4⟩ := vwB_at j q hj
    have h5 := h.2.2 ((i + 13) % 14) ((j + 13) % 14) (Nat.mod_lt _ (by decide)) (Nat.mod_lt _ (by decide)) (by rw [← h2, ← h4]; exact hpq)
    omega
  · obtain ⟨h1, h2⟩ := vwB_at k q hk
    exact ⟨_, Nat.mod_lt _ (by decide), h2⟩
theorem MW.D {D : va_G} {cI : ClassId} {b : Nat → Nat} {N : bS} {U : State} {H : Heap} (h : MW D cI b N U H) : va_D (inM b) (vwM cI b N) := by
  refine ⟨fun i j p q hi hj hpq => ?_, fun k q hk => ?_⟩
  · obtain ⟨h1, h2⟩ := vwM_at i p hi
    obtain ⟨h3, h4⟩ := vwM_at j q hj
    have h5 := h.2.2 ((i + 5) % 6) ((j + 5) % 6) (Nat.mod_lt _ (by decide)) (Nat.mod_lt _ (by decide)) (by rw [← h2, ← h4]; exact hpq)
    omega
  · obtain ⟨h1, h2⟩ := vwM_at k q hk
    exact ⟨_, Nat.mod_lt _ (by decide), h2⟩
theorem vwB_row {cI cQ : ClassId} {a : Nat → Nat} {S : bS} : ∀ r : Nat, r < 6 → (vwB cI cQ a S)[8 + r]? = some (a (7 + r), .inl (cI, 8, .inl (S (7 + r))))
  | 0, _ => rfl
  | 1, _ => rfl
  | 2, _ => rfl
  | 3, _ => rfl
  | 4, _ => rfl
  | 5, _ => rfl
  | r + 6, h => absurd h (by omega)
theorem vwB_setrow {cI cQ : ClassId} {a : Nat → Nat} {S : bS} {j : Nat} {x : Int32} : ∀ r : Nat, r < 6 → (vwB cI cQ a S).set (8 + r) (a (7 + r), .inl (cI, 8, .inl (upd (S (7 + r)) j x))) = vwB cI cQ a (up2 S (7 + r) j x)
  | 0, _ => rfl
  | 1, _ => rfl
  | 2, _ => rfl
  | 3, _ => rfl
  | 4, _ => rfl
  | 5, _ => rfl
  | r + 6, h => absurd h (by omega)
theorem BW.moved {D : va_G} {cI cQ : ClassId} {a : Nat → Nat} {S : bS} {u U : State} {H : Heap} (hvm : u.vm.Alike U.vm) (h : BW D cI cQ a S u H) : BW D cI cQ a S U H := ⟨va_K.moved hvm h.1, h.2⟩
theorem MW.moved {D : va_G} {cI : ClassId} {b : Nat → Nat} {N : bS} {u U : State} {H : Heap} (hvm : u.vm.Alike U.vm) (h : MW D cI b N u H) : MW D cI b N U H := ⟨va_K.moved hvm h.1, h.2⟩
theorem BW.kept {D : va_G} {cI cQ : ClassId} {a : Nat → Nat} {S : bS} {U : State} {H H1 : Heap} (h : BW D cI cQ a S U H) (hq : ∀ k : Nat, k < 14 → H1[a k]? = H[a k]?) : BW D cI cQ a S U H1 := ⟨h.1, h.2.1.kept (fun k q hk => by obtain ⟨-, h2⟩ := vwB_at k q hk; rw [h2]; exact hq _ (Nat.mod_lt _ (by decide))), h.2.2⟩
theorem MW.kept {D : va_G} {cI : ClassId} {b : Nat → Nat} {N : bS} {U : State} {H H1 : Heap} (h : MW D cI b N U H) (hq : ∀ k : Nat, k < 6 → H1[b k]? = H[b k]?) : MW D cI b N U H1 := ⟨h.1, h.2.1.kept (fun k q hk => by obtain ⟨-, h2⟩ := vwM_at k q hk; rw [h2]; exact hq _ (Nat.mod_lt _ (by decide))), h.2.2⟩
theorem BW.lt {D : va_G} {cI cQ : ClassId} {a : Nat → Nat} {S : bS} {U : State} {H : Heap} (h : BW D cI cQ a S U H) : ∀ k : Nat, k < 14 → a k < H.size := by
  intro k hk
  have hl : ((k + 1) % 14) < (vwB cI cQ a S).length := by show _ < 14; omega
  have h1 := h.2.1 ((k + 1) % 14) _ (List.getElem?_eq_getElem hl)
  have h2 := (vwB_at ((k + 1) % 14) _ (List.getElem?_eq_getElem hl)).2
  have h3 := h1.lt
  rw [h2, show ((k + 1) % 14 + 13) % 14 = k by omega] at h3
  exact h3
theorem MW.lt {D : va_G} {cI : ClassId} {b : Nat → Nat} {N : bS} {U : State} {H : Heap} (h : MW D cI b N U H) : ∀ k : Nat, k < 6 → b k < H.size := by
  intro k hk
  have hl : ((k + 1) % 6) < (vwM cI b N).length := by show _ < 6; omega
  have h1 := h.2.1 ((k + 1) % 6) _ (List.getElem?_eq_getElem hl)
  have h2 := (vwM_at ((k + 1) % 6) _ (List.getElem?_eq_getElem hl)).2
  have h3 := h1.lt
  rw [h2, show ((k + 1) % 6 + 5) % 6 = k by omega] at h3
  exact h3
theorem nI_0' : (0 : Int32) = nI 0 := nI_0.symm
theorem nadd {x y : Int32} {i j : Nat} (hx : x = nI i) (hy : y = nI j) : x + y = nI (i + j) := by rw [hx, hy, nI_add]
theorem nmul {x y : Int32} {i j : Nat} (hx : x = nI i) (hy : y = nI j) : x * y = nI (i * j) := by rw [hx, hy, pk_mul]
theorem ninc (i : Nat) : nI i + Int32.ofInt 1 = nI (i + 1) := nI_1 i
theorem ncl {i : Nat} (h : i < 8) : (nI i).toNatClampNeg = i := nI_clamp (by omega)
theorem ncl71 {i : Nat} (h : i < 71) : (nI i).toNatClampNeg = i := nI_clamp (by omega)
theorem nin {i n : Nat} (h : i < n) (hn : n ≤ 71) : vp_in (nI i) n := vp_in_nI h (by omega)
theorem good_all : wsL_law.all goodWord = true := by decide +kernel
theorem good_in {ws : List Cond} (h : ∀ w ∈ ws, w ∈ wsL_law) : GoodIn wsL_law ws := fun w hw => ⟨h w hw, good_of_word (List.all_eq_true.mp good_all w (h w hw))⟩
/-- the words of a method: its own code, and all words -/
abbrev wq (y : MethodName) (bytes : ByteArray) (n : Nat) (ret : Option FieldType) : List Cond := .code y bytes n ret :: wsL_law
theorem good_V {own C : String} {idx n : Nat} {y : MethodName} {bytes : ByteArray} {ret : Option FieldType} (h1 : Cond.methodLink own idx y ∈ wsL_law) (h2 : Cond.instanceMethod y ∈ wsL_law) (h3 : Cond.selects C y y ∈ wsL_law) (h4 : Cond.initialized C ∈ wsL_law) (h5 : Cond.code y bytes n ret ∈ wsL_law) : GoodIn wsL_law (wsV own idx C y (wq y bytes n ret)) := by
  refine good_in fun w hw => ?_
  simp only [wsV, wq, List.cons_append, List.nil_append, List.mem_cons] at hw
  rcases hw with rfl | rfl | rfl | rfl | rfl | h
  · exact h1
  · exact h2
  · exact h3
  · exact h4
  · exact h5
  · exact h
theorem good_S {own : String} {idx n : Nat} {y : MethodName} {bytes : ByteArray} {ret : Option FieldType} (h1 : Cond.methodLink own idx y ∈ wsL_law) (h2 : Cond.static y ∈ wsL_law) (h4 : Cond.initialized y.cls ∈ wsL_law) (h5 : Cond.code y bytes n ret ∈ wsL_law) : GoodIn wsL_law (va_wsS own idx y (wq y bytes n ret)) := by
  refine good_in fun w hw => ?_
  simp only [va_wsS, wq, List.cons_append, List.nil_append, List.mem_cons] at hw
  rcases hw with rfl | rfl | rfl | rfl | h
  · exact h1
  · exact h2
  · exact h4
  · exact h5
  · exact h
/-- a method that returns v and changes nothing -/
def Rd (l : Launch) (y : MethodName) (bytes : ByteArray) (n : Nat) (ret : Option FieldType) (rm : Room) (Wd : State → Heap → Prop) (As : List Value) (v : Value) : Prop := Met l y (wq y bytes n ret) rm (va_Pc As (fun U => Wd U U.heap)) (k2_QcV v) 0 0 (fun _ => False)
/-- a method that returns nothing and changes nothing -/
def Rn (l : Launch) (y : MethodName) (bytes : ByteArray) (n : Nat) (ret : Option FieldType) (rm : Room) (Wd : State → Heap → Prop) (As : List Value) : Prop := Met l y (wq y bytes n ret) rm (va_Pc As (fun U => Wd U U.heap)) (va_Sv (fun _ => True)) 0 0 (fun _ => False)
/-- a method that returns v and leaves the world Wd', changing cells of A alone -/
def qW (v : Option Value) (Wd : State → Heap → Prop) (A : Nat → Prop) : Array Value → State → Outcome → State → Prop := fun _ st oc t => oc = .returned v ∧ Wd t t.heap ∧ va_F A st t
def Wr (l : Launch) (y : MethodName) (bytes : ByteArray) (n : Nat) (ret : Option FieldType) (rm : Room) (Wd Wd' : State → Heap → Prop) (A : Nat → Prop) (As : List Value) (v : Option Value) (mc ms : Nat) : Prop := Met l y (wq y bytes n ret) rm (va_Pc As (fun U => Wd U U.heap)) (qW v Wd' A) mc ms A
/-- a world that a table's warming doesn't change -/
def Mov (Wd : State → Heap → Prop) : Prop := ∀ (u U : State) (H : Heap), u.vm.Alike U.vm → Wd u H → Wd U H
theorem mov_B {D : va_G} {cI cQ : ClassId} {a : Nat → Nat} {S : bS} : Mov (BW D cI cQ a S) := fun _ _ _ hvm h => h.moved hvm
theorem mov_M {D : va_G} {cI : ClassId} {b : Nat → Nat} {N : bS} : Mov (MW D cI b N) := fun _ _ _ hvm h => h.moved hvm
theorem mov_T : Mov (fun _ _ => True) := fun _ _ _ _ _ => trivial
theorem blind {Wd : State → Heap → Prop} {As : List Value} (hm : Mov Wd) : FrameBlind (va_Pc As (fun U => Wd U U.heap)) := fun a U g mk h => ⟨h.1, hm U (U.calling g mk a) U.heap (Vm.Alike.refl U.vm) h.2⟩
theorem Rd.of {l : Launch} {y : MethodName} {bytes : ByteArray} {n : Nat} {ret : Option FieldType} {rm : Room} {Wd : State → Heap → Prop} {As : List Value} {v : Value} (hy : plainName y.cls = true) (hn : (lg_sl As).length ≤ n)
    (body : ∀ (p : Program) (e : Env) (s : State) (m : MethodId) (args : Array Value) (below : List Frame) (meth : Method) (c : Code) (ls : Array Slot), CallFix p m c bytes n s args wsL_law y.cls → meth.sig.returnType = ret → meth.locks = false → Wd s s.heap → lv_has ls n (lv_args 0 As) →
      W p l e rm s m args below meth c s.heap [] 0 0 (MQ below (k2_QcV v) args s 0 0 (fun _ => False)) (F0 m 0 ls [])) : Rd l y bytes n ret rm Wd As v := by
  refine Met.ofW (cc := bytes) (maxL := n) (ret := ret) hy rfl ?_
  intro p e s m args below meth c s₁ B hml hv
  obtain ⟨rfl, hw⟩ := hv
  have hl := lv_entry As (n := n) hn
  rw [lg_entry_eq]
  exact body p e s m _ below meth c _ ⟨B.exec, B.bytes, hml, findClass_of_methodNamed B.named, fun w h => atoms_spec (ws := wq y bytes n ret) B.pre w (List.mem_cons_of_mem _ h)⟩ B.returns B.notSynchronized hw hl
theorem Rn.of {l : Launch} {y : MethodName} {bytes : ByteArray} {n : Nat} {ret : Option FieldType} {rm : Room} {Wd : State → Heap → Prop} {As : List Value} (hy : plainName y.cls = true) (hn : (lg_sl As).length ≤ n)
    (body : ∀ (p : Program) (e : Env) (s : State) (m : MethodId) (args : Array Value) (below : List Frame) (meth : Method) (c : Code) (ls : Array Slot), CallFix p m c bytes n s args wsL_law y.cls → meth.sig.returnType = ret → meth.locks = false → Wd s s.heap → lv_has ls n (lv_args 0 As) →
      W p l e rm s m args below meth c s.heap [] 0 0 (MQ below (va_Sv (fun _ => True)) args s 0 0 (fun _ => False)) (F0 m 0 ls [])) : Rn l y bytes n ret rm Wd As := by
  refine Met.ofW (cc := bytes) (maxL := n) (ret := ret) hy rfl ?_
  intro p e s m args below meth c s₁ B hml hv
  obtain ⟨rfl, hw⟩ := hv
  have hl := lv_entry As (n := n) hn
  rw [lg_entry_eq]
  exact body p e s m _ below meth c _ ⟨B.exec, B.bytes, hml, findClass_of_methodNamed B.named, fun w h => atoms_spec (ws := wq y bytes n ret) B.pre w (List.mem_cons_of_mem _ h)⟩ B.returns B.notSynchronized hw hl
theorem Wr.of {l : Launch} {y : MethodName} {bytes : ByteArray} {n : Nat} {ret : Option FieldType} {rm : Room} {Wd Wd' : State → Heap → Prop} {A : Nat → Prop} {As : List Value} {v : Option Value} {mc ms : Nat} (hy : plainName y.cls = true) (hn : (lg_sl As).length ≤ n)
    (body : ∀ (p : Program) (e : Env) (s : State) (m : MethodId) (args : Array Value) (below : List Frame) (meth : Method) (c : Code) (ls : Array Slot), CallFix p m c bytes n s args wsL_law y.cls → meth.sig.returnType = ret → meth.locks = false → Wd s s.heap → va_S A s.heap s.heap [] → lv_has ls n (lv_args 0 As) →
      W p l e rm s m args below meth c s.heap [] 0 0 (MQ below (qW v Wd' A) args s mc ms A) (F0 m 0 ls [])) : Wr l y bytes n ret rm Wd Wd' A As v mc ms := by
  refine Met.ofW (cc := bytes) (maxL := n) (ret := ret) hy rfl ?_
  intro p e s m args below meth c s₁ B hml hv
  obtain ⟨rfl, hw⟩ := hv
  have hl := lv_entry As (n := n) hn
  rw [lg_entry_eq]
  exact body p e s m _ below meth c _ ⟨B.exec, B.bytes, hml, findClass_of_methodNamed B.named, fun w h => atoms_spec (ws := wq y bytes n ret) B.pre w (List.mem_cons_of_mem _ h)⟩ B.returns B.notSynchronized hw va_S.rf hl
section BK
variable {p : Program} {l : Launch} {e : Env} {R : Room} {s : State} {m : MethodId} {args : Array Value} {below : List Frame} {meth : Method} {c : Code} {H : Heap} {locs : List Loc} {cells slots : Nat} {Q : State → Prop}
variable {cc bytes : ByteArray} {pc nL n index : Nat} {ls : Array Slot} {rest st0 : List Value} {y : MethodName} {ret : Option FieldType} {rm : Room} {own C : String} {As : List Value} {b0 : Nat} {A A0 : Nat → Prop} {H0 : Heap}
/-- a call of a method of an object that changes nothing -/
theorem kV {Wd : State → Heap → Prop} {v : Value} (hC : CallFix p m c cc nL s args wsL_law own) (hM : Rd l y bytes n ret rm Wd (.ref b0 :: As) v) (hm : Mov Wd) (hW : Wd s H) (hrec : ∃ cell : Cell, H[b0]? = some cell ∧ cell.vm.isStatics = false ∧ s.vm.findClass C = some cell.cls) (hG : GoodIn wsL_law (wsV own index C y (wq y bytes n ret))) (hrc : rm.cells = 0) (hrs : rm.slots = 0)
    (hd : y.cls = C ∧ y.cls ≠ "java/lang/invoke/MethodHandle" ∧ y.cls ≠ "java/lang/invoke/VarHandle" ∧ (parseMethodDescriptor y.desc).map (fun d => d.parameters.length) = some As.length) (hR : rm.frames + 1 ≤ R.frames ∧ 8 + (n + 11) + rm.locals ≤ R.locals) (hf : cells ≤ R.cells ∧ slots ≤ R.slots) (hls : ls.size = nL) (hst : st0 = As.reverse ++ .ref b0 :: rest) (hr8 : (rest.map fun v => v.category).sum ≤ 8) (hdg : decode cc pc = .ok (.invokevirtual index, 3))
    (kk : W p l e R s m args below meth c H locs cells slots Q (F0 m (pc + 3) ls (v :: rest))) : W p l e R s m args below meth c H locs cells slots Q (F0 m pc ls st0) :=
  W.callV (W.runV (As := As) (rest := rest) hC hM (cwV As.length hC.2.2.2.2 hG rfl hrc hrs hd hR) ⟨blind hm, hrec, fun U hU hW1 => ⟨rfl, by show Wd U U.heap; rw [hU]; exact hm s U H hW1.alike hW⟩⟩ rfl rfl hls hst (lv_room hr8) hdg hf) kk
theorem kS {Wd : State → Heap → Prop} {v : Value} (hC : CallFix p m c cc nL s args wsL_law own) (hM : Rd l y bytes n ret rm Wd As v) (hm : Mov Wd) (hW : Wd s H) (hG : GoodIn wsL_law (va_wsS own index y (wq y bytes n ret))) (hrc : rm.cells = 0) (hrs : rm.slots = 0)
    (hd : y.cls ≠ "java/lang/invoke/MethodHandle" ∧ y.cls ≠ "java/lang/invoke/VarHandle" ∧ (parseMethodDescriptor y.desc).map (fun d => d.parameters.length) = some As.length) (hR : rm.frames + 1 ≤ R.frames ∧ 8 + (n + 11) + rm.locals ≤ R.locals) (hf : cells ≤ R.cells ∧ slots ≤ R.slots) (hls : ls.size = nL) (hst : st0 = As.reverse ++ rest) (hr8 : (rest.map fun v => v.category).sum ≤ 8) (hdg : decode cc pc = .ok (.invokestatic index, 3))
    (kk : W p l e R s m args below meth c H locs cells slots Q (F0 m (pc + 3) ls (v :: rest))) : W p l e R s m args below meth c H locs cells slots Q (F0 m pc ls st0) :=
  W.callV (W.runS (As := As) (rest := rest) hC hM (va_cwS As.length hC.2.2.2.2 hG rfl hrc hrs hd hR) ⟨blind hm, fun U hU hW1 => ⟨rfl, by show Wd U U.heap; rw [hU]; exact hm s U H hW1.alike hW⟩⟩ rfl rfl hls hst (lv_room hr8) hdg hf) kk
theorem kVn {Wd : State → Heap → Prop} (hC : CallFix p m c cc nL s args wsL_law own) (hM : Rn l y bytes n ret rm Wd (.ref b0 :: As)) (hm : Mov Wd) (hW : Wd s H) (hrec : ∃ cell : Cell, H[b0]? = some cell ∧ cell.vm.isStatics = false ∧ s.vm.findClass C = some cell.cls) (hG : GoodIn wsL_law (wsV own index C y (wq y bytes n ret))) (hrc : rm.cells = 0) (hrs : rm.slots = 0)
    (hd : y.cls = C ∧ y.cls ≠ "java/lang/invoke/MethodHandle" ∧ y.cls ≠ "java/lang/invoke/VarHandle" ∧ (parseMethodDescriptor y.desc).map (fun d => d.parameters.length) = some As.length) (hR : rm.frames + 1 ≤ R.frames ∧ 8 + (n + 11) + rm.locals ≤ R.locals) (hf : cells ≤ R.cells ∧ slots ≤ R.slots) (hls : ls.size = nL) (hst : st0 = As.reverse ++ .ref b0 :: rest) (hr8 : (rest.map fun v => v.category).sum ≤ 8) (hdg : decode cc pc = .ok (.invokevirtual index, 3))
    (kk : W p l e R s m args below meth c H locs cells slots Q (F0 m (pc + 3) ls rest)) : W p l e R s m args below meth c H locs cells slots Q (F0 m pc ls st0) :=
  va_csv (W.runV (As := As) (rest := rest) hC hM (cwV As.length hC.2.2.2.2 hG rfl hrc hrs hd hR) ⟨blind hm, hrec, fun U hU hW1 => ⟨rfl, by show Wd U U.heap; rw [hU]; exact hm s U H hW1.alike hW⟩⟩ rfl rfl hls hst (lv_room hr8) hdg hf) (fun _ => kk)
theorem kSn {Wd : State → Heap → Prop} (hC : CallFix p m c cc nL s args wsL_law own) (hM : Rn l y bytes n ret rm Wd As) (hm : Mov Wd) (hW : Wd s H) (hG : GoodIn wsL_law (va_wsS own index y (wq y bytes n ret))) (hrc : rm.cells = 0) (hrs : rm.slots = 0)
    (hd : y.cls ≠ "java/lang/invoke/MethodHandle" ∧ y.cls ≠ "java/lang/invoke/VarHandle" ∧ (parseMethodDescriptor y.desc).map (fun d => d.parameters.length) = some As.length) (hR : rm.frames + 1 ≤ R.frames ∧ 8 + (n + 11) + rm.locals ≤ R.locals) (hf : cells ≤ R.cells ∧ slots ≤ R.slots) (hls : ls.size = nL) (hst : st0 = As.reverse ++ rest) (hr8 : (rest.map fun v => v.category).sum ≤ 8) (hdg : decode cc pc = .ok (.invokestatic index, 3))
    (kk : W p l e R s m args below meth c H locs cells slots Q (F0 m (pc + 3) ls rest)) : W p l e R s m args below meth c H locs cells slots Q (F0 m pc ls st0) :=
  va_csv (W.runS (As := As) (rest := rest) hC hM (va_cwS As.length hC.2.2.2.2 hG rfl hrc hrs hd hR) ⟨blind hm, fun U hU hW1 => ⟨rfl, by show Wd U U.heap; rw [hU]; exact hm s U H hW1.alike hW⟩⟩ rfl rfl hls hst (lv_room hr8) hdg hf) (fun _ => kk)
/-- a call of a method of an object that may change its cells -/
theorem kVw {Wd Wd' : State → Heap → Prop} {v : Option Value} {mc ms : Nat} (hC : CallFix p m c cc nL s args wsL_law own) (hM : Wr l y bytes n ret rm Wd Wd' A (.ref b0 :: As) v mc ms) (hm : Mov Wd) (hm' : Mov Wd') (hW : Wd s H) (hrec : ∃ cell : Cell, H[b0]? = some cell ∧ cell.vm.isStatics = false ∧ s.vm.findClass C = some cell.cls) (hG : GoodIn wsL_law (wsV own index C y (wq y bytes n ret))) (hrc : rm.cells = mc) (hrs : rm.slots = ms)
    (hd : y.cls = C ∧ y.cls ≠ "java/lang/invoke/MethodHandle" ∧ y.cls ≠ "java/lang/invoke/VarHandle" ∧ (parseMethodDescriptor y.desc).map (fun d => d.parameters.length) = some As.length) (hR : rm.frames + 1 ≤ R.frames ∧ 8 + (n + 11) + rm.locals ≤ R.locals) (hf : cells + mc ≤ R.cells ∧ slots + ms ≤ R.slots) (hS : va_S A0 H0 H locs) (hA : ∀ q, A q → A0 q) (hls : ls.size = nL) (hst : st0 = As.reverse ++ .ref b0 :: rest) (hr8 : (rest.map fun v => v.category).sum ≤ 8) (hdg : decode cc pc = .ok (.invokevirtual index, 3))
    (kk : ∀ (H1 : Heap) (locs1 : List Loc), Wd' s H1 → va_S A0 H0 H1 locs1 → H.size ≤ H1.size → (∀ q : Nat, q < H.size → ¬ A q → H1[q]? = H[q]?) → W p l e R s m args below meth c H1 locs1 (cells + mc) (slots + ms) Q (F0 m (pc + 3) ls (v.toList ++ rest))) : W p l e R s m args below meth c H locs cells slots Q (F0 m pc ls st0) := by
  have hr := va_runV (e := e) (As := As) (rest := rest) (locs := locs) (cells := cells) (slots := slots) (below := below) (meth := meth) hC hM (cwV As.length hC.2.2.2.2 hG rfl hrc hrs hd hR) ⟨blind hm, hrec, fun U hU hW1 => ⟨rfl, by show Wd U U.heap; rw [hU]; exact hm s U H hW1.alike hW⟩⟩ (g := F0 m pc ls st0) rfl rfl hls hst (lv_room hr8) hdg hf
  intro T hT X
  obtain ⟨v', st₀, t, T', L, h0, X', hL, e1, e2, ⟨hv, hb, hz, hk⟩, st⟩ := hr T hT X
  cases hv
  rw [h0] at hz hk
  obtain ⟨t2, a1, b1⟩ := kk T'.heap (locs ++ L) (by rw [e1]; exact hm' t s t.heap (by rw [← e2]; exact X'.warmed.alike.symm) hb)
    ⟨Nat.le_trans hS.1 (by rw [e1]; exact hz), fun q h1 h2 => by rw [e1, hk q (Nat.lt_of_lt_of_le h1 hS.1) (fun z => h2 (hA q z))]; exact hS.2.1 q h1 h2, fun q hq => by
      rcases List.mem_append.mp hq with h | h
      · exact hS.2.2 q h
      · exact hA _ (hL q h)⟩ (by rw [e1]; exact hz) (fun q h1 h2 => by rw [e1]; exact hk q h1 h2) T' rfl X'
  exact ⟨t2, st t2 a1, b1⟩
theorem rd_i {v v' : Int32} (hC : CallFix p m c cc nL s args wsL_law own) (hr : meth.sig.returnType = some .int) (hlocks : meth.locks = false) (hdg : decode cc pc = .ok (.ireturn, 1)) (hv : v' = v) : W p l e R s m args below meth c s.heap [] 0 0 (MQ below (k2_QcV (.int v)) args s 0 0 (fun _ => False)) (F0 m pc ls [.int v']) := by
  subst hv
  exact W.iret hC.1 hC.2.1 hr (fun t ht hW => ⟨rfl, ht⟩) (fun q hq => absurd hq List.not_mem_nil) hdg hlocks
theorem rd_z {v v' : Int32} (hC : CallFix p m c cc nL s args wsL_law own) (hr : meth.sig.returnType = some .boolean) (hlocks : meth.locks = false) (hn : narrow .boolean (.int v') = .int v') (hdg : decode cc pc = .ok (.ireturn, 1)) (hv : v' = v) : W p l e R s m args below meth c s.heap [] 0 0 (MQ below (k2_QcV (.int v)) args s 0 0 (fun _ => False)) (F0 m pc ls [.int v']) := by
  subst hv
  exact W.zret hC.1 hC.2.1 hr hn (fun t ht hW => ⟨rfl, ht⟩) (fun q hq => absurd hq List.not_mem_nil) hdg hlocks
theorem rd_l {v v' : Int64} (hC : CallFix p m c cc nL s args wsL_law own) (hr : meth.sig.returnType = some .long) (hlocks : meth.locks = false) (hdg : decode cc pc = .ok (.lreturn, 1)) (hv : v' = v) : W p l e R s m args below meth c s.heap [] 0 0 (MQ below (k2_QcV (.long v)) args s 0 0 (fun _ => False)) (F0 m pc ls [.long v']) := by
  subst hv
  exact W.lret hC.1 hC.2.1 hr (fun t ht hW => ⟨rfl, ht⟩) (fun q hq => absurd hq List.not_mem_nil) hdg hlocks
theorem rd_d {v v' : UInt64} (hC : CallFix p m c cc nL s args wsL_law own) (hr : meth.sig.returnType = some .double) (hlocks : meth.locks = false) (hdg : decode cc pc = .ok (.dreturn, 1)) (hv : v' = v) : W p l e R s m args below meth c s.heap [] 0 0 (MQ below (k2_QcV (.double v)) args s 0 0 (fun _ => False)) (F0 m pc ls [.double v']) := by
  subst hv
  exact W.dret hC.1 hC.2.1 hr (fun t ht hW => ⟨rfl, ht⟩) (fun q hq => absurd hq List.not_mem_nil) hdg hlocks
theorem rd_v (hC : CallFix p m c cc nL s args wsL_law own) (hr : meth.sig.returnType = none) (hlocks : meth.locks = false) (hdg : decode cc pc = .ok (.return_, 1)) : W p l e R s m args below meth c s.heap [] 0 0 (MQ below (va_Sv (fun _ => True)) args s 0 0 (fun _ => False)) (F0 m pc ls []) :=
  W.vret hC.1 hC.2.1 hr (fun t ht hW => ⟨rfl, trivial, ht⟩) (fun q hq => absurd hq List.not_mem_nil) hdg hlocks
theorem wr_i {Wd : State → Heap → Prop} {v v' : Int32} {mc ms : Nat} (hC : CallFix p m c cc nL s args wsL_law own) (hr : meth.sig.returnType = some .int) (hlocks : meth.locks = false) (hm : Mov Wd) (hW : Wd s H) (hS : va_S A s.heap H locs) (hdg : decode cc pc = .ok (.ireturn, 1)) (hv : v' = v) : W p l e R s m args below meth c H locs mc ms (MQ below (qW (some (.int v)) Wd A) args s mc ms A) (F0 m pc ls [.int v']) := by
  subst hv
  exact W.iret hC.1 hC.2.1 hr (fun t ht hW1 => ⟨rfl, by rw [ht]; exact hm s t H hW1.alike hW, hS.F ht⟩) hS.2.2 hdg hlocks
theorem wr_z {Wd : State → Heap → Prop} {v v' : Int32} {mc ms : Nat} (hC : CallFix p m c cc nL s args wsL_law own) (hr : meth.sig.returnType = some .boolean) (hlocks : meth.locks = false) (hm : Mov Wd) (hW : Wd s H) (hS : va_S A s.heap H locs) (hn : narrow .boolean (.int v') = .int v') (hdg : decode cc pc = .ok (.ireturn, 1)) (hv : v' = v) : W p l e R s m args below meth c H locs mc ms (MQ below (qW (some (.int v)) Wd A) args s mc ms A) (F0 m pc ls [.int v']) := by
  subst hv
  exact W.zret hC.1 hC.2.1 hr hn (fun t ht hW1 => ⟨rfl, by rw [ht]; exact hm s t H hW1.alike hW, hS.F ht⟩) hS.2.2 hdg hlocks
theorem wr_l {Wd : State → Heap → Prop} {v v' : Int64} {mc ms : Nat} (hC : CallFix p m c cc nL s args wsL_law own) (hr : meth.sig.returnType = some .long) (hlocks : meth.locks = false) (hm : Mov Wd) (hW : Wd s H) (hS : va_S A s.heap H locs) (hdg : decode cc pc = .ok (.lreturn, 1)) (hv : v' = v) : W p l e R s m args below meth c H locs mc ms (MQ below (qW (some (.long v)) Wd A) args s mc ms A) (F0 m pc ls [.long v']) := by
  subst hv
  exact W.lret hC.1 hC.2.1 hr (fun t ht hW1 => ⟨rfl, by rw [ht]; exact hm s t H hW1.alike hW, hS.F ht⟩) hS.2.2 hdg hlocks
theorem wr_d {Wd : State → Heap → Prop} {v v' : UInt64} {mc ms : Nat} (hC : CallFix p m c cc nL s args wsL_law own) (hr : meth.sig.returnType = some .double) (hlocks : meth.locks = false) (hm : Mov Wd) (hW : Wd s H) (hS : va_S A s.heap H locs) (hdg : decode cc pc = .ok (.dreturn, 1)) (hv : v' = v) : W p l e R s m args below meth c H locs mc ms (MQ below (qW (some (.double v)) Wd A) args s mc ms A) (F0 m pc ls [.double v']) := by
  subst hv
  exact W.dret hC.1 hC.2.1 hr (fun t ht hW1 => ⟨rfl, by rw [ht]; exact hm s t H hW1.alike hW, hS.F ht⟩) hS.2.2 hdg hlocks
theorem wr_v {Wd : State → Heap → Prop} {mc ms : Nat} (hC : CallFix p m c cc nL s args wsL_law own) (hr : meth.sig.returnType = none) (hlocks : meth.locks = false) (hm : Mov Wd) (hW : Wd s H) (hS : va_S A s.heap H locs) (hdg : decode cc pc = .ok (.return_, 1)) : W p l e R s m args below meth c H locs mc ms (MQ below (qW none Wd A) args s mc ms A) (F0 m pc ls []) :=
  W.vret hC.1 hC.2.1 hr (fun t ht hW1 => ⟨rfl, by rw [ht]; exact hm s t H hW1.alike hW, hS.F ht⟩) hS.2.2 hdg hlocks
/-- branches over numbers -/
theorem jge {i j : Nat} {x y : Int32} {off : Int} {tgt : Nat} (hC : CallFix p m c cc nL s args wsL_law own) (hdg : decode cc pc = .ok (.if_icmp .ge off, 3)) (ht : (pc : Int) + off = (tgt : Int)) (hx : x = nI i) (hy : y = nI j) (hi : i < 2 ^ 31) (hj : j < 2 ^ 31)
    (kt : j ≤ i → W p l e R s m args below meth c H locs cells slots Q (F0 m tgt ls rest)) (kf : i < j → W p l e R s m args below meth c H locs cells slots Q (F0 m (pc + 3) ls rest)) : W p l e R s m args below meth c H locs cells slots Q (F0 m pc ls (.int y :: .int x :: rest)) := by
  subst hx
  subst hy
  exact lv_icmp_ge hC.1 hC.2.1 hdg ht (fun h => kt ((nI_leI hj hi).mp h)) (fun h => kf (Nat.lt_of_not_le fun q => h ((nI_leI hj hi).mpr q)))
theorem jlt {i j : Nat} {x y : Int32} {off : Int} {tgt : Nat} (hC : CallFix p m c cc nL s args wsL_law own) (hdg : decode cc pc = .ok (.if_icmp .lt off, 3)) (ht : (pc : Int) + off = (tgt : Int)) (hx : x = nI i) (hy : y = nI j) (hi : i < 2 ^ 31) (hj : j < 2 ^ 31)
    (kt : i < j → W p l e R s m args below meth c H locs cells slots Q (F0 m tgt ls rest)) (kf : j ≤ i → W p l e R s m args below meth c H locs cells slots Q (F0 m (pc + 3) ls rest)) : W p l e R s m args below meth c H locs cells slots Q (F0 m pc ls (.int y :: .int x :: rest)) := by
  subst hx
  subst hy
  exact lv_icmp_lt hC.1 hC.2.1 hdg ht (fun h => kt ((nI_ltI hi hj).mp h)) (fun h => kf (Nat.le_of_not_lt fun q => h ((nI_ltI hi hj).mpr q)))
theorem jgt {i j : Nat} {x y : Int32} {off : Int} {tgt : Nat} (hC : CallFix p m c cc nL s args wsL_law own) (hdg : decode cc pc = .ok (.if_icmp .gt off, 3)) (ht : (pc : Int) + off = (tgt : Int)) (hx : x = nI i) (hy : y = nI j) (hi : i < 2 ^ 31) (hj : j < 2 ^ 31)
    (kt : j < i → W p l e R s m args below meth c H locs cells slots Q (F0 m tgt ls rest)) (kf : i ≤ j → W p l e R s m args below meth c H locs cells slots Q (F0 m (pc + 3) ls rest)) : W p l e R s m args below meth c H locs cells slots Q (F0 m pc ls (.int y :: .int x :: rest)) := by
  subst hx
  subst hy
  exact lv_icmp_gt hC.1 hC.2.1 hdg ht (fun h => kt ((nI_ltI hj hi).mp h)) (fun h => kf (Nat.le_of_not_lt fun q => h ((nI_ltI hj hi).mpr q)))
theorem jle {i j : Nat} {x y : Int32} {off : Int} {tgt : Nat} (hC : CallFix p m c cc nL s args wsL_law own) (hdg : decode cc pc = .ok (.if_icmp .le off, 3)) (ht : (pc : Int) + off = (tgt : Int)) (hx : x = nI i) (hy : y = nI j) (hi : i < 2 ^ 31) (hj : j < 2 ^ 31)
    (kt : i ≤ j → W p l e R s m args below meth c H locs cells slots Q (F0 m tgt ls rest)) (kf : j < i → W p l e R s m args below meth c H locs cells slots Q (F0 m (pc + 3) ls rest)) : W p l e R s m args below meth c H locs cells slots Q (F0 m pc ls (.int y :: .int x :: rest)) := by
  subst hx
  subst hy
  exact lv_icmp_le hC.1 hC.2.1 hdg ht (fun h => kt ((nI_leI hi hj).mp h)) (fun h => kf (Nat.lt_of_not_le fun q => h ((nI_leI hi hj).mpr q)))
theorem xadd {x y v : Int32} (hC : CallFix p m c cc nL s args wsL_law own) (hdg : decode cc pc = .ok (.iadd, 1)) (hv : x + y = v) (k : W p l e R s m args below meth c H locs cells slots Q (F0 m (pc + 1) ls (.int v :: rest))) : W p l e R s m args below meth c H locs cells slots Q (F0 m pc ls (.int y :: .int x :: rest)) := by
  subst hv
  exact lv_iadd hC.1 hC.2.1 hdg k
theorem xsub {x y v : Int32} (hC : CallFix p m c cc nL s args wsL_law own) (hdg : decode cc pc = .ok (.isub, 1)) (hv : x - y = v) (k : W p l e R s m args below meth c H locs cells slots Q (F0 m (pc + 1) ls (.int v :: rest))) : W p l e R s m args below meth c H locs cells slots Q (F0 m pc ls (.int y :: .int x :: rest)) := by
  subst hv
  exact lv_isub hC.1 hC.2.1 hdg k
theorem xmul {x y v : Int32} (hC : CallFix p m c cc nL s args wsL_law own) (hdg : decode cc pc = .ok (.imul, 1)) (hv : x * y = v) (k : W p l e R s m args below meth c H locs cells slots Q (F0 m (pc + 1) ls (.int v :: rest))) : W p l e R s m args below meth c H locs cells slots Q (F0 m pc ls (.int y :: .int x :: rest)) := by
  subst hv
  exact lv_imul hC.1 hC.2.1 hdg k
end BK
theorem rec_B {D : va_G} {cI cQ : ClassId} {a : Nat → Nat} {S : bS} {s : State} {H : Heap} (h : BW D cI cQ a S s H) : ∃ cell : Cell, H[a 13]? = some cell ∧ cell.vm.isStatics = false ∧ s.vm.findClass RX0 = some cell.cls := va_recv h.1 h.2.1 (ci := 0) (q0 := 0) rfl rfl
theorem rec_M {D : va_G} {cI : ClassId} {b : Nat → Nat} {N : bS} {s : State} {H : Heap} (h : MW D cI b N s H) : ∃ cell : Cell, H[b 5]? = some cell ∧ cell.vm.isStatics = false ∧ s.vm.findClass RX1 = some cell.cls := va_recv h.1 h.2.1 (ci := 1) (q0 := 0) rfl rfl

/-! ===== new arrays; Sim's cells beside one array ===== -/
def fpre (f : Nat → Int32) (i : Nat) : Nat → Int32 := fun j => if j < i then f j else 0
theorem fpre_0 (f : Nat → Int32) : (fun _ => 0) = fpre f 0 := funext fun j => (if_neg (Nat.not_lt_zero j)).symm
theorem fpre_at {f : Nat → Int32} {i j : Nat} (h : j < i) : fpre f i j = f j := if_pos h
theorem fpre_up (f : Nat → Int32) (i : Nat) : upd (fpre f i) i (f i) = fpre f (i + 1) := by
  funext j
  unfold upd fpre
  by_cases e : j = i
  · rw [if_pos e, if_pos (by omega), e]
  · rw [if_neg e]
    by_cases h : j < i
    · rw [if_pos h, if_pos (by omega)]
    · rw [if_neg h, if_neg (by omega)]
theorem nm_eq {s : State} {c0 c1 : ClassId} (h0 : va_RA s c0 .int) (h1 : va_RA s c1 .int) : c0 = c1 := Option.some.inj ((va_nm_int h0).symm.trans (va_nm_int h1))
theorem S_up {A0 : Nat → Prop} {H0 H H1 : Heap} {locs : List Loc} (hS : va_S A0 H0 H locs) (hz : H.size ≤ H1.size) (ho : ∀ q : Nat, q < H.size → H1[q]? = H[q]?) : va_S A0 H0 H1 locs := ⟨Nat.le_trans hS.1 hz, fun q h1 h2 => (ho q (Nat.lt_of_lt_of_le h1 hS.1)).trans (hS.2.1 q h1 h2), hS.2.2⟩
theorem GW.one {D : va_G} {cI cQ : ClassId} {q : Nat} {x : va_E} {U : State} {H : Heap} (hK : va_K D vwCl (tyB cI cQ) U) (h : va_at D vwCl (q, x) H) : GW D cI cQ 1 (fun _ => q) (fun _ => x) U H := ⟨hK, fun _ _ => h, fun i j hi hj _ => by omega⟩
section NW
variable {p : Program} {l : Launch} {e : Env} {R : Room} {s : State} {m : MethodId} {args : Array Value} {below : List Frame} {meth : Method} {c : Code} {H : Heap} {locs : List Loc} {cells slots : Nat} {Q : State → Prop}
variable {cc : ByteArray} {pc nL : Nat} {ls : Array Slot} {rest : List Value} {D : va_G} {cI cQ : ClassId} {b : Nat → Nat} {A0 : Nat → Prop} {H0 : Heap} {own : String} {x v : Int32}
theorem nwG (n : Nat) (hC : CallFix p m c cc nL s args wsL_law own) (hK : va_K D vwCl (tyB cI cQ) s) (hx : x = nI n) (hn : n ≤ 71) (hS : va_S A0 H0 H locs) (hcells : cells + 1 ≤ R.cells) (hslots : slots + n ≤ R.slots) (hdg : decode cc pc = .ok (.newarray .int, 2))
    (kk : ∀ H1 : Heap, GW D cI cQ 1 (fun _ => H.size) (fun _ => eI cI n (fun _ => 0)) s H1 → va_S A0 H0 H1 locs → H1.size = H.size + 1 → (∀ q : Nat, q < H.size → H1[q]? = H[q]?) → W p l e R s m args below meth c H1 locs (cells + 1) (slots + n) Q (F0 m (pc + 2) ls (.ref H.size :: rest))) : W p l e R s m args below meth c H locs cells slots Q (F0 m pc ls (.int x :: rest)) := by
  subst hx
  refine va_newaK (atype := .int) (N := n) (h := H.size) hC.1 hC.2.1 (hC.2.2.2.2 _ (List.mem_of_getElem? (i := 3) (by decide +kernel))) rfl hdg rfl (nI_pos (by omega)) (nI_clamp (by omega)) (by show n * 4 ≤ _; omega) hcells hslots rfl (fun H1 cA e1 z1 o1 hAr hNm => ?_)
  have ec : cI = cA := nm_eq (hK.2 0 (cI, .int) rfl).2 hNm
  subst ec
  exact kk H1 (GW.one hK e1) (S_up hS (by omega) o1) z1 o1
theorem nqG (n : Nat) {index : Nat} (hC : CallFix p m c cc nL s args wsL_law own) (hK : va_K D vwCl (tyB cI cQ) s) (hAO : va_AOA .int s) (hcl : Cond.classLink own index "[I" ∈ wsL_law) (hx : x = nI n) (hn : n ≤ 71) (hS : va_S A0 H0 H locs) (hcells : cells + 1 ≤ R.cells) (hslots : slots + n ≤ R.slots) (hdg : decode cc pc = .ok (.anewarray index, 3))
    (kk : ∀ H1 : Heap, GW D cI cQ 1 (fun _ => H.size) (fun _ => eQ cQ n (fun _ => none)) s H1 → va_S A0 H0 H1 locs → H1.size = H.size + 1 → (∀ q : Nat, q < H.size → H1[q]? = H[q]?) → W p l e R s m args below meth c H1 locs (cells + 1) (slots + n) Q (F0 m (pc + 3) ls (.ref H.size :: rest))) : W p l e R s m args below meth c H locs cells slots Q (F0 m pc ls (.int x :: rest)) := by
  subst hx
  have hcn : (nI n).toNatClampNeg = n := nI_clamp (by omega)
  refine W.anewA (t := .int) hC.1 hC.2.1 hC.2.2.2.1 (hC.2.2.2.2 _ hcl) (va_AOA.use hAO) rfl hdg rfl (nI_pos (by omega)) (by rw [hcn]; omega) hcells (by rw [hcn]; exact hslots) fun cA kA comp f1 f2 f3 f4 => ?_
  have ec : cQ = cA := Option.some.inj ((hK.2 1 (cQ, .array .int) rfl).2.symm.trans f1)
  subst ec
  rw [hcn]
  generalize hH1 : H.push ({ cls := cQ, slots := Array.replicate n .null, vm := .none } : Cell) = H1
  have z1 : H1.size = H.size + 1 := by rw [← hH1, Array.size_push]
  have e1 : H1[H.size]? = some (arrV cQ n (fun _ => .null)) := by rw [← hH1, Array.getElem?_push_size, ← arrV_new]
  have o1 : ∀ q : Nat, q < H.size → H1[q]? = H[q]? := fun q hq => by rw [← hH1, Array.getElem?_push, if_neg (Nat.ne_of_lt hq)]
  exact kk H1 (GW.one hK e1) (S_up hS (by omega) o1) z1 o1
theorem saG {K k n n2 q : Nat} {E : Nat → va_E} {F : Nat → Int32} {f : Nat → Option Nat} (i : Nat) (hC : CallFix p m c cc nL s args wsL_law own) (hG : GW D cI cQ K b E s H) (hAO : va_AOA .int s) (hk : k < K) (hE : E k = eQ cQ n f) (hx : x = nI i) (hi : i < n) (hn : n ≤ 71) (hv : va_at D vwCl (q, eI cI n2 F) H) (hS : va_S A0 H0 H locs) (hA : A0 (b k)) (hdg : decode cc pc = .ok (.aastore, 1))
    (kk : ∀ (H1 : Heap) (locs1 : List Loc), GW D cI cQ K b (eU E k (eQ cQ n (va_up f i (some q)))) s H1 → va_S A0 H0 H1 locs1 → H1.size = H.size → (∀ q : Nat, q ≠ b k → H1[q]? = H[q]?) → W p l e R s m args below meth c H1 locs1 cells slots Q (F0 m (pc + 1) ls rest)) : W p l e R s m args below meth c H locs cells slots Q (F0 m pc ls (.ref q :: .int x :: .ref (b k) :: rest)) := by
  subst hx
  have h1 := hG.2.1 k hk
  rw [hE] at h1
  have hcn : (nI i).toNatClampNeg = i := nI_clamp (by omega)
  obtain ⟨comp, cA, kA, g1, g2, g3, g4, g5⟩ := arrayOverA_spec (va_AOA.use (A := args) hAO)
  have e1 : cQ = cA := Option.some.inj ((hG.1.2 1 (cQ, .array .int) rfl).2.symm.trans g5)
  have e2 : cI = comp := Option.some.inj ((hG.1.2 0 (cI, .int) rfl).2.symm.trans g1)
  subst e1
  subst e2
  obtain ⟨kI, hkI, -⟩ := Vm.findClass_spec g1
  refine W.aast hC.1 hC.2.1 h1 (fun q h => by cases h) (fun h => by cases h) g3 g4 rfl hkI ⟨nI_pos (by omega), by show _ < (arrV _ _ _).slots.size; rw [arrV_size, hcn]; exact hi⟩ hv (fun q h => by cases h) hkI ?_ rfl rfl hdg fun H1 e z oq => ?_
  · exact va_asg _ _
  refine kk H1 _ (hG.put hk ?_ oq) (hS.put z oq hA) z oq
  show H1[b k]? = some (vp_cell _ _)
  rw [e]
  rw [vp_cell_q, vp_cell_q, arrV_store, hcn]
  refine congrArg some (congrArg (arrV cQ n) (funext fun q => ?_))
  by_cases hq : q = i
  · subst hq
    simp [updV, va_up, va_rf]
  · simp [updV, va_up, hq]
end NW
def PW (D : va_G) (cI cQ : ClassId) (b : Nat → Nat) (T R q n : Nat) (G : Nat → Int32) (N : bS) (U : State) (H : Heap) : Prop := SW D cI cQ b N T R U H ∧ GW D cI cQ 1 (fun _ => q) (fun _ => eI cI n G) U H ∧ ∀ k : Nat, k < 10 + T → b k ≠ q
section PR
variable {p : Program} {l : Launch} {e : Env} {R : Room} {s : State} {m : MethodId} {args : Array Value} {below : List Frame} {meth : Method} {c : Code} {H : Heap} {locs : List Loc} {cells slots : Nat} {Q : State → Prop}
variable {cc : ByteArray} {pc nL : Nat} {ls : Array Slot} {rest : List Value} {D : va_G} {cI cQ : ClassId} {b : Nat → Nat} {A0 : Nat → Prop} {H0 : Heap} {own : String} {x v : Int32} {T R9 q n : Nat} {G : Nat → Int32} {N : bS}
theorem ldP (i : Nat) (hC : CallFix p m c cc nL s args wsL_law own) (hW : PW D cI cQ b T R9 q n G N s H) (hn9 : n ≤ 71) (hx : x = nI i) (hi : i < n) (hv : G i = v) (hdg : decode cc pc = .ok (.iaload, 1)) (kk : W p l e R s m args below meth c H locs cells slots Q (F0 m (pc + 1) ls (.int v :: rest))) : W p l e R s m args below meth c H locs cells slots Q (F0 m pc ls (.int x :: .ref q :: rest)) :=
  ldG (b := fun _ => q) (k := 0) (E := fun _ => eI cI n G) i hC hW.2.1 (by decide) rfl hx hi (by omega) hv hdg kk
theorem stP (i : Nat) (hC : CallFix p m c cc nL s args wsL_law own) (hW : PW D cI cQ b T R9 q n G N s H) (hn9 : n ≤ 71) (hx : x = nI i) (hi : i < n) (hS : va_S A0 H0 H locs) (hA : A0 q) (hdg : decode cc pc = .ok (.iastore, 1)) (kk : ∀ (H1 : Heap) (locs1 : List Loc), PW D cI cQ b T R9 q n (upd G i v) N s H1 → va_S A0 H0 H1 locs1 → W p l e R s m args below meth c H1 locs1 cells slots Q (F0 m (pc + 1) ls rest)) : W p l e R s m args below meth c H locs cells slots Q (F0 m pc ls (.int v :: .int x :: .ref q :: rest)) :=
  stG (b := fun _ => q) (k := 0) (E := fun _ => eI cI n G) i hC hW.2.1 (by decide) rfl hx hi (by omega) hS hA hdg (fun H1 locs1 h1 h2 _ h4 => kk H1 locs1 ⟨hW.1.kept (fun k hk => h4 _ (hW.2.2 k hk)), h1.cg (fun k hk => by rw [show k = 0 by omega, eU_self]), hW.2.2⟩ h2)
theorem PW.past {N' : bS} {k : Nat} {H1 : Heap} (hW : PW D cI cQ b T R9 q n G N s H) (hN : SW D cI cQ b N' T R9 s H1) (hk : k < 10 + T) (h4 : ∀ z : Nat, z ≠ b k → H1[z]? = H[z]?) : PW D cI cQ b T R9 q n G N' s H1 := ⟨hN, hW.2.1.kept (fun _ _ => h4 _ (fun z => hW.2.2 k hk z.symm)), hW.2.2⟩
theorem sP_row (t i : Nat) (hC : CallFix p m c cc nL s args wsL_law own) (hW : PW D cI cQ b T R9 q n G N s H) (ht : t < T) (hx : x = nI i) (hi : i < 5) (hS : va_S A0 H0 H locs) (hA : ∀ q, inG (10 + T) b q → A0 q) (hdg : decode cc pc = .ok (.iastore, 1)) (kk : ∀ (H1 : Heap) (locs1 : List Loc), PW D cI cQ b T R9 q n G (up2 N (20 + t) i v) s H1 → va_S A0 H0 H1 locs1 → W p l e R s m args below meth c H1 locs1 cells slots Q (F0 m (pc + 1) ls rest)) : W p l e R s m args below meth c H locs cells slots Q (F0 m pc ls (.int v :: .int x :: .ref (b (10 + t)) :: rest)) :=
  sS_row t i hC hW.1 ht hx hi hS hA hdg (fun H1 locs1 h1 h2 _ h4 => kk H1 locs1 (hW.past h1 (by omega) h4) h2)
theorem sP_held (r i : Nat) (hC : CallFix p m c cc nL s args wsL_law own) (hW : PW D cI cQ b T R9 q n G N s H) (hr : r < 6) (hx : x = nI i) (hi : i < 8) (hS : va_S A0 H0 H locs) (hA : ∀ q, inG (10 + T) b q → A0 q) (hdg : decode cc pc = .ok (.iastore, 1)) (kk : ∀ (H1 : Heap) (locs1 : List Loc), PW D cI cQ b T R9 q n G (up2 N (7 + r) i v) s H1 → va_S A0 H0 H1 locs1 → W p l e R s m args below meth c H1 locs1 cells slots Q (F0 m (pc + 1) ls rest)) : W p l e R s m args below meth c H locs cells slots Q (F0 m pc ls (.int v :: .int x :: .ref (b (4 + r)) :: rest)) :=
  sS_held r i hC hW.1 hr hx hi hS hA hdg (fun H1 locs1 h1 h2 _ h4 => kk H1 locs1 (hW.past h1 (by omega) h4) h2)
theorem sP_pur (i : Nat) (hC : CallFix p m c cc nL s args wsL_law own) (hW : PW D cI cQ b T R9 q n G N s H) (h6 : R9 ≤ 6) (hx : x = nI i) (hi : i < R9) (hS : va_S A0 H0 H locs) (hA : ∀ q, inG (10 + T) b q → A0 q) (hdg : decode cc pc = .ok (.iastore, 1)) (kk : ∀ (H1 : Heap) (locs1 : List Loc), PW D cI cQ b T R9 q n G (up2 N 5 i v) s H1 → va_S A0 H0 H1 locs1 → W p l e R s m args below meth c H1 locs1 cells slots Q (F0 m (pc + 1) ls rest)) : W p l e R s m args below meth c H locs cells slots Q (F0 m pc ls (.int v :: .int x :: .ref (b 2) :: rest)) :=
  sS_pur i hC hW.1 h6 hx hi hS hA hdg (fun H1 locs1 h1 h2 _ h4 => kk H1 locs1 (hW.past h1 (by omega) h4) h2)
theorem qX1_second (hC : CallFix p m c cc nL s args wsL_law RX1) (hW : PW D cI cQ b T R9 q n G N s H) (hS : va_S A0 H0 H locs) (hA : ∀ q, inG (10 + T) b q → A0 q) (hdg : decode cc pc = .ok (.putfield 26, 3)) (kk : ∀ (H1 : Heap) (locs1 : List Loc), PW D cI cQ b T R9 q n G (up2 N 6 0 v) s H1 → va_S A0 H0 H1 locs1 → W p l e R s m args below meth c H1 locs1 cells slots Q (F0 m (pc + 3) ls rest)) : W p l e R s m args below meth c H locs cells slots Q (F0 m pc ls (.int v :: .ref (b 0) :: rest)) :=
  pX1_second hC hW.1 hS hA hdg (fun H1 locs1 h1 h2 _ h4 => kk H1 locs1 (hW.past h1 (by omega) h4) h2)
end PR
section BQ
variable {p : Program} {l : Launch} {e : Env} {R : Room} {s : State} {m : MethodId} {args : Array Value} {below : List Frame} {meth : Method} {c : Code} {H : Heap} {locs : List Loc} {cells slots : Nat} {Q : State → Prop}
variable {cc bytes : ByteArray} {pc nL n index : Nat} {ls : Array Slot} {rest st0 : List Value} {y : MethodName} {ret : Option FieldType} {rm : Room} {own : String} {As : List Value} {A : Nat → Prop}
/-- a call of a static method, whatever its post -/
theorem kSq {Pw : State → Prop} {Qc : Array Value → State → Outcome → State → Prop} {mc ms : Nat} (hC : CallFix p m c cc nL s args wsL_law own) (hM : Met l y (wq y bytes n ret) rm (va_Pc As Pw) Qc mc ms A) (hbl : FrameBlind (va_Pc As Pw)) (hp : ∀ U : State, U.heap = H → s.WarmedH U.vm → Pw U) (hG : GoodIn wsL_law (va_wsS own index y (wq y bytes n ret))) (hrc : rm.cells = mc) (hrs : rm.slots = ms)
    (hd : y.cls ≠ "java/lang/invoke/MethodHandle" ∧ y.cls ≠ "java/lang/invoke/VarHandle" ∧ (parseMethodDescriptor y.desc).map (fun d => d.parameters.length) = some As.length) (hR : rm.frames + 1 ≤ R.frames ∧ 8 + (n + 11) + rm.locals ≤ R.locals) (hf : cells + mc ≤ R.cells ∧ slots + ms ≤ R.slots) (hls : ls.size = nL) (hst : st0 = As.reverse ++ rest) (hr8 : (rest.map fun v => v.category).sum ≤ 8) (hdg : decode cc pc = .ok (.invokestatic index, 3))
    (kk : ∀ (v : Option Value) (st t : State) (L : List Loc), st.heap = H → s.vm.Alike t.vm → Qc As.toArray st (.returned v) t → (∀ z ∈ L, A z.base) → W p l e R s m args below meth c t.heap (locs ++ L) (cells + mc) (slots + ms) Q (F0 m (pc + 3) ls (v.toList ++ rest))) : W p l e R s m args below meth c H locs cells slots Q (F0 m pc ls st0) := by
  have hr := va_runS (e := e) (H := H) (As := As) (rest := rest) (locs := locs) (cells := cells) (slots := slots) (below := below) (meth := meth) hC hM (va_cwS As.length hC.2.2.2.2 hG rfl hrc hrs hd hR) ⟨hbl, fun U hU hW1 => ⟨rfl, hp U hU hW1⟩⟩ (g := F0 m pc ls st0) rfl rfl hls hst (lv_room hr8) hdg hf
  intro T hT X
  obtain ⟨v, st₀, t, T', L, h1, X', hL, e1, e2, hq, st⟩ := hr T hT X
  obtain ⟨t2, a1, b1⟩ := kk v st₀ t L h1 (by rw [← e2]; exact X'.warmed.alike) hq hL T' e1 X'
  exact ⟨t2, st t2 a1, b1⟩
end BQ
theorem S_more {A B : Nat → Prop} {H0 H : Heap} {st t : State} {locs L : List Loc} (hS : va_S A H0 H locs) (hst : st.heap = H) (hF : va_F B st t) (hB : ∀ q, B q → A q) (hL : ∀ z ∈ L, B z.base) : va_S A H0 t.heap (locs ++ L) := by
  obtain ⟨hz, hk⟩ := hF
  rw [hst] at hz hk
  exact ⟨Nat.le_trans hS.1 hz, fun q h1 h2 => by rw [hk q (Nat.lt_of_lt_of_le h1 hS.1) (fun z => h2 (hB q z))]; exact hS.2.1 q h1 h2, fun q hq => by
    rcases List.mem_append.mp hq with h | h
    · exact hS.2.2 q h
    · exact hB _ (hL q h)⟩
/-! a second of Sim -/
def nY (X : bS) (t : Nat) : bS := up2 X (20 + t) 3 (X (20 + t) 3 + 1)
def nZ (X : bS) (t : Nat) : Int32 := rmi (X 6 0 - X (20 + t) 2) (X (20 + t) 1)
def nZs (X : bS) (t : Nat) : bS := up2 (up2 (nY X t) (20 + t) 3 0) (20 + t) 4 (X (20 + t) 4 + 1)
def nGo (N : bS) (P : Nat → Int32) (R : Nat) : Nat → bS
  | 0 => up2 N 6 0 (N 6 0 + 1)
  | t + 1 => if nZ (nGo N P R t) t = 0 then bSt1 (nZs (nGo N P R t) t) (P t) t R else nY (nGo N P R t) t
def nGc (N : bS) (P : Nat → Int32) (R : Nat) : Nat → Int32
  | 0 => 0
  | t + 1 => if nZ (nGo N P R t) t = 0 then nGc N P R t + 1 else nGc N P R t
theorem nGo_s {N : bS} {P : Nat → Int32} {R t : Nat} (c : nZ (nGo N P R t) t = 0) : nGo N P R (t + 1) = bSt1 (nZs (nGo N P R t) t) (P t) t R := if_pos c
theorem nGo_k {N : bS} {P : Nat → Int32} {R t : Nat} (c : ¬ nZ (nGo N P R t) t = 0) : nGo N P R (t + 1) = nY (nGo N P R t) t := if_neg c
theorem nGc_s {N : bS} {P : Nat → Int32} {R t : Nat} (c : nZ (nGo N P R t) t = 0) : nGc N P R (t + 1) = nGc N P R t + 1 := if_pos c
theorem nGc_k {N : bS} {P : Nat → Int32} {R t : Nat} (c : ¬ nZ (nGo N P R t) t = 0) : nGc N P R (t + 1) = nGc N P R t := if_neg c
theorem nGo_1 {N : bS} {P : Nat → Int32} {R k : Nat} (hk : k ≠ 6) (h5 : k ≠ 5) (h7 : k < 7 ∨ 20 ≤ k) (hR : R ≤ 6) {j : Nat} (hj : j < 3) : ∀ t : Nat, nGo N P R t k j = N k j
  | 0 => up2_ne _ _ (Or.inl hk)
  | t + 1 => by
    have ih := nGo_1 (N := N) (P := P) (R := R) hk h5 h7 hR hj t
    by_cases c : nZ (nGo N P R t) t = 0
    · rw [nGo_s c]
      have key : ∀ i : Nat, i ≤ 6 → bSt1 (nZs (nGo N P R t) t) (P t) t i k j = nZs (nGo N P R t) t k j := by
        intro i
        induction i with
        | zero => intro _; rfl
        | succ i ih2 =>
          intro hi
          unfold bSt1
          rw [up2_ne _ _ (Or.inl (by omega)), up2_ne _ _ (Or.inl h5), ih2 (by omega)]
      rw [key R hR]
      unfold nZs nY
      rw [up2_ne _ _ (Or.inr (by omega)), up2_ne _ _ (Or.inr (by omega)), up2_ne _ _ (Or.inr (by omega))]
      exact ih
    · rw [nGo_k c]
      unfold nY
      rw [up2_ne _ _ (Or.inr (by omega))]
      exact ih

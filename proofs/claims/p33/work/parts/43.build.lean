/-! ===== build ===== -/
theorem jgeN {p : Program} {l : Launch} {e : Env} {R : Room} {s : State} {m : MethodId} {args : Array Value} {below : List Frame} {meth : Method} {c : Code} {H : Heap} {locs : List Loc} {cells slots : Nat} {Q : State → Prop} {cc : ByteArray} {pc nL n index h0 mc ms : Nat} {ls : Array Slot} {rest : List Value} {A : Nat → Prop} {rm : Room} {own host : String} {y : MethodName} {bytes : ByteArray} {iP : State → Prop} {Qc : Array Value → State → Outcome → State → Prop} (hC : CallFix p m c cc nL s args wsL_law own) (hM : Met l y (wq y bytes n none) rm (va_Pc [.ref h0] iP) Qc mc ms A) (hbl : FrameBlind (va_Pc [.ref h0] iP)) (hp : ∀ U : State, U.heap = H → s.WarmedH U.vm → iP U) (hy : y.name = "<init>") (hm0 : Cond.code y bytes n none ∈ wsL_law) (hnest : va_Nw (.methodLinkNest own index y host) s) (hm2 : Cond.instanceMethod y ∈ wsL_law) (hm3 : Cond.initialized y.cls ∈ wsL_law) (hrc : rm.cells = mc) (hrs : rm.slots = ms)
    (hd : y.cls ≠ "java/lang/invoke/MethodHandle" ∧ y.cls ≠ "java/lang/invoke/VarHandle" ∧ (parseMethodDescriptor y.desc).map (fun d => d.parameters.length) = some 0) (hR : rm.frames + 1 ≤ R.frames ∧ 8 + (n + 11) + rm.locals ≤ R.locals) (hf : cells + mc ≤ R.cells ∧ slots + ms ≤ R.slots) (hls : ls.size = nL) (hr8 : (rest.map fun v => v.category).sum ≤ 8) (hdg : decode cc pc = .ok (.invokespecial index, 3))
    (kk : ∀ (v : Option Value) (st t : State) (L : List Loc), st.heap = H → s.vm.Alike t.vm → Qc (List.toArray [.ref h0]) st (.returned v) t → (∀ z ∈ L, A z.base) → W p l e R s m args below meth c t.heap (locs ++ L) (cells + mc) (slots + ms) Q (F0 m (pc + 3) ls (v.toList ++ rest))) : W p l e R s m args below meth c H locs cells slots Q (F0 m pc ls (.ref h0 :: rest)) := by
  have hG : GoodIn wsL_law (wq y bytes n none) := good_in (fun w hw => (List.mem_cons.mp hw).elim (fun e => by rw [e]; exact hm0) (fun h => h))
  have hr := va_runIN (e := e) (H := H) (As := []) (rest := rest) (locs := locs) (cells := cells) (slots := slots) (below := below) (meth := meth) hC hM ⟨va_cnB 0 hC.2.2.2.2 hG rfl hrc hrs hnest (hC.2.2.2.2 _ hm3) hd hR, hy, hC.2.2.2.2 _ hm2⟩ ⟨hbl, fun U hU hW1 => ⟨rfl, hp U hU hW1⟩⟩ (g := F0 m pc ls (.ref h0 :: rest)) rfl rfl hls rfl (lv_room hr8) hdg hf
  intro T hT X
  obtain ⟨v, st₀, t, T', L, h1, X', hL, e1, e2, hq, st⟩ := hr T hT X
  obtain ⟨t2, a1, b1⟩ := kk v st₀ t L h1 (by rw [← e2]; exact X'.warmed.alike) hq hL T' e1 X'
  exact ⟨t2, st t2 a1, b1⟩
theorem mov_Js {D : va_G} {cI cQ : ClassId} {a b : Nat → Nat} {S N : bS} {T R sec sz : Nat} : Mov (fun U Hx => Hx.size = sz ∧ JW D cI cQ a b S N T R sec U Hx) := fun _ _ _ hvm h => ⟨h.1, mov_J _ _ _ hvm h.2⟩
theorem Je_0 : Je (fun _ _ => 0) (fun _ _ => 0) 0 0 0 := by
  refine ⟨fun _ => 0, fun _ => 0, fun _ => 0, fun _ => 0, fun _ => 0, ⟨rfl, rfl, by decide, by decide⟩, fun r hr => absurd hr (by omega), fun r t _ _ => ⟨rfl, (show -9 ≤ (0 : Int32).toInt ∧ (0 : Int32).toInt ≤ 9 by decide), fun _ => rfl⟩, ⟨rfl, rfl, by decide⟩, fun t ht => absurd ht (by omega), fun t _ _ => ⟨rfl, rfl⟩⟩
def iB (D : va_G) (cI cQ : ClassId) (a : Nat → Nat) (bs L : Nat) (xs : Nat → Int32) (sz : Nat) (U : State) : Prop := U.heap.size = sz ∧ BW D cI cQ a (fun _ _ => 0) U U.heap ∧ va_AOA .int U ∧ va_X bs L xs U U.heap ∧ va_Nw (.methodLinkNest RL 63 yX1_init RL) U
def qB (D : va_G) (cI cQ : ClassId) (a : Nat → Nat) (sz : Nat) : Array Value → State → Outcome → State → Prop := fun _ st oc t => (∃ (b : Nat → Nat) (S N : bS) (T R sec : Nat), oc = .returned (some (.ref (b 0))) ∧ (∀ j : Nat, j < 10 + T → sz ≤ b j) ∧ 1 ≤ T ∧ sec ≤ 3300 ∧ JW D cI cQ a b S N T R sec t t.heap) ∧ va_F (fun q => inB a q ∨ sz ≤ q) st t
theorem bl_B {D : va_G} {cI cQ : ClassId} {a : Nat → Nat} {bs L : Nat} {xs : Nat → Int32} {sz : Nat} {As : List Value} : FrameBlind (va_Pc As (iB D cI cQ a bs L xs sz)) := fun x U g mk h => ⟨h.1, h.2.1, h.2.2.1.moved (u := U) (U := U.calling g mk x) (Vm.Alike.refl U.vm), AOA_mv (s := U) (U := U.calling g mk x) (Vm.Alike.refl U.vm) h.2.2.2.1, va_X.moved (u := U) (U := U.calling g mk x) (Vm.Alike.refl U.vm) h.2.2.2.2.1, va_Nw.same rfl (u := U) (U := U.calling g mk x) rfl h.2.2.2.2.2⟩
set_option maxHeartbeats 4000000 in
set_option maxRecDepth 100000 in
theorem c_L_build (l : Launch) (D : va_G) (cI cQ : ClassId) (a : Nat → Nat) {bs L sz : Nat} {xs : Nat → Int32} (hL : L ≤ 260) (hab : ∀ i, i < 14 → a i ≠ bs) : Met l yL_build (wq yL_build cL_build 5 (some (.object "BellHushLaw$Sim"))) ({ frames := 8, cells := 3310, slots := 26458, locals := 186 } : Room) (va_Pc [.ref (a 13), .ref bs] (iB D cI cQ a bs L xs sz)) (qB D cI cQ a sz) 3310 26458 (fun q => inB a q ∨ sz ≤ q) := by
  refine Met.ofW (cc := cL_build) (maxL := 5) (ret := some (.object "BellHushLaw$Sim")) (by decide) rfl ?_
  intro p e s m args below meth c s₁ B hml hv
  obtain ⟨rfl, hsz, hB, hAO, hX, hnest⟩ := hv
  subst hsz
  have hC : CallFix p m c cL_build 5 s (List.toArray [.ref (a 13), .ref bs]) wsL_law RL := ⟨B.exec, B.bytes, hml, findClass_of_methodNamed B.named, fun w h => atoms_spec (ws := wq yL_build cL_build 5 (some (.object "BellHushLaw$Sim"))) B.pre w (List.mem_cons_of_mem _ h)⟩
  have hr := B.returns
  have hlocks := B.notSynchronized
  have hx := hC.1
  have hb := hC.2.1
  have hts := hC.2.2.2.2
  have hbl : bs < s.heap.size := by
    obtain ⟨scr, h1, -⟩ := hX
    exact (Array.getElem?_eq_some_iff.mp h1).1
  have hl := lv_entry ([.ref (a 13), .ref bs]) (n := 5) (Nat.le_of_ble_eq_true rfl)
  rw [lg_entry_eq]
  generalize (lg_sl ([.ref (a 13), .ref bs]) ++ List.replicate (5 - (lg_sl ([.ref (a 13), .ref bs])).length) Slot.unset).toArray = ls at hl ⊢
  have hl : lv_has ls 5 [(0, .ref (a 13)), (1, .ref bs)] := hl
  refine va_new (A := fun q => s.heap.size ≤ q) (ws := []) (ci := 1) (fs := [.int 0, .null, .null, .null]) (C := RX1) (T := TX1) (N := 4) hx hb hts inlX1 tyX1 tyX1_ok hC.2.2.2.1 (hts _ (List.mem_of_getElem? (i := 31) (by decide +kernel))) (hts _ (List.mem_of_getElem? (i := 32) (by decide +kernel))) (hts _ (List.mem_of_getElem? (i := 33) (by decide +kernel))) hB.1 (fun k q h => by simp at h) ⟨fun i j p q h => by simp at h, fun k q h => by simp at h⟩ va_S.rf (fun _ h => h) rfl (fun j hj => by rcases (show j = 0 ∨ j = 1 ∨ j = 2 ∨ j = 3 by omega) with rfl | rfl | rfl | rfl <;> rfl) (Nat.le_of_ble_eq_true rfl) (Nat.le_of_ble_eq_true rfl) dL_build_0 (fun qb H hP hD hS0 => ?_)
  have hqb : s.heap.size ≤ qb := hD.2 0 _ rfl
  have hat : va_at D vwCl (qb, .inr (1, [.int 0, .null, .null, .null])) H := hP 0 _ rfl
  have hold : ∀ q : Nat, q < s.heap.size → H[q]? = s.heap[q]? := fun q hq => hS0.2.1 q hq (Nat.not_le.mpr hq)
  have hS : va_S (fun q => inB a q ∨ s.heap.size ≤ q) s.heap H [] := ⟨hS0.1, fun q h1 _ => hold q h1, fun q h => by simp at h⟩
  have hBl : ∀ k, k < 14 → a k < s.heap.size := hB.lt
  have hB := hB.kept (H1 := H) (fun k hk => hold _ (hB.lt k hk))
  refine lv_dup hx hb dL_build_3 rfl ?_
  refine jgeN (mc := 9) (ms := 54) hC (i_X1 l D cI cQ qb H.size) bl_X1 (fun U hU hW1 => ⟨by rw [hU], hB.1.moved hW1.alike, AOA_mv hW1.alike hAO, by rw [hU]; exact hat⟩) rfl (List.mem_of_getElem? (i := 35) (by decide +kernel)) hnest (List.mem_of_getElem? (i := 34) (by decide +kernel)) (List.mem_of_getElem? (i := 33) (by decide +kernel)) rfl rfl ⟨by decide +kernel, by decide +kernel, by decide +kernel⟩ ⟨Nat.le_of_ble_eq_true rfl, Nat.le_of_ble_eq_true rfl⟩ ⟨Nat.le_of_ble_eq_true rfl, Nat.le_of_ble_eq_true rfl⟩ hl.1 (Nat.le_of_ble_eq_true rfl) dL_build_4 (fun v st t L1 hst hvm hq hL1 => ?_)
  obtain ⟨hv, ⟨b, hb0, hbge, hN⟩, hF⟩ := hq
  cases hv
  have hS := S_more hS hst hF (fun q z => z.elim (fun z => Or.inr (by rw [z]; exact hqb)) (fun z => Or.inr (Nat.le_trans hS.1 z))) hL1
  obtain ⟨hz2, hk2⟩ := hF
  rw [hst] at hz2 hk2
  have hN : SW D cI cQ b (fun _ _ => 0) 0 0 s t.heap := hN.moved hvm.symm
  have hB := hB.kept (H1 := t.heap) (fun k hk => hk2 _ (hB.lt k hk) (fun z => z.elim (fun z => by have := hBl k hk; omega) (fun z => by have := hB.lt k hk; omega)))
  have hbA : ∀ j : Nat, j < 10 + 0 → s.heap.size ≤ b j := fun j hj => by
    by_cases e : j = 0
    · rw [e, hb0]; exact hqb
    · exact Nat.le_trans hS0.1 (hbge j (by omega) (by omega))
  have hds : ∀ i j : Nat, i < 14 → j < 10 + 0 → a i ≠ b j := fun i j hi hj z => by
    have h1 := hBl i hi
    have h2 := hbA j hj
    omega
  generalize hHt : t.heap = H3 at hS hN hB ⊢
  rw [← hb0]
  refine W.eq (g2 := F0 m 7 ls [.ref (b 0)]) rfl ?_
  refine lv_astore_n (lv' := [(2, .ref (b 0)), (0, .ref (a 13)), (1, .ref bs)]) hx hb dL_build_7 rfl hl (by decide) rfl (fun ls hl => ?_)
  have hXH : ∀ (H : Heap) (locs : List Loc), va_S (fun q => inB a q ∨ s.heap.size ≤ q) s.heap H locs → va_X bs L xs s H := fun H locs hS => hX.kept (hS.2.1 bs hbl (fun z => z.elim (fun ⟨i, hi, e⟩ => hab i hi e.symm) (fun z => absurd hbl (Nat.not_lt.mpr z))))
  refine lv_bipush (v := 12) hx hb dL_build_8 (by decide) ?_
  refine lv_aload_n hx hb dL_build_10 rfl (lv_at hl 2 rfl) ?_
  refine lv_iconst (v := 0) hx hb dL_build_11 (by decide) ?_
  refine kL_L_cell hC (c_L_cell l (k := 0) hL (by omega)) (fun _ _ _ hvm h => h.moved hvm) (hXH _ _ hS) rfl ⟨rfl, rfl⟩ ⟨Nat.le_of_ble_eq_true rfl, Nat.le_of_ble_eq_true rfl⟩ ⟨Nat.le_of_ble_eq_true rfl, Nat.le_of_ble_eq_true rfl⟩ hl.1 rfl (Nat.le_of_ble_eq_true rfl) dL_build_12 ?_
  refine lv_bipush (v := 44) hx hb dL_build_15 (by decide) ?_
  refine kL_L_below hC (c_L_below l (clv xs L 0) (n := 44) (by omega) (by omega)) mov_T trivial rfl ⟨rfl, rfl⟩ ⟨Nat.le_of_ble_eq_true rfl, Nat.le_of_ble_eq_true rfl⟩ ⟨Nat.le_of_ble_eq_true rfl, Nat.le_of_ble_eq_true rfl⟩ hl.1 rfl (Nat.le_of_ble_eq_true rfl) dL_build_17 ?_
  have he1 := bel_lt (v := clv xs L 0) (n := 44) (by omega)
  generalize bel (clv xs L 0) 44 = e1 at he1 ⊢
  refine xadd (v := nI (12 + e1)) hC dL_build_20 (nadd (i := 12) (j := e1) rfl rfl) ?_
  refine lv_istore_n (lv' := [(3, .int (nI (12 + e1))), (2, .ref (b 0)), (0, .ref (a 13)), (1, .ref bs)]) hx hb dL_build_21 rfl hl (by decide) rfl (fun ls hl => ?_)
  refine lv_iconst (v := 0) hx hb dL_build_22 (by decide) ?_
  refine lv_istore (lv' := [(4, .int 0), (3, .int (nI (12 + e1))), (2, .ref (b 0)), (0, .ref (a 13)), (1, .ref bs)]) hx hb dL_build_23 hl (by decide) rfl (fun ls hl => ?_)
  refine W.widen (k := 10 + 60 * 0) (n := 58 + 480 * 0) (by omega) (by omega) ?_
  obtain ⟨o, ho⟩ : ∃ o, o = b 0 := ⟨_, rfl⟩
  rw [← ho] at hl
  refine loopU (P := fun k => ∀ (b : Nat → Nat) (S N : bS) (T R sec : Nat) (H : Heap) (locs : List Loc) (ls : Array Slot), b 0 = o → (∀ j : Nat, j < 10 + T → s.heap.size ≤ b j) → (k = 0 ∨ 1 ≤ T) → sec ≤ 60 * k → BW D cI cQ a S s H → SW D cI cQ b N T R s H → (∀ i j : Nat, i < 14 → j < 10 + T → a i ≠ b j) → Je S N T R sec → va_S (fun q => inB a q ∨ s.heap.size ≤ q) s.heap H locs → lv_has ls 5 [(4, .int (nI k)), (3, .int (nI (12 + e1))), (2, .ref o), (0, .ref (a 13)), (1, .ref bs)] → W p l e ({ frames := 8, cells := 3310, slots := 26458, locals := 186 } : Room) s m (List.toArray [.ref (a 13), .ref bs]) below meth c H locs (10 + 60 * k) (58 + 480 * k) (MQ below (qB D cI cQ a s.heap.size) (List.toArray [.ref (a 13), .ref bs]) s 3310 26458 (fun q => inB a q ∨ s.heap.size ≤ q)) (F0 m 25 ls [])) (12 + e1) ?_ ?_ 0 (by omega) b (fun _ _ => 0) (fun _ _ => 0) 0 0 0 H3 _ ls ho.symm hbA (Or.inl rfl) (by omega) hB hN hds Je_0 hS hl
  · intro b S N T R sec H locs ls hb0 hbA h1T hsec hB hN hds hJe hS hl
    refine lv_iload hx hb dL_build_25 (lv_at hl 0 rfl) ?_
    refine lv_iload_n hx hb dL_build_27 rfl (lv_at hl 1 rfl) ?_
    refine jge (i := 12 + e1) (j := 12 + e1) (tgt := 71) hC dL_build_28 (by decide) rfl rfl (by omega) (by omega) (fun c1 => ?_) (fun c1 => ?_)
    · refine lv_aload_n hx hb dL_build_71 rfl (lv_at hl 2 rfl) ?_
      refine W.widen (k := 3310) (n := 26458) (by omega) (by omega) ?_
      exact W.aret (v := .ref o) hx hb hr (Or.inl ⟨_, rfl⟩) (Or.inr ⟨_, rfl⟩) (fun t ht hW1 => ⟨⟨b, S, N, T, R, sec, by rw [hb0], hbA, by omega, by omega, by rw [ht]; exact mov_J s t H hW1.alike ⟨hB, hN, hds, hJe⟩⟩, hS.F ht⟩) hS.2.2 dL_build_72 hlocks
    · exfalso; omega
  · intro k hk ih b S N T R sec H locs ls hb0 hbA h1T hsec hB hN hds hJe hS hl
    refine lv_iload hx hb dL_build_25 (lv_at hl 0 rfl) ?_
    refine lv_iload_n hx hb dL_build_27 rfl (lv_at hl 1 rfl) ?_
    refine jge (i := k) (j := 12 + e1) (tgt := 71) hC dL_build_28 (by decide) rfl rfl (by omega) (by omega) (fun c1 => ?_) (fun c1 => ?_)
    · exfalso; omega
    refine lv_aload_n hx hb dL_build_31 rfl (lv_at hl 3 rfl) ?_
    refine lv_aload_n hx hb dL_build_32 rfl (lv_at hl 2 rfl) ?_
    refine lv_aload_n hx hb dL_build_33 rfl (lv_at hl 4 rfl) ?_
    refine lv_iload hx hb dL_build_34 (lv_at hl 0 rfl) ?_
    refine lv_bipush (v := 16) hx hb dL_build_36 (by decide) ?_
    refine xrem (v := nI (k % 16)) hC dL_build_38 (by decide) (pk_rem (a := k) (d := 16) (by omega) (by omega) (by omega)) ?_
    refine kL_L_cell hC (c_L_cell l (k := k % 16) hL (by omega)) (fun _ _ _ hvm h => h.moved hvm) (hXH _ _ hS) rfl ⟨rfl, rfl⟩ ⟨Nat.le_of_ble_eq_true rfl, Nat.le_of_ble_eq_true rfl⟩ ⟨by show _ ≤ 3310; omega, by show _ ≤ 26458; omega⟩ hl.1 rfl (Nat.le_of_ble_eq_true rfl) dL_build_39 ?_
    refine lv_iload hx hb dL_build_42 (lv_at hl 0 rfl) ?_
    refine lv_bipush (v := 16) hx hb dL_build_44 (by decide) ?_
    refine lv_idiv hx hb dL_build_46 (by decide) ?_
    refine lv_iconst (v := 3) hx hb dL_build_47 (by decide) ?_
    refine lv_imul hx hb dL_build_48 ?_
    refine lv_ishr hx hb dL_build_49 ?_
    refine lv_sipush (v := 643) hx hb dL_build_50 (by decide) ?_
    refine lv_iload hx hb dL_build_53 (lv_at hl 0 rfl) ?_
    refine lv_imul hx hb dL_build_55 ?_
    refine lv_iadd hx hb dL_build_56 ?_
    generalize clv xs L (k % 16) >>> (nI k / 16 * 3 &&& 31) + 643 * nI k = x9
    rw [← hb0] at hl ⊢
    refine kSq (index := 68) hC (c_L_act l D cI cQ a b S N (T := T) (R := R) (sec := sec) (sz := H.size) x9 (by omega)) (blind mov_Js) (fun U hU hW1 => ⟨by rw [hU], by rw [hU]; exact mov_J s U H hW1.alike ⟨hB, hN, hds, hJe⟩⟩) (good_S (List.mem_of_getElem? (i := 50) (by decide +kernel)) (List.mem_of_getElem? (i := 51) (by decide +kernel)) (List.mem_of_getElem? (i := 29) (by decide +kernel)) (List.mem_of_getElem? (i := 52) (by decide +kernel))) rfl rfl ⟨by decide +kernel, by decide +kernel, by show _ = some 3; decide +kernel⟩ ⟨Nat.le_of_ble_eq_true rfl, Nat.le_of_ble_eq_true rfl⟩ ⟨by show _ ≤ 3310; omega, by show _ ≤ 26458; omega⟩ hl.1 rfl (Nat.le_of_ble_eq_true rfl) dL_build_57 (fun v st t L1 hst hvm hq hL1 => ?_)
    obtain ⟨hv, hPA, hF⟩ := hq
    cases hv
    have hszH := hS.1
    have hS := S_more hS hst hF (fun q z => z.elim Or.inl (fun z => z.elim (fun ⟨j, hj, e⟩ => Or.inr (by rw [e]; exact hbA j hj)) (fun z => Or.inr (Nat.le_trans hS.1 z)))) hL1
    obtain ⟨b', S', N', T', R', sec', g1, g2, g3, g4, g5⟩ := mov_PA t s _ hvm.symm hPA
    generalize hHt : t.heap = H4 at hS g5 ⊢
    refine W.eq (g2 := F0 m 60 ls [.int 1]) rfl ?_
    refine lv_if_ne (tgt := 65) hx hb dL_build_60 (by decide) (fun c2 => ?_) (fun c2 => ?_)
    · refine lv_iinc (v := nI (k + 1)) (lv' := [(4, .int (nI (k + 1))), (3, .int (nI (12 + e1))), (2, .ref (b 0)), (0, .ref (a 13)), (1, .ref bs)]) hx hb dL_build_65 hl (k := 0) rfl (ninc k) (by decide) rfl (fun ls hl => ?_)
      refine lv_goto (tgt := 25) hx hb dL_build_68 (by decide) ?_
      refine W.widen (k := 10 + 60 * (k + 1)) (n := 58 + 480 * (k + 1)) (by omega) (by omega) ?_
      exact ih b' S' N' T' R' sec' H4 _ ls (g1.trans hb0) (fun j hj => (g2 j hj).elim (fun ⟨i, hi, e⟩ => by rw [e]; exact hbA i hi) (fun z => Nat.le_trans hszH z)) (Or.inr g3) (by omega) g5.1 g5.2.1 g5.2.2.1 g5.2.2.2 hS (by rw [← hb0]; exact hl)
    · exact absurd c2 (by decide)

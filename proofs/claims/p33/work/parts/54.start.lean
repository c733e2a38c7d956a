/-! THE CLAIM OUT OF ONE WALK OF THE LAW'S BODY. Your part is whole_start (and what it stands on); all else here is the same for every law, but numbers. -/
def R_law : String := "BellHushLaw"
def lw_P (b : Addr) (xs : List Int32) (args : Array Value) (s : State) : Prop := args = #[.ref b] ∧ s.IntsAt b xs ∧ xs.length ≤ 260 ∧ (Jvm.Cond.and given_1 narrow_1).before args s = true
/-- what a walk over the start with the record d0 says of its end, said of the start itself -/
theorem lw_closed {s t : State} {o : Outcome} {d0 : Drawn} {L : List Loc} {k n : Nat} (hd0 : s.drawn.sameBut d0 lw_cs) (hv : ∃ v, o = .returned v) (hW : (s.setDrawn d0).WarmedH t.vm) (hs : (s.setDrawn d0).sameButNew ({ t with vm := s.vm } : State) L k n) : State.butDraws s t lw_cs (fun t1 => Framed s o t1 L k n) := by
  have h2 : t.drawn = d0 := congrArg State.drawn hs.1
  refine ⟨⟨hv, hW, State.sameButNew.setDrawn hs s.drawn⟩, ?_, by decide⟩
  rw [h2]
  exact hd0
def lw_Q (_ : Array Value) (s : State) (o : Outcome) (t : State) : Prop := o = .returned (some (.int 1)) ∧ State.butDraws s t lw_cs (fun t1 => Framed s o t1 [] 600130 7301080)
def lw_Z (below : List Frame) (a : Array Value) (s : State) : State → Prop := fun t => ∃ o, t.status = .running ∧ Ended t below o ∧ lw_Q a s o t
/-- the law's own end, with 1 on the stack, nothing written that was there before, its room as the claim has it; d0: the record of draws at this point (at the entry s.drawn: begin with 'refine W.base ?_' and 'have hd0 := Drawn.sameBut.refl s.drawn lw_cs') -/
theorem lw_ret {p : Program} {l : Launch} {e : Env} {s : State} {m : MethodId} {below : List Frame} {meth : Method} {c : Code} {b : Nat} {d0 : Drawn} (hd0 : s.drawn.sameBut d0 lw_cs) (hx : p.tables.exec = Jvm.exec) (hb : c.code = code) (hr : meth.sig.returnType = ret) (hlocks : meth.locks = false) {pc : Nat} {H : Heap} {ls : Array Slot} (hdg : decode code pc = .ok (.ireturn, 1)) : W p l e room_1 (s.setDrawn d0) m #[Value.ref b] below meth c H [] 600130 7301080 (lw_Z below #[Value.ref b] s) (F0 m pc ls [.int 1]) := by
  intro T hT X
  obtain ⟨fs, hret, hrun, hended, hW, hframe⟩ := X.leave (v := some (.int 1)) (hlocks := hlocks) (fun h => by rw [hr] at h; cases h)
  have hmeth' : T.vm.method? m = some meth := X.method'
  refine ⟨T.setFrames fs, ?_, .returned (some (.int 1)), hrun, hended, rfl, lw_closed hd0 ⟨_, rfl⟩ hW hframe⟩
  jvm_step X.here [X.here.top, hx, hb, hdg, hmeth', hr, ret, narrow_b1]
  (try refine ⟨rfl, ?_⟩); (try refine ⟨rfl, ?_⟩)
  first | (intro acts; rw [hret _ acts rfl rfl rfl]) | rw [hret _ _ rfl rfl rfl]
  exact Steps.refl _
/-- what holds at the law's entry: the machine, the code, the tables' words (any of lw_tbl by 'hts w (by decide +kernel)'), the script of L ints xs at the cell b, what the Statement gives of the start (any of its parts by flat_of_before) -/
def lw_At (p : Program) (s : State) (m : MethodId) (meth : Method) (c : Code) (b L : Nat) (xs : Nat → Int32) : Prop :=
  p.tables.exec = Jvm.exec ∧ c.code = code ∧ meth.sig.returnType = ret ∧ c.maxLocals = 25 ∧ s.vm.findClass R_law = some m.cls ∧ (∀ w ∈ lw_tbl, w.before #[Value.ref b] s = true) ∧ va_X b L xs s s.heap ∧ b < s.heap.size ∧ meth.locks = false ∧ (Jvm.Cond.and given_1 narrow_1).before #[Value.ref b] s = true
/-! ===== the law's start ===== -/
theorem AOA_of {A : Array Value} {s : State} (hts : ∀ w ∈ lw_tbl, w.before A s = true) : va_AOA .int s := hts (.arrayOver (.array .int)) (by decide +kernel)
theorem nest_of {A : Array Value} {s : State} (hts : ∀ w ∈ lw_tbl, w.before A s = true) : va_Nw (.methodLinkNest RL 63 yX1_init RL) s := va_Nw.of rfl (hts (.methodLinkNest RL 63 yX1_init RL) (by decide +kernel))
set_option maxHeartbeats 4000000 in
set_option maxRecDepth 100000 in
theorem whole_start {p : Program} {e : Env} {s : State} {m : MethodId} {below : List Frame} {meth : Method} {c : Code} (l : Launch) (hflags : l.flags = flags0) {b L : Nat} {xs : Nat → Int32} (hL : L ≤ 260) (C0 : lw_At p s m meth c b L xs) : W p l e room_1 s m #[Value.ref b] below meth c s.heap [] 0 0 (lw_Z below #[Value.ref b] s) (entryFrame m ([Value.ref b] : List Value).toArray 25) := by
  obtain ⟨hx, hb, hr, hml, hown, hts, hbx, hbl, hlocks, hgv⟩ := id C0
  have hC : CallFix p m c cL_law 25 s #[Value.ref b] wsL_law RL := ⟨hx, hb, hml, hown, fun w h => hts w (wsL_law_in w h)⟩
  have hAO := AOA_of hts
  have hnest := nest_of hts
  obtain ⟨c0, iS0, hKn0⟩ := u_known (C := RX0) (T := TX0) (N := 10) (n := 10) hC.2.2.2.2 inlX0 (hC.2.2.2.2 _ (List.mem_of_getElem? (i := 1) (by decide +kernel)))
  obtain ⟨c1, iS1, hKn1⟩ := u_known (C := RX1) (T := TX1) (N := 4) (n := 4) hC.2.2.2.2 inlX1 (hC.2.2.2.2 _ (List.mem_of_getElem? (i := 32) (by decide +kernel)))
  obtain ⟨D, hKc⟩ : ∃ D : va_G, ∀ (k : Nat) (q : vw_C), vwCl[k]? = some q → u_Kn s q.1 q.2.1 q.2.2 (D.1 k) (D.2 k) := by
    refine ⟨(fun k => if k = 0 then c0 else c1, fun k => if k = 0 then iS0 else iS1), ?_⟩
    intro k q hq
    match k, hq with
    | 0, hq => cases hq; exact hKn0
    | 1, hq => cases hq; exact hKn1
    | k + 2, hq => simp [vwCl] at hq
  have hA : ∀ q : Nat, s.heap.size ≤ q → (fun q => s.heap.size ≤ q) q := fun _ h => h
  have hS : va_S (fun q => s.heap.size ≤ q) s.heap s.heap [] := va_S.rf
  have hK : va_K D vwCl [] s := ⟨hKc, fun k q h => by simp at h⟩
  have hP : va_P D vwCl [] s.heap := fun k q h => by simp at h
  have hD : va_D (fun q => s.heap.size ≤ q) [] := ⟨fun i j p q h => by simp at h, fun k q h => by simp at h⟩
  have hl := lv_entry ([.ref b]) (n := 25) (Nat.le_of_ble_eq_true rfl)
  rw [lg_entry_eq]
  generalize (lg_sl ([.ref b]) ++ List.replicate (25 - (lg_sl ([.ref b])).length) Slot.unset).toArray = ls at hl ⊢
  have hl : lv_has ls 25 [(0, .ref b)] := hl
  refine va_new (ci := 0) (fs := [.null, .null, .null, .null, .null, .null, .null, .int 0, .int 0, .int 0]) (C := RX0) (T := TX0) (N := 10) hx hb hC.2.2.2.2 inlX0 tyX0 tyX0_ok hC.2.2.2.1 (hC.2.2.2.2 _ (List.mem_of_getElem? (i := 0) (by decide +kernel))) (hC.2.2.2.2 _ (List.mem_of_getElem? (i := 1) (by decide +kernel))) (hC.2.2.2.2 _ (List.mem_of_getElem? (i := 2) (by decide +kernel))) hK hP hD hS hA rfl (fun j hj => by rcases (show j = 0 ∨ j = 1 ∨ j = 2 ∨ j = 3 ∨ j = 4 ∨ j = 5 ∨ j = 6 ∨ j = 7 ∨ j = 8 ∨ j = 9 by omega) with rfl | rfl | rfl | rfl | rfl | rfl | rfl | rfl | rfl | rfl <;> rfl) (Nat.le_of_ble_eq_true rfl) (Nat.le_of_ble_eq_true rfl) dL_law_0 (fun qb H hP hD hS => ?_)
  have hP : va_P D vwCl [(qb, .inr (0, [.null, .null, .null, .null, .null, .null, .null, .int 0, .int 0, .int 0]))] H := hP
  have hqb : s.heap.size ≤ qb := hD.2 0 _ rfl
  refine lv_dup hx hb dL_law_3 rfl ?_
  refine kI (mc := 13) (ms := 100) hC (i_X0 l D qb H.size) bl_X0 (fun U hU hW1 => ⟨by rw [hU], hK.moved hW1.alike, AOA_warm hW1.alike hAO, by rw [hU]; exact hP⟩) rfl (List.mem_of_getElem? (i := 15) (by decide +kernel)) (List.mem_of_getElem? (i := 13) (by decide +kernel)) (List.mem_of_getElem? (i := 14) (by decide +kernel)) (List.mem_of_getElem? (i := 2) (by decide +kernel)) rfl rfl ⟨by decide +kernel, by decide +kernel, by decide +kernel⟩ ⟨Nat.le_of_ble_eq_true rfl, Nat.le_of_ble_eq_true rfl⟩ ⟨Nat.le_of_ble_eq_true rfl, Nat.le_of_ble_eq_true rfl⟩ hl.1 (Nat.le_of_ble_eq_true rfl) dL_law_4 (fun v st t L1 hst hvm hq hL1 => ?_)
  obtain ⟨hv, ⟨cI, cQ, a, ha13, halo, hB⟩, hF⟩ := hq
  cases hv
  have hA1 : ∀ q, (q = qb ∨ H.size ≤ q) → (fun q => s.heap.size ≤ q) q := fun q z => z.elim (fun z => by rw [z]; exact hqb) (fun z => Nat.le_trans hS.1 z)
  have hS := S_more hS hst hF hA1 hL1
  have hB := hB.moved hvm.symm
  have haA : ∀ k, k < 14 → s.heap.size ≤ a k := fun k hk => by
    by_cases h : k = 13
    · rw [h, ha13]; exact hqb
    · exact hA1 _ (Or.inr (halo k (by omega)))
  generalize t.heap = H at hS hB ⊢
  generalize [] ++ L1 = locs at hS ⊢
  rw [← ha13]
  have hab : ∀ i, i < 14 → a i ≠ b := fun i hi z => by
    have := haA i hi
    omega
  have hXH : va_X b L xs s H := hbx.kept (hS.2.1 b hbl (Nat.not_le.mpr hbl))
  refine lv_astore_n (lv' := [(1, .ref (a 13)), (0, .ref b)]) hx hb dL_law_7 rfl hl (by decide) rfl (fun ls hl => ?_)
  refine lv_aload_n hx hb dL_law_8 rfl (lv_at hl 0 rfl) ?_
  refine lv_aload_n hx hb dL_law_9 rfl (lv_at hl 1 rfl) ?_
  refine kSq (index := 73) hC (c_L_build l D cI cQ a (bs := b) (L := L) (sz := H.size) (xs := xs) hL hab) bl_B (fun U hU hW1 => ⟨by rw [hU], by rw [hU]; exact hB.moved hW1.alike, AOA_mv hW1.alike hAO, by rw [hU]; exact hXH.moved hW1.alike, va_Nw.warmM hW1 hnest⟩) (good_S (List.mem_of_getElem? (i := 27) (by decide +kernel)) (List.mem_of_getElem? (i := 28) (by decide +kernel)) (List.mem_of_getElem? (i := 29) (by decide +kernel)) (List.mem_of_getElem? (i := 30) (by decide +kernel))) rfl rfl ⟨by decide +kernel, by decide +kernel, by show _ = some 2; decide +kernel⟩ ⟨Nat.le_of_ble_eq_true rfl, Nat.le_of_ble_eq_true rfl⟩ ⟨Nat.le_of_ble_eq_true rfl, Nat.le_of_ble_eq_true rfl⟩ hl.1 rfl (Nat.le_of_ble_eq_true rfl) dL_law_10 (fun v st t L2 hst hvm hq hL2 => ?_)
  obtain ⟨⟨b', S, N, T, R, sec, hv, hbge, hT1, hsec, hJW⟩, hF⟩ := hq
  cases hv
  have hszH := hS.1
  have hS := S_more hS hst hF (fun q z => z.elim (fun ⟨i, hi, e⟩ => by rw [e]; exact haA i hi) (fun z => Nat.le_trans hszH z)) hL2
  obtain ⟨hB, hN, hds, hJe⟩ := mov_J t s _ hvm.symm hJW
  have hbA : ∀ j : Nat, j < 10 + T → s.heap.size ≤ b' j := fun j hj => Nat.le_trans hszH (hbge j hj)
  generalize t.heap = H2 at hS hB hN ⊢
  generalize locs ++ L2 = locs2 at hS ⊢
  refine W.eq (g2 := F0 m 13 ls [.ref (b' 0)]) rfl ?_
  refine lv_astore_n (lv' := [(2, .ref (b' 0)), (1, .ref (a 13)), (0, .ref b)]) hx hb dL_law_13 rfl hl (by decide) rfl (fun ls hl => ?_)
  refine lv_aload_n hx hb dL_law_14 rfl (lv_at hl 0 rfl) ?_
  refine lv_ifnonnull (tgt := 20) hx hb dL_law_15 (by decide) ?_
  refine lv_iconst (v := 0) hx hb dL_law_20 (by decide) ?_
  refine lv_istore_n (lv' := [(3, .int 0), (2, .ref (b' 0)), (1, .ref (a 13)), (0, .ref b)]) hx hb dL_law_21 rfl hl (by decide) rfl (fun ls hl => ?_)
  refine law_loop (o := b' 0) hC hL hbx hbl haA (fun b9 S9 N9 T9 R9 sec9 H9 locs9 cells9 slots9 ls hb9 hB hN hJe hS hc1 hc2 hl => ?_) 36 0 rfl b' S N T R sec H2 locs2 _ _ ls rfl hbA hT1 (by omega) hB hN hds hJe hS (Nat.le_of_ble_eq_true rfl) (Nat.le_of_ble_eq_true rfl) (lv_sub hl [0, 3, 2, 1] rfl)
  obtain ⟨w9, p9, bt9, u9, q9, hJ⟩ := hJe
  refine lv_aload_n hx hb dL_law_937 rfl (lv_at hl 2 rfl) ?_
  refine lv_aload_n hx hb dL_law_938 rfl (lv_at hl 1 rfl) ?_
  rw [← hb9]
  refine kV (index := 144) (C := RX1) hC (c_X1_isSame l D cI cQ a b9 hJ) (fun _ _ _ hvm h => ⟨h.1.moved hvm, h.2.moved hvm⟩) ⟨hB, hN⟩ (rec_S hN) (good_V (List.mem_of_getElem? (i := 259) (by decide +kernel)) (List.mem_of_getElem? (i := 260) (by decide +kernel)) (List.mem_of_getElem? (i := 261) (by decide +kernel)) (List.mem_of_getElem? (i := 33) (by decide +kernel)) (List.mem_of_getElem? (i := 262) (by decide +kernel))) rfl rfl ⟨rfl, by decide +kernel, by decide +kernel, by show _ = some 1; decide +kernel⟩ ⟨Nat.le_of_ble_eq_true rfl, Nat.le_of_ble_eq_true rfl⟩ ⟨hc1, hc2⟩ hl.1 rfl (Nat.le_of_ble_eq_true rfl) dL_law_939 ?_
  refine va_forget (fun q hq => hS.2.2 q hq) ?_
  refine W.widen (k := 600130) (n := 7301080) hc1 hc2 ?_
  exact W.base (lw_ret (Drawn.sameBut.refl s.drawn lw_cs) hx hb hr hlocks dL_law_942)

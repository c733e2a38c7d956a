/-! THE CLAIM OUT OF ONE WALK OF THE LAW'S BODY. Your part is whole_start (and what it stands on); all else here is the same for every law, but numbers. -/
def R_law : String := "BellHushLaw"
def lw_P (b : Addr) (xs : List Int32) (args : Array Value) (s : State) : Prop := args = #[.ref b] ∧ s.IntsAt b xs ∧ xs.length ≤ 2048 ∧ (Jvm.Cond.and given_1 narrow_1).before args s = true
/-- what a walk over the start with the record d0 says of its end, said of the start itself -/
theorem lw_closed {s t : State} {o : Outcome} {d0 : Drawn} {L : List Loc} {k n : Nat} (hd0 : s.drawn.sameBut d0 lw_cs) (hv : ∃ v, o = .returned v) (hW : (s.setDrawn d0).WarmedH t.vm) (hs : (s.setDrawn d0).sameButNew ({ t with vm := s.vm } : State) L k n) : State.butDraws s t lw_cs (fun t1 => Framed s o t1 L k n) := by
  have h2 : t.drawn = d0 := congrArg State.drawn hs.1
  refine ⟨⟨hv, hW, State.sameButNew.setDrawn hs s.drawn⟩, ?_, by decide⟩
  rw [h2]
  exact hd0
def lw_Q (_ : Array Value) (s : State) (o : Outcome) (t : State) : Prop := o = .returned (some (.int 1)) ∧ State.butDraws s t lw_cs (fun t1 => Framed s o t1 [] 601024 7293034)
def lw_Z (below : List Frame) (a : Array Value) (s : State) : State → Prop := fun t => ∃ o, t.status = .running ∧ Ended t below o ∧ lw_Q a s o t
/-- the law's own end, with 1 on the stack, nothing written that was there before, its room as the claim has it; d0: the record of draws at this point (at the entry s.drawn: begin with 'refine W.base ?_' and 'have hd0 := Drawn.sameBut.refl s.drawn lw_cs') -/
theorem lw_ret {p : Program} {l : Launch} {e : Env} {s : State} {m : MethodId} {below : List Frame} {meth : Method} {c : Code} {b : Nat} {d0 : Drawn} (hd0 : s.drawn.sameBut d0 lw_cs) (hx : p.tables.exec = Jvm.exec) (hb : c.code = code) (hr : meth.sig.returnType = ret) (hlocks : meth.locks = false) {pc : Nat} {H : Heap} {ls : Array Slot} (hdg : decode code pc = .ok (.ireturn, 1)) : W p l e room_1 (s.setDrawn d0) m #[Value.ref b] below meth c H [] 601024 7293034 (lw_Z below #[Value.ref b] s) (F0 m pc ls [.int 1]) := by
  intro T hT X
  obtain ⟨fs, hret, hrun, hended, hW, hframe⟩ := X.leave (v := some (.int 1)) (hlocks := hlocks) (fun h => by rw [hr] at h; cases h)
  have hmeth' : T.vm.method? m = some meth := X.method'
  refine ⟨T.setFrames fs, ?_, .returned (some (.int 1)), hrun, hended, rfl, lw_closed hd0 ⟨_, rfl⟩ hW hframe⟩
  jvm_step X.here [X.here.top, hx, hb, hdg, hmeth', hr, ret, narrow_b1]
  (try refine ⟨rfl, ?_⟩); (try refine ⟨rfl, ?_⟩)
  first | (intro acts; rw [hret _ acts rfl rfl rfl]) | rw [hret _ _ rfl rfl rfl]
  exact Steps.refl _
/-- what holds at the law's entry: the machine, the code, the tables' words (any of lw_tbl by 'hts w (by decide +kernel)'), the script of L ints xs at the cell b, what the Statement gives of the start (any of its parts by flat_of_before) -/
def lw_At (p : Program) (s : State) (m : MethodId) (meth : Method) (c : Code) (b L : Nat) (xs : Nat → Int32) : Prop :=
  p.tables.exec = Jvm.exec ∧ c.code = code ∧ meth.sig.returnType = ret ∧ c.maxLocals = 9 ∧ s.vm.findClass R_law = some m.cls ∧ (∀ w ∈ lw_tbl, w.before #[Value.ref b] s = true) ∧ va_X b L xs s s.heap ∧ b < s.heap.size ∧ meth.locks = false ∧ (Jvm.Cond.and given_1 narrow_1).before #[Value.ref b] s = true

theorem mv_0 : Cond.classLink RL 8 RX0 ∈ wsL_law := List.mem_of_getElem? (i := 0) (by decide +kernel)
theorem mv_1 : Cond.instantiable RX0 10 ∈ wsL_law := List.mem_of_getElem? (i := 1) (by decide +kernel)
theorem mv_3 : Cond.classLink RL 80 RX1 ∈ wsL_law := List.mem_of_getElem? (i := 3) (by decide +kernel)
theorem mv_4 : Cond.instantiable RX1 8 ∈ wsL_law := List.mem_of_getElem? (i := 4) (by decide +kernel)
theorem mv_6 : Cond.arrayClass .long ∈ wsL_law := List.mem_of_getElem? (i := 6) (by decide +kernel)
theorem mv_7 : Cond.methodLink RL 79 yX0_init ∈ wsL_law := List.mem_of_getElem? (i := 7) (by decide +kernel)
theorem mv_8 : Cond.instanceMethod yX0_init ∈ wsL_law := List.mem_of_getElem? (i := 8) (by decide +kernel)
theorem mv_9 : Cond.code yX0_init cX0_init 1 none ∈ wsL_law := List.mem_of_getElem? (i := 9) (by decide +kernel)
theorem mv_22 : Cond.methodLink RL 82 yX1_init ∈ wsL_law := List.mem_of_getElem? (i := 22) (by decide +kernel)
theorem mv_23 : Cond.instanceMethod yX1_init ∈ wsL_law := List.mem_of_getElem? (i := 23) (by decide +kernel)
theorem mv_24 : Cond.code yX1_init cX1_init 1 none ∈ wsL_law := List.mem_of_getElem? (i := 24) (by decide +kernel)
/-! ===== the law's start ===== -/
theorem tx_of {A : Array Value} {s : State} {k : Nat} {tx : String} (h1 : (Cond.stringRef RX0 k tx).before A s = true) (h2 : (Cond.exactly (.string RX0 k) "java/lang/String").before A s = true) : ∃ sa, vk_R RX0 k tx sa s := by
  obtain ⟨sa, -, -, -, h3, -⟩ := Cond.exactly_spec h2
  exact ⟨sa, vk_R.of h1 h3⟩
theorem not_nc {A : Array Value} {s : State} {E E' : String} (h : (Cond.not (.castable E E')).before A s = true) : va_Nc E E' s := va_Nc.of h
theorem ZX_of {A : Array Value} {s : State} (hts : ∀ w ∈ lw_tbl, w.before A s = true) (hs : ∀ c ∈ flatC (Jvm.Cond.and given_1 narrow_1), c.before A s = true) : ZX s := by
  refine ⟨?_, ?_, ?_, ?_⟩
  · have w0 := tx_of (hts (.stringRef RX0 35 "loudness is not 1 to 9") (by decide +kernel)) (hs (.exactly (.string RX0 35) "java/lang/String") (by decide +kernel))
    have w1 := tx_of (hts (.stringRef RX0 40 "period is not 2 to 20") (by decide +kernel)) (hs (.exactly (.string RX0 40) "java/lang/String") (by decide +kernel))
    have w2 := tx_of (hts (.stringRef RX0 42 "beat is not 0 to the period less 1") (by decide +kernel)) (hs (.exactly (.string RX0 42) "java/lang/String") (by decide +kernel))
    have w3 := tx_of (hts (.stringRef RX0 50 "there are 8 towers") (by decide +kernel)) (hs (.exactly (.string RX0 50) "java/lang/String") (by decide +kernel))
    have w4 := tx_of (hts (.stringRef RX0 65 "there are 6 traders") (by decide +kernel)) (hs (.exactly (.string RX0 65) "java/lang/String") (by decide +kernel))
    have w5 := tx_of (hts (.stringRef RX0 81 "this one would hold more than 9") (by decide +kernel)) (hs (.exactly (.string RX0 81) "java/lang/String") (by decide +kernel))
    have w6 := tx_of (hts (.stringRef RX0 83 "the purse has less") (by decide +kernel)) (hs (.exactly (.string RX0 83) "java/lang/String") (by decide +kernel))
    have w7 := tx_of (hts (.stringRef RX0 85 "this one would hold less than -9") (by decide +kernel)) (hs (.exactly (.string RX0 85) "java/lang/String") (by decide +kernel))
    have w8 := tx_of (hts (.stringRef RX0 154 "there is no such tower") (by decide +kernel)) (hs (.exactly (.string RX0 154) "java/lang/String") (by decide +kernel))
    have w9 := tx_of (hts (.stringRef RX0 157 "there is no such trader") (by decide +kernel)) (hs (.exactly (.string RX0 157) "java/lang/String") (by decide +kernel))
    have w10 := tx_of (hts (.stringRef RX0 159 "seconds is not 1 to 9") (by decide +kernel)) (hs (.exactly (.string RX0 159) "java/lang/String") (by decide +kernel))
    have w11 := tx_of (hts (.stringRef RX0 161 "seconds is not 1 to 60") (by decide +kernel)) (hs (.exactly (.string RX0 161) "java/lang/String") (by decide +kernel))
    exact List.forall_mem_cons.mpr ⟨w0, List.forall_mem_cons.mpr ⟨w1, List.forall_mem_cons.mpr ⟨w2, List.forall_mem_cons.mpr ⟨w3, List.forall_mem_cons.mpr ⟨w4, List.forall_mem_cons.mpr ⟨w5, List.forall_mem_cons.mpr ⟨w6, List.forall_mem_cons.mpr ⟨w7, List.forall_mem_cons.mpr ⟨w8, List.forall_mem_cons.mpr ⟨w9, List.forall_mem_cons.mpr ⟨w10, List.forall_mem_cons.mpr ⟨w11, List.forall_mem_nil _⟩⟩⟩⟩⟩⟩⟩⟩⟩⟩⟩⟩
  · exact List.forall_mem_cons.mpr ⟨va_Nw.of rfl (hts (.castable eIA eIA) (by decide +kernel)), List.forall_mem_cons.mpr ⟨va_Nw.of rfl (hts (.castable eIS eIS) (by decide +kernel)), List.forall_mem_cons.mpr ⟨va_Nw.of rfl (hts (.castable eIO eIO) (by decide +kernel)), List.forall_mem_nil _⟩⟩⟩
  · exact List.forall_mem_cons.mpr ⟨List.forall_mem_cons.mpr ⟨(fun ne => absurd rfl ne), List.forall_mem_cons.mpr ⟨(fun _ => not_nc (hs (.not (.castable eIA eIS)) (by decide +kernel))), List.forall_mem_cons.mpr ⟨(fun _ => not_nc (hs (.not (.castable eIA eIO)) (by decide +kernel))), List.forall_mem_nil _⟩⟩⟩, List.forall_mem_cons.mpr ⟨List.forall_mem_cons.mpr ⟨(fun _ => not_nc (hs (.not (.castable eIS eIA)) (by decide +kernel))), List.forall_mem_cons.mpr ⟨(fun ne => absurd rfl ne), List.forall_mem_cons.mpr ⟨(fun _ => not_nc (hs (.not (.castable eIS eIO)) (by decide +kernel))), List.forall_mem_nil _⟩⟩⟩, List.forall_mem_cons.mpr ⟨List.forall_mem_cons.mpr ⟨(fun _ => not_nc (hs (.not (.castable eIO eIA)) (by decide +kernel))), List.forall_mem_cons.mpr ⟨(fun _ => not_nc (hs (.not (.castable eIO eIS)) (by decide +kernel))), List.forall_mem_cons.mpr ⟨(fun ne => absurd rfl ne), List.forall_mem_nil _⟩⟩⟩, List.forall_mem_nil _⟩⟩⟩
  · exact List.forall_mem_cons.mpr ⟨va_Nw.of rfl (hts (.declares (Bundle.initS "java/lang/RuntimeException")) (by decide +kernel)), List.forall_mem_cons.mpr ⟨va_Nw.of rfl (hts (.declares (Bundle.initS "java/lang/Exception")) (by decide +kernel)), List.forall_mem_cons.mpr ⟨va_Nw.of rfl (hts (.declares (Bundle.initS Bundle.tN)) (by decide +kernel)), List.forall_mem_nil _⟩⟩⟩
theorem ZH_of {A : Array Value} {s : State} (hts : ∀ w ∈ lw_tbl, w.before A s = true) (hs : ∀ c ∈ flatC (Jvm.Cond.and given_1 narrow_1), c.before A s = true) : ZH (A0 s) s s.heap :=
  ⟨vx_Zqof (hts (.laysStatic Bundle.tN "UNASSIGNED_STACK" Bundle.steD) (by decide +kernel)) (hts (.initialized Bundle.tN) (by decide +kernel)) (hs (.isRef (.static Bundle.tN "UNASSIGNED_STACK" Bundle.steD)) (by decide +kernel)) (fun a ha => Nat.not_le.mpr ha),
   vx_Zqof (hts (.laysStatic Bundle.tN "SUPPRESSED_SENTINEL" Bundle.listD) (by decide +kernel)) (hts (.initialized Bundle.tN) (by decide +kernel)) (hs (.isRef (.static Bundle.tN "SUPPRESSED_SENTINEL" Bundle.listD)) (by decide +kernel)) (fun a ha => Nat.not_le.mpr ha)⟩
theorem AOA_of {A : Array Value} {s : State} (hts : ∀ w ∈ lw_tbl, w.before A s = true) : va_AOA .int s := hts (.arrayOver (.array .int)) (by decide +kernel)
theorem Jn_0 : Jn (fun _ _ => 0) (fun _ _ => 0) 0 := by
  refine ⟨0, 0, 0, 100, fun _ => 0, fun _ => 0, fun _ => 0, fun _ => 0, fun _ => 0, ⟨⟨rfl, rfl, by decide, by decide⟩, ⟨fun _ _ => rfl, fun _ _ _ _ => rfl, fun _ _ => rfl, fun _ _ => rfl, rfl⟩, fun t ht => absurd ht (by omega), ⟨rfl, rfl, by decide, by decide⟩, ⟨rfl, by decide, fun t ht => absurd ht (by omega)⟩, fun r t _ _ => ⟨(show -9 ≤ (0 : Int32).toInt ∧ (0 : Int32).toInt ≤ 9 by decide), fun _ => rfl⟩, fun t _ _ => ⟨rfl, rfl⟩, fun r hr => absurd hr (by omega)⟩, by omega, by omega, by omega⟩
theorem bl_X0 {D : va_G} {h0 sz : Nat} : FrameBlind (va_Pc [.ref h0] (iP_X0 D h0 sz)) := fun a U g mk h => ⟨h.1, h.2.1, va_K.moved (u := U) (U := U.calling g mk a) (Vm.Alike.refl U.vm) h.2.2.1, AOA_warm (s := U) (U := U.calling g mk a) (Vm.Alike.refl U.vm) h.2.2.2.1, h.2.2.2.2⟩
theorem bl_X1 {D : va_G} {h0 sz : Nat} : FrameBlind (va_Pc [.ref h0] (iP_X1 D h0 sz)) := fun a U g mk h => ⟨h.1, h.2.1, va_K.moved (u := U) (U := U.calling g mk a) (Vm.Alike.refl U.vm) h.2.2.1, h.2.2.2⟩
section BI9
variable {p : Program} {l : Launch} {e : Env} {R : Room} {s : State} {m : MethodId} {args : Array Value} {below : List Frame} {meth : Method} {c : Code} {H : Heap} {locs : List Loc} {cells slots : Nat} {Q : State → Prop}
variable {cc : ByteArray} {pc nL n index : Nat} {ls : Array Slot} {rest st0 : List Value} {A : Nat → Prop} {rm : Room} {own : String} {y : MethodName} {bytes : ByteArray} {h0 mc ms : Nat}
theorem kI {iP : State → Prop} {Qc : Array Value → State → Outcome → State → Prop} (hC : CallFix p m c cc nL s args wsL_law own) (hM : Met l y (wq y bytes n none) rm (va_Pc [.ref h0] iP) Qc mc ms A) (hbl : FrameBlind (va_Pc [.ref h0] iP)) (hp : ∀ U : State, U.heap = H → s.WarmedH U.vm → iP U) (hy : y.name = "<init>") (hm0 : Cond.code y bytes n none ∈ wsL_law) (hm1 : Cond.methodLink own index y ∈ wsL_law) (hm2 : Cond.instanceMethod y ∈ wsL_law) (hm3 : Cond.initialized y.cls ∈ wsL_law) (hrc : rm.cells = mc) (hrs : rm.slots = ms)
    (hd : y.cls ≠ "java/lang/invoke/MethodHandle" ∧ y.cls ≠ "java/lang/invoke/VarHandle" ∧ (parseMethodDescriptor y.desc).map (fun d => d.parameters.length) = some 0) (hR : rm.frames + 1 ≤ R.frames ∧ 8 + (n + 11) + rm.locals ≤ R.locals) (hf : cells + mc ≤ R.cells ∧ slots + ms ≤ R.slots) (hls : ls.size = nL) (hr8 : (rest.map fun v => v.category).sum ≤ 8) (hdg : decode cc pc = .ok (.invokespecial index, 3))
    (kk : ∀ (v : Option Value) (st t : State) (L : List Loc), st.heap = H → s.vm.Alike t.vm → Qc (List.toArray [.ref h0]) st (.returned v) t → (∀ z ∈ L, A z.base) → W p l e R s m args below meth c t.heap (locs ++ L) (cells + mc) (slots + ms) Q (F0 m (pc + 3) ls (v.toList ++ rest))) : W p l e R s m args below meth c H locs cells slots Q (F0 m pc ls (.ref h0 :: rest)) := by
  have hG : GoodIn wsL_law (wq y bytes n none) := good_in (fun w hw => (List.mem_cons.mp hw).elim (fun e => by rw [e]; exact hm0) (fun h => h))
  have hr := va_runI (e := e) (H := H) (As := []) (rest := rest) (locs := locs) (cells := cells) (slots := slots) (below := below) (meth := meth) hC hM (cwI 0 hC.2.2.2.2 hG rfl hrc hrs (hC.2.2.2.2 _ hm3) (hC.2.2.2.2 _ hm1) (hC.2.2.2.2 _ hm2) hy hd hR) ⟨hbl, fun U hU hW1 => ⟨rfl, hp U hU hW1⟩⟩ (g := F0 m pc ls (.ref h0 :: rest)) rfl rfl hls rfl (lv_room hr8) hdg hf
  intro T hT X
  obtain ⟨v, st₀, t, T', L, h1, X', hL, e1, e2, hq, st⟩ := hr T hT X
  obtain ⟨t2, a1, b1⟩ := kk v st₀ t L h1 (by rw [← e2]; exact X'.warmed.alike) hq hL T' e1 X'
  exact ⟨t2, st t2 a1, b1⟩
end BI9
theorem S_more {A B : Nat → Prop} {H0 H : Heap} {st t : State} {locs L : List Loc} (hS : va_S A H0 H locs) (hst : st.heap = H) (hF : va_F B st t) (hB : ∀ q, B q → A q) (hL : ∀ z ∈ L, B z.base) : va_S A H0 t.heap (locs ++ L) := by
  obtain ⟨hz, hk⟩ := hF
  rw [hst] at hz hk
  exact ⟨Nat.le_trans hS.1 hz, fun q h1 h2 => by rw [hk q (Nat.lt_of_lt_of_le h1 hS.1) (fun z => h2 (hB q z))]; exact hS.2.1 q h1 h2, fun q hq => by
    rcases List.mem_append.mp hq with h | h
    · exact hS.2.2 q h
    · exact hB _ (hL q h)⟩
set_option maxHeartbeats 4000000 in
set_option maxRecDepth 100000 in
theorem whole_start {p : Program} {e : Env} {s : State} {m : MethodId} {below : List Frame} {meth : Method} {c : Code} (l : Launch) (hflags : l.flags = flags0) {b L : Nat} {xs : Nat → Int32} (hL : L ≤ 2048) (C0 : lw_At p s m meth c b L xs) : W p l e room_1 s m #[Value.ref b] below meth c s.heap [] 0 0 (lw_Z below #[Value.ref b] s) (entryFrame m ([Value.ref b] : List Value).toArray 9) := by
  obtain ⟨hx, hb, hr, hml, hown, hts, hbx, hbl, hlocks, hgv⟩ := id C0
  have hC : CallFix p m c cL_law 9 s #[Value.ref b] wsL_law RL := ⟨hx, hb, hml, hown, fun w h => hts w (wsL_law_in w h)⟩
  have hs := flat_of_before _ hgv
  have hZX := ZX_of hts hs
  have hZH := ZH_of hts hs
  have hAO := AOA_of hts
  have hl9 : l.stackTraces = false := by unfold Launch.stackTraces; rw [hflags]; decide +kernel
  obtain ⟨c0, iS0, hKn0⟩ := u_known (C := RX0) (T := TX0) (N := 10) (n := 10) hC.2.2.2.2 inlX0 (hC.2.2.2.2 _ mv_1)
  obtain ⟨c1, iS1, hKn1⟩ := u_known (C := RX1) (T := TX1) (N := 8) (n := 8) hC.2.2.2.2 inlX1 (hC.2.2.2.2 _ mv_4)
  obtain ⟨D, hKc⟩ : ∃ D : va_G, ∀ (k : Nat) (q : vw_C), vwCl[k]? = some q → u_Kn s q.1 q.2.1 q.2.2 (D.1 k) (D.2 k) := by
    refine ⟨(fun k => if k = 0 then c0 else c1, fun k => if k = 0 then iS0 else iS1), ?_⟩
    intro k q hq
    match k, hq with
    | 0, hq => cases hq; exact hKn0
    | 1, hq => cases hq; exact hKn1
    | k + 2, hq => simp [vwCl] at hq
  have hA : ∀ q : Nat, s.heap.size ≤ q → A0 s q := fun _ h => h
  have hS : va_S (A0 s) s.heap s.heap [] := va_S.rf
  have hK : va_K D vwCl [] s := ⟨hKc, fun k q h => by simp at h⟩
  have hP : va_P D vwCl [] s.heap := fun k q h => by simp at h
  have hD : va_D (A0 s) [] := ⟨fun i j p q h => by simp at h, fun k q h => by simp at h⟩
  have hl := lv_entry ([.ref b]) (n := 9) (Nat.le_of_ble_eq_true rfl)
  rw [lg_entry_eq]
  generalize (lg_sl ([.ref b]) ++ List.replicate (9 - (lg_sl ([.ref b])).length) Slot.unset).toArray = ls at hl ⊢
  have hl : lv_has ls 9 [(0, .ref b)] := hl
  refine va_new (ci := 0) (fs := [.null, .null, .null, .null, .null, .null, .null, .int 0, .int 0, .int 0]) (C := RX0) (T := TX0) (N := 10) hx hb hC.2.2.2.2 inlX0 tyX0 tyX0_ok hC.2.2.2.1 (hC.2.2.2.2 _ mv_0) (hC.2.2.2.2 _ mv_1) (hC.2.2.2.2 _ mw_2) hK hP hD hS hA rfl (fun j hj => by rcases (show j = 0 ∨ j = 1 ∨ j = 2 ∨ j = 3 ∨ j = 4 ∨ j = 5 ∨ j = 6 ∨ j = 7 ∨ j = 8 ∨ j = 9 by omega) with rfl | rfl | rfl | rfl | rfl | rfl | rfl | rfl | rfl | rfl <;> rfl) (Nat.le_of_ble_eq_true rfl) (Nat.le_of_ble_eq_true rfl) dL_law_0 (fun qb H hP hD hS => ?_)
  have hP : va_P D vwCl [(qb, .inr (0, [.null, .null, .null, .null, .null, .null, .null, .int 0, .int 0, .int 0]))] H := hP
  have hqb : A0 s qb := hD.2 0 _ rfl
  refine lv_dup hx hb dL_law_3 rfl ?_
  refine kI (mc := 13) (ms := 100) hC (i_X0 l D qb H.size) bl_X0 (fun U hU hW1 => ⟨by rw [hU], hK.moved hW1.alike, AOA_warm hW1.alike hAO, by rw [hU]; exact hP⟩) rfl mv_9 mv_7 mv_8 mw_2 rfl rfl ⟨by decide +kernel, by decide +kernel, by decide +kernel⟩ ⟨Nat.le_of_ble_eq_true rfl, Nat.le_of_ble_eq_true rfl⟩ ⟨Nat.le_of_ble_eq_true rfl, Nat.le_of_ble_eq_true rfl⟩ hl.1 (Nat.le_of_ble_eq_true rfl) dL_law_4 (fun v st t L1 hst hvm hq hL1 => ?_)
  obtain ⟨hv, ⟨cI, cQ, a, ha13, halo, hB⟩, hF⟩ := hq
  cases hv
  have hA1 : ∀ q, (q = qb ∨ H.size ≤ q) → A0 s q := fun q z => z.elim (fun z => by rw [z]; exact hqb) (fun z => Nat.le_trans hS.1 z)
  have hS := S_more hS hst hF hA1 hL1
  have hB := hB.moved hvm.symm
  have hsz := hF.1
  rw [hst] at hsz
  have haA : ∀ k, k < 14 → A0 s (a k) := fun k hk => by
    by_cases h : k = 13
    · rw [h, ha13]; exact hqb
    · exact hA1 _ (Or.inr (halo k (by omega)))
  generalize t.heap = H at hS hB ⊢
  generalize [] ++ L1 = locs at hS ⊢
  rw [← ha13]
  refine lv_astore_n (lv' := [(1, .ref (a 13)), (0, .ref b)]) hx hb dL_law_7 rfl hl (by decide) rfl (fun ls hl => ?_)
  refine va_new (ci := 1) (fs := [.int 0, .int 0, .int 0, .null, .null, .null, .null, .null]) (C := RX1) (T := TX1) (N := 8) hx hb hC.2.2.2.2 inlX1 tyX1 tyX1_ok hC.2.2.2.1 (hC.2.2.2.2 _ mv_3) (hC.2.2.2.2 _ mv_4) (hC.2.2.2.2 _ mw_5) hB.1 hB.2.1 (hB.D.weaken (fun k q hk _ => by obtain ⟨-, h2⟩ := vwB_at k q hk; rw [h2]; exact haA _ (Nat.mod_lt _ (by decide)))) hS hA rfl (fun j hj => by rcases (show j = 0 ∨ j = 1 ∨ j = 2 ∨ j = 3 ∨ j = 4 ∨ j = 5 ∨ j = 6 ∨ j = 7 by omega) with rfl | rfl | rfl | rfl | rfl | rfl | rfl | rfl <;> rfl) (Nat.le_of_ble_eq_true rfl) (Nat.le_of_ble_eq_true rfl) dL_law_8 (fun qm H hP hD hS => ?_)
  have hqm : A0 s qm := hD.2 14 _ rfl
  have hP1 : va_P D vwCl [(qm, .inr (1, [.int 0, .int 0, .int 0, .null, .null, .null, .null, .null]))] H := hP.sub [14] rfl
  have hB : BW D cI cQ a (fun _ _ => 0) s H := ⟨hB.1, hP.sub [0, 1, 2, 3, 4, 5, 6, 7, 8, 9, 10, 11, 12, 13] rfl, hB.2.2⟩
  have hne : ∀ k, k < 14 → a k ≠ qm := fun k hk hq => by
    obtain ⟨e1, h1⟩ := vwB_get (cI := cI) (cQ := cQ) (a := a) (S := (fun _ _ => 0)) hk
    have h2 : (vwB cI cQ a (fun _ _ => 0) ++ [(qm, .inr (1, [.int 0, .int 0, .int 0, .null, .null, .null, .null, .null]))])[(k + 1) % 14]? = some (a k, e1) := by
      rw [List.getElem?_append_left (by show _ < 14; omega)]
      exact h1
    have h3 := hD.1 _ 14 _ _ h2 rfl hq
    omega
  refine lv_dup hx hb dL_law_11 rfl ?_
  refine kI (mc := 5) (ms := 166) hC (i_X1 l D qm H.size) bl_X1 (fun U hU hW1 => ⟨by rw [hU], hK.moved hW1.alike, by rw [hU]; exact hP1⟩) rfl mv_24 mv_22 mv_23 mw_5 rfl rfl ⟨by decide +kernel, by decide +kernel, by decide +kernel⟩ ⟨Nat.le_of_ble_eq_true rfl, Nat.le_of_ble_eq_true rfl⟩ ⟨Nat.le_of_ble_eq_true rfl, Nat.le_of_ble_eq_true rfl⟩ hl.1 (Nat.le_of_ble_eq_true rfl) dL_law_12 (fun v st t L2 hst hvm hq hL2 => ?_)
  obtain ⟨hv, ⟨cJ, bb, hb5, hblo, hN⟩, hF⟩ := hq
  cases hv
  have hA2 : ∀ q, (q = qm ∨ H.size ≤ q) → A0 s q := fun q z => z.elim (fun z => by rw [z]; exact hqm) (fun z => Nat.le_trans hS.1 z)
  have hS := S_more hS hst hF hA2 hL2
  have hN := hN.moved hvm.symm
  have hbA : ∀ k, k < 6 → A0 s (bb k) := fun k hk => by
    by_cases h : k = 5
    · rw [h, hb5]; exact hqm
    · exact hA2 _ (Or.inr (hblo k (by omega)))
  have hab : ∀ i j, i < 14 → j < 6 → a i ≠ bb j := fun i j hi hj => by
    by_cases h : j = 5
    · rw [h, hb5]; exact hne i hi
    · have h1 := hB.lt i hi
      have h2 := hblo j (by omega)
      omega
  have hB : BW D cI cQ a (fun _ _ => 0) s t.heap := hB.kept (fun k hk => by
    have h1 := hF.2 (a k) (by rw [hst]; exact hB.lt k hk) (fun z => z.elim (hne k hk) (fun z => by have := hB.lt k hk; omega))
    rw [h1, hst])
  have ec := nm_eq (hB.1.2 0 (cI, .int) rfl).2 (hN.1.2 0 (cJ, .int) rfl).2
  subst ec
  generalize t.heap = H at hS hB hN ⊢
  generalize locs ++ L2 = locs at hS ⊢
  rw [← hb5]
  refine lv_astore_n (lv' := [(2, .ref (bb 5)), (1, .ref (a 13)), (0, .ref b)]) hx hb dL_law_15 rfl hl (by decide) rfl (fun ls hl => ?_)
  refine lv_iconst (v := 1) hx hb dL_law_16 (by decide) ?_
  refine va_newaK (atype := .long) (N := 1) (h := H.size) hx hb (hC.2.2.2.2 _ mv_6) rfl dL_law_17 rfl (by decide) (by decide) (by decide) (Nat.le_of_ble_eq_true rfl) (Nat.le_of_ble_eq_true rfl) rfl (fun H2 cL e1 z1 o1 hAr hNm => ?_)
  have hO : OW D cL H.size 0 s H2 := by
    refine ⟨⟨hK.1, fun k q hk => ?_⟩, fun k q hk => ?_⟩
    · have h1 := (List.getElem?_eq_some_iff.mp hk).1
      simp only [List.length_cons, List.length_nil] at h1
      have h2 : k = 0 := by omega
      subst h2
      cases hk
      exact ⟨hAr, hNm⟩
    · have h1 := (List.getElem?_eq_some_iff.mp hk).1
      simp only [List.length_cons, List.length_nil] at h1
      have h2 : k = 0 := by omega
      subst h2
      cases hk
      show H2[H.size]? = some (vp_cell cL (1, .inr (.inl (fun j => if j = 0 then (0 : Int64) else 0))))
      rw [e1, show (fun j : Nat => if j = 0 then (0 : Int64) else 0) = fun _ => 0 from funext fun j => by split <;> rfl]
      rfl
  have hB2 : BW D cI cQ a (fun _ _ => 0) s H2 := hB.kept (fun k hk => o1 _ (hB.lt k hk))
  have hN2 : MW D cI bb (fun _ _ => 0) s H2 := hN.kept (fun k hk => o1 _ (hN.lt k hk))
  have hS2 : va_S (A0 s) s.heap H2 locs := ⟨by rw [z1]; exact Nat.le_trans hS.1 (Nat.le_succ _), fun q h1 h2 => by rw [o1 q (Nat.lt_of_lt_of_le h1 hS.1)]; exact hS.2.1 q h1 h2, hS.2.2⟩
  have hX : LX l p m c s #[Value.ref b] b L xs a bb H.size := ⟨hC, hl9, hbx, hbl, hL, hZX, hZH, fun q z => by obtain ⟨k, hk, e⟩ := z; rw [e]; exact haA k hk, fun q z => by obtain ⟨k, hk, e⟩ := z; rw [e]; exact hbA k hk, hS.1, hab, fun i hi => Nat.ne_of_lt (hB.lt i hi), fun j hj => Nat.ne_of_lt (hN.lt j hj)⟩
  refine W.eq (g2 := F0 m 19 ls [.ref H.size]) rfl ?_
  refine lv_astore_n (lv' := [(3, .ref (H.size)), (2, .ref (bb 5)), (1, .ref (a 13)), (0, .ref b)]) hx hb dL_law_19 rfl hl (by decide) rfl (fun ls hl => ?_)
  refine lv_iconst (v := 0) hx hb dL_law_20 (by decide) ?_
  refine lv_istore (lv' := [(4, .int (nI (4 * 0))), (3, .ref (H.size)), (2, .ref (bb 5)), (1, .ref (a 13)), (0, .ref b)]) hx hb dL_law_21 hl (by decide) rfl (fun ls hl => ?_)
  refine law_loop hX (fun H1 locs1 cells1 slots1 ls1 hS1 hc1 hc2 hl1 => ?_) 512 0 rfl H2 locs _ _ (fun _ _ => 0) (fun _ _ => 0) 0 ls Jn_0 hB2 hN2 hO hS2 (Nat.le_of_ble_eq_true rfl) (Nat.le_of_ble_eq_true rfl) (lv_sub hl [0, 4, 3, 2, 1] rfl)
  refine lv_iconst (v := 1) hx hb dL_law_1565 (by decide) ?_
  refine va_forget (fun q hq => hS1.2.2 q hq) ?_
  refine W.widen (k := 601024) (n := 7293034) hc1 hc2 ?_
  exact W.base (lw_ret (Drawn.sameBut.refl s.drawn lw_cs) hx hb hr hlocks dL_law_1566)
